/-! Floor: step, rounds, nights -/
theorem dn {Q : Nat → Prop} {n : Nat} (h0 : Q n) (hs : ∀ k, k < n → Q (k + 1) → Q k) : ∀ k, k ≤ n → Q k := by
  intro k hk
  have key : ∀ m k, k + m = n → Q k := by
    intro m
    induction m with
    | zero =>
      intro k hk
      obtain rfl : k = n := by omega
      exact h0
    | succ m ih => exact fun k hk => hs k (by omega) (ih (k + 1) (by omega))
  exact key (n - k) k (by omega)
def uN (f : Nat → Nat) (a v : Nat) : Nat → Nat := fun x => if x = a then v else f x
def uN2 (o : Nat → Nat → Nat) (a b v : Nat) : Nat → Nat → Nat := fun x y => if x = a ∧ y = b then v else o x y
def Fl.sD (F : Fl) (a v : Nat) : Fl := mkF F.n F.rd F.ni F.ru F.ki F.nu (uN F.dn a v) F.ow
def Fl.sO (F : Fl) (a b v : Nat) : Fl := mkF F.n F.rd F.ni F.ru F.ki F.nu F.dn (uN2 F.ow a b v)
def Fl.sR (F : Fl) (v : Nat) : Fl := mkF F.n v F.ni F.ru F.ki F.nu F.dn F.ow
def Fl.sNi (F : Fl) (v : Nat) : Fl := mkF F.n F.rd v F.ru F.ki F.nu F.dn F.ow
theorem iv_at {S : St} {j g k : Nat} {v : Int32} : (ivSet S j g k v).1 j g k = v := by simp [ivSet, up3]
theorem iv_ne {S : St} {j g k a b c : Nat} {v : Int32} (h : ¬ (a = j ∧ b = g ∧ c = k)) : (ivSet S j g k v).1 a b c = S.1 a b c := by
  simp only [ivSet, up3]
  rw [if_neg h]
theorem HF.sD {S : St} {f : Nat} {F : Fl} (h : HF S f F) (a v : Nat) : HF (ivSet S 13 f a (nI v)) f (F.sD a v) := by
  obtain ⟨a1, a2, a3, a4, a5, a6⟩ := h
  refine ⟨?_, ?_, ?_, ?_, fun x hx => ⟨?_, ?_, ?_⟩, fun x y hx hy => ?_⟩
  · rw [iv_ne (by omega)]; exact a1
  · rw [iv_ne (by omega)]; exact a2
  · rw [iv_ne (by omega)]; exact a3
  · rw [iv_ne (by omega)]; exact a4
  · rw [iv_ne (by omega)]; exact (a5 x hx).1
  · rw [iv_ne (by omega)]; exact (a5 x hx).2.1
  · show _ = nI (uN F.dn a v x)
    unfold uN
    split
    · rename_i e
      rw [e, iv_at]
    · rename_i e
      rw [iv_ne (by omega)]
      exact (a5 x hx).2.2
  · rw [iv_ne (by omega)]; exact a6 x y hx hy
theorem HF.sO {S : St} {f : Nat} {F : Fl} (h : HF S f F) (hn : F.n ≤ 5) (a b v : Nat) (hb : b < F.n) : HF (ivSet S 14 f (5 * a + b) (nI v)) f (F.sO a b v) := by
  obtain ⟨a1, a2, a3, a4, a5, a6⟩ := h
  refine ⟨?_, ?_, ?_, ?_, fun x hx => ⟨?_, ?_, ?_⟩, fun x y hx hy => ?_⟩
  · rw [iv_ne (by omega)]; exact a1
  · rw [iv_ne (by omega)]; exact a2
  · rw [iv_ne (by omega)]; exact a3
  · rw [iv_ne (by omega)]; exact a4
  · rw [iv_ne (by omega)]; exact (a5 x hx).1
  · rw [iv_ne (by omega)]; exact (a5 x hx).2.1
  · rw [iv_ne (by omega)]; exact (a5 x hx).2.2
  · show _ = nI (uN2 F.ow a b v x y)
    have hy' : y < F.n := hy
    unfold uN2
    split
    · rename_i e
      rw [e.1, e.2, iv_at]
    · rename_i e
      rw [iv_ne (by omega)]
      exact a6 x y hx hy
theorem HF.sR {S : St} {f : Nat} {F : Fl} (h : HF S f F) (v : Nat) : HF (ivSet S 10 f 2 (nI v)) f (F.sR v) := by
  obtain ⟨a1, a2, a3, a4, a5, a6⟩ := h
  refine ⟨?_, ?_, ?_, ?_, fun x hx => ⟨?_, ?_, ?_⟩, fun x y hx hy => ?_⟩
  · rw [iv_ne (by omega)]; exact a1
  · rw [iv_at]; rfl
  · rw [iv_ne (by omega)]; exact a3
  · rw [iv_ne (by omega)]; exact a4
  · rw [iv_ne (by omega)]; exact (a5 x hx).1
  · rw [iv_ne (by omega)]; exact (a5 x hx).2.1
  · rw [iv_ne (by omega)]; exact (a5 x hx).2.2
  · rw [iv_ne (by omega)]; exact a6 x y hx hy
theorem HF.sNi {S : St} {f : Nat} {F : Fl} (h : HF S f F) (v : Nat) : HF (ivSet S 10 f 3 (nI v)) f (F.sNi v) := by
  obtain ⟨a1, a2, a3, a4, a5, a6⟩ := h
  refine ⟨?_, ?_, ?_, ?_, fun x hx => ⟨?_, ?_, ?_⟩, fun x y hx hy => ?_⟩
  · rw [iv_ne (by omega)]; exact a1
  · rw [iv_ne (by omega)]; exact a2
  · rw [iv_at]; rfl
  · rw [iv_ne (by omega)]; exact a4
  · rw [iv_ne (by omega)]; exact (a5 x hx).1
  · rw [iv_ne (by omega)]; exact (a5 x hx).2.1
  · rw [iv_ne (by omega)]; exact (a5 x hx).2.2
  · rw [iv_ne (by omega)]; exact a6 x y hx hy
theorem WF.sD {nT : Nat} {F : Fl} (h : WF nT F) (a : Nat) {v : Nat} (hv : v ≤ 99) : WF nT (F.sD a v) := by
  refine ⟨h.1, h.2.1, h.2.2.1, fun x hx => ⟨(h.2.2.2 x hx).1, (h.2.2.2 x hx).2.1, ?_, (h.2.2.2 x hx).2.2.2⟩⟩
  show uN F.dn a v x ≤ 99
  unfold uN
  split
  · exact hv
  · exact h.dn hx
theorem WF.sO {nT : Nat} {F : Fl} (h : WF nT F) (a b : Nat) {v : Nat} (hv : v ≤ 99) : WF nT (F.sO a b v) := by
  refine ⟨h.1, h.2.1, h.2.2.1, fun x hx => ⟨(h.2.2.2 x hx).1, (h.2.2.2 x hx).2.1, (h.2.2.2 x hx).2.2.1, fun y hy => ?_⟩⟩
  show uN2 F.ow a b v x y ≤ 99
  unfold uN2
  split
  · exact hv
  · exact h.ow hx hy
theorem WF.sR {nT : Nat} {F : Fl} (h : WF nT F) (v : Nat) : WF nT (F.sR v) := h
theorem WF.sNi {nT : Nat} {F : Fl} (h : WF nT F) (v : Nat) : WF nT (F.sNi v) := h
/-- both have paid, and danced -/
def slN (F : Fl) (a b p q : Nat) : Fl := (((F.sO a b (F.ow a b - p)).sO b a (F.ow b a - q)).sD a (if 99 < F.dn a + 1 then 99 else F.dn a + 1)).sD b (if 99 < F.dn b + 1 then 99 else F.dn b + 1)
def stpN (tv : TV) (F : Fl) (a b : Nat) : Fl := slN F a b (pyN tv F a (F.ow a b)) (pyN tv F b (F.ow b a))
theorem WF.sl {nT : Nat} {F : Fl} (h : WF nT F) {a b : Nat} (ha : a < F.n) (hb : b < F.n) (p q : Nat) : WF nT (slN F a b p q) := by
  have h1 := h.ow ha hb
  have h2 := h.ow hb ha
  exact (((h.sO a b (by omega)).sO b a (by omega)).sD a (by split <;> omega)).sD b (by split <;> omega)
theorem nI_min (x : Nat) (hx : x < 2 ^ 30) : (if 99 < nI x + 1 then (99 : Int32) else nI x + 1) = nI (if 99 < x + 1 then 99 else x + 1) := by
  rw [nI_1, show (99 : Int32) = nI 99 from rfl]
  by_cases h : 99 < x + 1
  · rw [if_pos h, if_pos (nI_lt h (by omega))]
  · rw [if_neg h, if_neg (nI_nlt (by omega) (by omega))]
/-- a step's writes -/
def wS (f n : Nat) : WW := fun j g k => j = 4 ∨ j = 5 ∨ (g = f ∧ (j = 13 ∧ k < n ∨ j = 14 ∧ k / 5 < n ∧ k % 5 < n))
theorem wS_ok (f n : Nat) : okW (wS f n) := by
  intro j g k hj
  simp only [wS] at hj
  omega
theorem HF.sl {S : St} {f nT : Nat} {F : Fl} (h : HF S f F) (hW : WF nT F) {a b p q : Nat} (ha : a < F.n) (hb : b < F.n) (hab : ¬ a = b) (hp : p ≤ F.ow a b) (hq : q ≤ F.ow b a) : HF (stS S f a b (nI p) (nI q)) f (slN F a b p q) ∧ Ag (wS f F.n) S (stS S f a b (nI p) (nI q)) := by
  have hn := hW.1
  have o1 := hW.ow ha hb
  have o2 := hW.ow hb ha
  have d1 := hW.dn ha
  have d2 := hW.dn hb
  unfold stS
  have e1 : lsS S f a b (nI p) = ivSet S 14 f (5 * a + b) (nI (F.ow a b - p)) := by
    unfold lsS
    rw [h.ow ha hb, pk_sub hp]
  have h1 := h.sO hn a b (F.ow a b - p) hb
  have e2 : lsS (lsS S f a b (nI p)) f b a (nI q) = ivSet (ivSet S 14 f (5 * a + b) (nI (F.ow a b - p))) 14 f (5 * b + a) (nI (F.ow b a - q)) := by
    rw [e1]
    unfold lsS
    rw [iv_ne (by omega), h.ow hb ha, pk_sub hq]
  have h2 := h1.sO hn b a (F.ow b a - q) ha
  rw [e2]
  generalize hA : ivSet (ivSet S 14 f (5 * a + b) (nI (F.ow a b - p))) 14 f (5 * b + a) (nI (F.ow b a - q)) = A at h2 ⊢
  have gA : Ag (wS f F.n) S A := by
    rw [← hA]
    exact (Ag.iv (Or.inr (Or.inr ⟨rfl, Or.inr ⟨rfl, by omega, by omega⟩⟩))).tr (Ag.iv (Or.inr (Or.inr ⟨rfl, Or.inr ⟨rfl, by omega, by omega⟩⟩)))
  have e3 : dnS A f a = ivSet A 13 f a (nI (if 99 < F.dn a + 1 then 99 else F.dn a + 1)) := by
    unfold dnS
    rw [show A.1 13 f a = nI (F.dn a) from h2.dn ha, nI_min _ (by omega)]
  have h3 := h2.sD a (if 99 < F.dn a + 1 then 99 else F.dn a + 1)
  have e4 : dnS (dnS A f a) f b = ivSet (ivSet A 13 f a (nI (if 99 < F.dn a + 1 then 99 else F.dn a + 1))) 13 f b (nI (if 99 < F.dn b + 1 then 99 else F.dn b + 1)) := by
    rw [e3]
    unfold dnS
    rw [iv_ne (by omega), show A.1 13 f b = nI (F.dn b) from h2.dn hb, nI_min _ (by omega)]
  rw [e4]
  exact ⟨h3.sD b _, (gA.tr (Ag.iv (Or.inr (Or.inr ⟨rfl, Or.inl ⟨rfl, ha⟩⟩)))).tr (Ag.iv (Or.inr (Or.inr ⟨rfl, Or.inl ⟨rfl, hb⟩⟩)))⟩
theorem FX.sl {tv : TV} {nT : Nat} {S : St} {f : Nat} {F : Fl} (h : FX tv nT S f F) {a b p q : Nat} (ha : a < F.n) (hb : b < F.n) (hab : ¬ a = b) (hp : p ≤ F.ow a b) (hq : q ≤ F.ow b a) : FX tv nT (stS S f a b (nI p) (nI q)) f (slN F a b p q) ∧ Ag (wS f F.n) S (stS S f a b (nI p) (nI q)) := by
  obtain ⟨h1, h2⟩ := h.2.1.sl h.2.2 ha hb hab hp hq
  exact ⟨⟨h.1.up h2 (wS_ok f _), h1, h.2.2.sl ha hb p q⟩, h2⟩
theorem q_settle {tv : TV} {nT d : Nat} {S : St} {K : KT} {f a b p q : Nat} {F : Fl} (hd : 2 ≤ d) (hX : FX tv nT S f F) (ha : a < F.n) (hb : b < F.n) (hab : ¬ a = b) (hp : p ≤ F.ow a b) (hq : q ≤ F.ow b a) (h : ∀ S', Ag (wS f F.n) S S' → FX tv nT S' f (slN F a b p q) → K none S') : Call d m_X0_settle [aR 10 f, aI (nI a), aI (nI b), aI (nI p), aI (nI q)] S K := by
  have hn := hX.2.2.1
  obtain ⟨h1, h2⟩ := hX.sl ha hb hab hp hq
  exact sp_settle hd hX.1.1 (by omega) (by omega) (h _ h2 h1)
theorem pyN_le (tv : TV) (F : Fl) (a : Nat) {o : Nat} (ho : o < 2 ^ 31) : pyN tv F a o ≤ o := wN_le _ ho
def spN (tv : TV) (F : Fl) (a b : Nat) : Nat := pyN tv F a (F.ow a b) + pyN tv F b (F.ow b a)
theorem q_step {tv : TV} {nT d : Nat} {S : St} {K : KT} {f a b : Nat} {F : Fl} (hd : 4 ≤ d) (hX : FX tv nT S f F) (ha : a < F.n) (hb : b < F.n) (hab : ¬ a = b) (h : ∀ S', Ag (wS f F.n) S S' → FX tv nT S' f (stpN tv F a b) → K (some (aI (nI (spN tv F a b)))) S') : Call d m_X0_step [aR 10 f, aI (nI a), aI (nI b)] S K := by
  refine Call.of (k := 3) hd (fun e he P hP => ?_)
  have hN := hX.1.1
  have o1 := hX.2.2.ow ha hb
  have o2 := hX.2.2.ow hb ha
  repeat (first | (refine hP _ _ _ _ _ _ ?_; show P _ _ _ _ _ _) | (refine hP _ _ _ _ _ _ (And.intro (hN _ _ _ rfl) ?_); show P _ _ (aR _ _ :: _) _ _ _))
  refine hP _ _ _ _ _ _ (q_owing (by omega) hX ha hb ?_)
  repeat (first | (refine hP _ _ _ _ _ _ ?_; show P _ _ _ _ _ _) | (refine hP _ _ _ _ _ _ (And.intro (hN _ _ _ rfl) ?_); show P _ _ (aR _ _ :: _) _ _ _))
  refine hP _ _ _ _ _ _ (q_pays (by omega) hX ha (fun S1 h1 => ?_))
  have hX1 := hX.sc h1
  have hN := hX1.1.1
  repeat (first | (refine hP _ _ _ _ _ _ ?_; show P _ _ _ _ _ _) | (refine hP _ _ _ _ _ _ (And.intro (hN _ _ _ rfl) ?_); show P _ _ (aR _ _ :: _) _ _ _))
  refine hP _ _ _ _ _ _ (q_owing (by omega) hX1 hb ha ?_)
  repeat (first | (refine hP _ _ _ _ _ _ ?_; show P _ _ _ _ _ _) | (refine hP _ _ _ _ _ _ (And.intro (hN _ _ _ rfl) ?_); show P _ _ (aR _ _ :: _) _ _ _))
  refine hP _ _ _ _ _ _ (q_pays (by omega) hX1 hb (fun S2 h2 => ?_))
  have hX2 := hX1.sc h2
  have hN := hX2.1.1
  repeat (first | (refine hP _ _ _ _ _ _ ?_; show P _ _ _ _ _ _) | (refine hP _ _ _ _ _ _ (And.intro (hN _ _ _ rfl) ?_); show P _ _ (aR _ _ :: _) _ _ _))
  refine hP _ _ _ _ _ _ (q_settle (by omega) hX2 ha hb hab (pyN_le tv F a (by omega)) (pyN_le tv F b (by omega)) (fun S3 h3 hX3 => ?_))
  repeat (first | (refine hP _ _ _ _ _ _ ?_; show P _ _ _ _ _ _) | (refine hP _ _ _ _ _ _ (And.intro (hN _ _ _ rfl) ?_); show P _ _ (aR _ _ :: _) _ _ _))
  have hg : Ag (wS f F.n) S S3 := ((h1.tr h2).mono (fun j g k hw => by simp only [w0] at hw; simp only [wS]; omega)).tr h3
  have h := h S3 hg hX3
  unfold spN at h
  rw [← nI_add] at h
  exact hP _ _ _ _ _ _ (h)
/-- a round -/
def bt (a b : Nat) : Int32 := ((1 : Int32) <<< (nI a &&& 31)) ||| ((1 : Int32) <<< (nI b &&& 31))
def r1 (tv : TV) (A : Nat × Int32 × Fl) (a b : Nat) : Nat × Int32 × Fl := if b < A.2.2.n ∧ A.2.1 &&& bt a b = 0 ∧ myN tv A.2.2 a b = true then (A.1 + spN tv A.2.2 a b, A.2.1 ||| bt a b, stpN tv A.2.2 a b) else A
def rA (tv : TV) (F : Fl) : Nat → Nat × Int32 × Fl
  | 0 => (0, 0, F)
  | k + 1 => r1 tv (rA tv F k) (prA k) (prB k)
def rdP (tv : TV) (F : Fl) : Nat := (rA tv F 10).1
def rdZ (tv : TV) (F : Fl) : Int32 := (rA tv F 10).2.1
def rdF (tv : TV) (F : Fl) : Fl := (rA tv F 10).2.2.sR ((rA tv F 10).2.2.rd + 1)
theorem pr_lt : ∀ k, k < 10 → prA k < prB k ∧ prB k < 5 := by decide
def wR (f : Nat) : WW := fun j g k => j = 4 ∨ j = 5 ∨ (g = f ∧ (j = 13 ∨ j = 14 ∨ (j = 10 ∧ (k = 2 ∨ k = 9))))
def wRn (f n : Nat) : WW := fun j g k => j = 4 ∨ j = 5 ∨ (g = f ∧ (j = 13 ∧ k < n ∨ j = 14 ∧ k / 5 < n ∧ k % 5 < n ∨ (j = 10 ∧ (k = 2 ∨ k = 9))))
theorem wRn_R (f n : Nat) : ∀ j g k, wRn f n j g k → wR f j g k := by
  intro j g k hj
  simp only [wRn] at hj
  simp only [wR]
  omega
theorem stpN_n (tv : TV) (F : Fl) (a b : Nat) : (stpN tv F a b).n = F.n := rfl
theorem rA_n (tv : TV) (F : Fl) : ∀ k, (rA tv F k).2.2.n = F.n
  | 0 => rfl
  | k + 1 => by
    simp only [rA, r1]
    split
    · exact rA_n tv F k
    · exact rA_n tv F k
theorem wR_ok (f : Nat) : okW (wR f) := by
  intro j g k hj
  simp only [wR] at hj
  omega
theorem FX.sR {tv : TV} {nT : Nat} {S : St} {f : Nat} {F : Fl} (h : FX tv nT S f F) (v : Nat) : FX tv nT (ivSet S 10 f 2 (nI v)) f (F.sR v) :=
  ⟨h.1.up (W := wR f) (Ag.iv (by simp [wR])) (wR_ok f), h.2.1.sR v, h.2.2.sR v⟩
theorem bt_add (a b : Nat) : ((1 : Int32) <<< (nI a &&& 31)) ||| ((1 : Int32) <<< (nI b &&& 31)) = bt a b := rfl
theorem q_danceRound {tv : TV} {nT d : Nat} {S : St} {K : KT} {f : Nat} {F : Fl} (hd : 5 ≤ d) (hX : FX tv nT S f F) (h : ∀ S', Ag (wRn f F.n) S S' → FX tv nT S' f (rdF tv F) → S'.1 10 f 9 = rdZ tv F → K (some (aI (nI (rdP tv F)))) S') : Call d m_X0_danceRound [aR 10 f] S K := by
  refine Call.of (k := 4) hd (fun e he P hP => ?_)
  have hN := hX.1.1
  have loop : ∀ k, k ≤ 10 → ∀ S1 x3 x4 x5, Ag (wRn f F.n) S S1 → FX tv nT S1 f (rA tv F k).2.2 → S1.1 10 f 9 = (rA tv F k).2.1 → P 14 [some (aR 10 f), some (aI (nI (rA tv F k).1)), some (aI (nI k)), x3, x4, x5] [aI (nI 10), aI (nI k)] S1 0 0 := by
    refine dn ?_ ?_
    · intro S1 x3 x4 x5 g1 hX1 hz
      have hN := hX1.1.1
      repeat (first | (refine hP _ _ _ _ _ _ ?_; show P _ _ _ _ _ _) | (refine hP _ _ _ _ _ _ (And.intro (hN _ _ _ rfl) ?_); show P _ _ (aR _ _ :: _) _ _ _))
      refine hP _ _ _ _ _ _ (And.intro (fun _ => ?_) (fun hc => absurd (nI_le (Nat.le_refl 10) (by decide)) hc))
      repeat (first | (refine hP _ _ _ _ _ _ ?_; show P _ _ _ _ _ _) | (refine hP _ _ _ _ _ _ (And.intro (hN _ _ _ rfl) ?_); show P _ _ (aR _ _ :: _) _ _ _))
      have e2 : S1.1 10 f 2 + 1 = nI ((rA tv F 10).2.2.rd + 1) := by rw [hX1.2.1.2.1, nI_1]
      show P _ _ _ (ivSet S1 10 f 2 (S1.1 10 f 2 + 1)) _ _
      rw [e2]
      have hX2 := hX1.sR ((rA tv F 10).2.2.rd + 1)
      repeat (first | (refine hP _ _ _ _ _ _ ?_; show P _ _ _ _ _ _) | (refine hP _ _ _ _ _ _ (And.intro (hN _ _ _ rfl) ?_); show P _ _ (aR _ _ :: _) _ _ _))
      have h := h _ (g1.tr (Ag.iv (by simp [wRn]))) hX2 (by rw [iv_ne (by omega)]; exact hz)
      exact hP _ _ _ _ _ _ (h)
    · intro k hk ih S1 x3 x4 x5 g1 hX1 hz
      have hN := hX1.1.1
      obtain ⟨t1, t2⟩ := hX1.1.2.2.1 k hk
      obtain ⟨p1, p2⟩ := pr_lt k hk
      have hn5 := hX1.2.2.1
      repeat (first | (refine hP _ _ _ _ _ _ ?_; show P _ _ _ _ _ _) | (refine hP _ _ _ _ _ _ (And.intro (hN _ _ _ rfl) ?_); show P _ _ (aR _ _ :: _) _ _ _))
      refine hP _ _ _ _ _ _ (And.intro (fun hc => absurd hc (nI_ge (b := 10) hk (by decide))) (fun _ => ?_))
      repeat (first | (refine hP _ _ _ _ _ _ ?_; show P _ _ _ _ _ _) | (refine hP _ _ _ _ _ _ (And.intro (hN _ _ _ rfl) ?_); show P _ _ (aR _ _ :: _) _ _ _))
      refine hP _ _ _ _ _ _ (Exists.intro (k) (And.intro (And.intro (rfl) (show k < 10 from hk)) ?_))
      rw [t1]
      repeat (first | (refine hP _ _ _ _ _ _ ?_; show P _ _ _ _ _ _) | (refine hP _ _ _ _ _ _ (And.intro (hN _ _ _ rfl) ?_); show P _ _ (aR _ _ :: _) _ _ _))
      refine hP _ _ _ _ _ _ (Exists.intro (k) (And.intro (And.intro (rfl) (show k < 10 from hk)) ?_))
      rw [t2]
      repeat (first | (refine hP _ _ _ _ _ _ ?_; show P _ _ _ _ _ _) | (refine hP _ _ _ _ _ _ (And.intro (hN _ _ _ rfl) ?_); show P _ _ (aR _ _ :: _) _ _ _))
      rw [bt_add, hX1.2.1.1]
      have skip : rA tv F (k + 1) = rA tv F k → P 90 [some (aR 10 f), some (aI (nI (rA tv F k).1)), some (aI (nI k)), some (aI (nI (prA k))), some (aI (nI (prB k))), some (aI (bt (prA k) (prB k)))] [] S1 0 0 := by
        intro he
        repeat (first | (refine hP _ _ _ _ _ _ ?_; show P _ _ _ _ _ _) | (refine hP _ _ _ _ _ _ (And.intro (hN _ _ _ rfl) ?_); show P _ _ (aR _ _ :: _) _ _ _))
        have := ih S1 (some (aI (nI (prA k)))) (some (aI (nI (prB k)))) (some (aI (bt (prA k) (prB k)))) g1 (by rw [he]; exact hX1) (by rw [he]; exact hz)
        rw [he, nI_succ] at this
        exact this
      refine hP _ _ _ _ _ _ (And.intro (fun hc => ?_) (fun hc => ?_))
      · refine skip ?_
        have : ¬ prB k < (rA tv F k).2.2.n := by
          intro z
          exact absurd hc (nI_ge z (by omega))
        simp [rA, r1, this]
      · have w1 : prB k < (rA tv F k).2.2.n := by
          apply Classical.byContradiction
          intro z
          exact hc (nI_le (by omega) (by omega))
        repeat (first | (refine hP _ _ _ _ _ _ ?_; show P _ _ _ _ _ _) | (refine hP _ _ _ _ _ _ (And.intro (hN _ _ _ rfl) ?_); show P _ _ (aR _ _ :: _) _ _ _))
        rw [hz]
        refine hP _ _ _ _ _ _ (And.intro (fun hc2 => ?_) (fun hc2 => ?_))
        · refine skip ?_
          have : ¬ (rA tv F k).2.1 &&& bt (prA k) (prB k) = 0 := hc2
          simp [rA, r1, this]
        · have w2 : (rA tv F k).2.1 &&& bt (prA k) (prB k) = 0 := hc2
          repeat (first | (refine hP _ _ _ _ _ _ ?_; show P _ _ _ _ _ _) | (refine hP _ _ _ _ _ _ (And.intro (hN _ _ _ rfl) ?_); show P _ _ (aR _ _ :: _) _ _ _))
          refine hP _ _ _ _ _ _ (q_may (by omega) hX1 (by omega) w1 (fun S2 h2 => ?_))
          have hX2 := hX1.sc h2
          have hN := hX2.1.1
          have g2 : Ag (wRn f F.n) S S2 := g1.tr (h2.mono (fun j g k hw => by simp only [w0] at hw; simp only [wRn]; omega))
          have hz2 : S2.1 10 f 9 = (rA tv F k).2.1 := by rw [h2.1 10 f 9 (by simp [w0])]; exact hz
          repeat (first | (refine hP _ _ _ _ _ _ ?_; show P _ _ _ _ _ _) | (refine hP _ _ _ _ _ _ (And.intro (hN _ _ _ rfl) ?_); show P _ _ (aR _ _ :: _) _ _ _))
          refine hP _ _ _ _ _ _ (And.intro (fun hc3 => ?_) (fun hc3 => ?_))
          · have w3 := b2_0 hc3
            have he : rA tv F (k + 1) = rA tv F k := by simp [rA, r1, w3]
            repeat (first | (refine hP _ _ _ _ _ _ ?_; show P _ _ _ _ _ _) | (refine hP _ _ _ _ _ _ (And.intro (hN _ _ _ rfl) ?_); show P _ _ (aR _ _ :: _) _ _ _))
            have := ih S2 (some (aI (nI (prA k)))) (some (aI (nI (prB k)))) (some (aI (bt (prA k) (prB k)))) g2 (by rw [he]; exact hX2) (by rw [he]; exact hz2)
            rw [he, nI_succ] at this
            exact this
          · have w3 := b2_1 hc3
            have he : rA tv F (k + 1) = ((rA tv F k).1 + spN tv (rA tv F k).2.2 (prA k) (prB k), (rA tv F k).2.1 ||| bt (prA k) (prB k), stpN tv (rA tv F k).2.2 (prA k) (prB k)) := by simp [rA, r1, w1, w2, w3]
            repeat (first | (refine hP _ _ _ _ _ _ ?_; show P _ _ _ _ _ _) | (refine hP _ _ _ _ _ _ (And.intro (hN _ _ _ rfl) ?_); show P _ _ (aR _ _ :: _) _ _ _))
            refine hP _ _ _ _ _ _ (q_step (by omega) hX2 (by omega) w1 (by omega) (fun S3 h3 hX3 => ?_))
            have hN := hX3.1.1
            rw [rA_n] at h3
            have g3 : Ag (wRn f F.n) S S3 := g2.tr (h3.mono (fun j g k hw => by simp only [wS] at hw; simp only [wRn]; omega))
            have hz3 : S3.1 10 f 9 = (rA tv F k).2.1 := by rw [h3.1 10 f 9 (by simp [wS])]; exact hz2
            repeat (first | (refine hP _ _ _ _ _ _ ?_; show P _ _ _ _ _ _) | (refine hP _ _ _ _ _ _ (And.intro (hN _ _ _ rfl) ?_); show P _ _ (aR _ _ :: _) _ _ _))
            show P _ _ _ (ivSet S3 10 f 9 (S3.1 10 f 9 ||| bt (prA k) (prB k))) _ _
            rw [hz3, nI_add]
            have g4 : Ag (wRn f F.n) S3 (ivSet S3 10 f 9 ((rA tv F k).2.1 ||| bt (prA k) (prB k))) := Ag.iv (by simp [wRn])
            have hX4 : FX tv nT (ivSet S3 10 f 9 ((rA tv F k).2.1 ||| bt (prA k) (prB k))) f (stpN tv (rA tv F k).2.2 (prA k) (prB k)) := hX3.up (W := fun j g k => j = 10 ∧ g = f ∧ k = 9) (Ag.iv ⟨rfl, rfl, rfl⟩) (fun j g k hw => by omega) (fun j k hw => by omega)
            generalize hS4 : ivSet S3 10 f 9 ((rA tv F k).2.1 ||| bt (prA k) (prB k)) = S4 at g4 hX4 ⊢
            have hz4 : S4.1 10 f 9 = (rA tv F k).2.1 ||| bt (prA k) (prB k) := by rw [← hS4, iv_at]
            repeat (first | (refine hP _ _ _ _ _ _ ?_; show P _ _ _ _ _ _) | (refine hP _ _ _ _ _ _ (And.intro (hN _ _ _ rfl) ?_); show P _ _ (aR _ _ :: _) _ _ _))
            have := ih S4 (some (aI (nI (prA k)))) (some (aI (nI (prB k)))) (some (aI (bt (prA k) (prB k)))) (g3.tr g4) (by rw [he]; exact hX4) (by rw [he]; exact hz4)
            rw [he, nI_succ] at this
            exact this
  repeat (first | (refine hP _ _ _ _ _ _ ?_; show P _ _ _ _ _ _) | (refine hP _ _ _ _ _ _ (And.intro (hN _ _ _ rfl) ?_); show P _ _ (aR _ _ :: _) _ _ _))
  show P _ _ _ (ivSet S 10 f 9 0) _ _
  have hX0 : FX tv nT (ivSet S 10 f 9 0) f F := hX.up (W := fun j g k => j = 10 ∧ g = f ∧ k = 9) (Ag.iv ⟨rfl, rfl, rfl⟩) (fun j g k hw => by omega) (fun j k hw => by omega)
  repeat (first | (refine hP _ _ _ _ _ _ ?_; show P _ _ _ _ _ _) | (refine hP _ _ _ _ _ _ (And.intro (hN _ _ _ rfl) ?_); show P _ _ (aR _ _ :: _) _ _ _))
  exact loop 0 (by omega) _ _ _ _ (Ag.iv (by simp [wRn])) hX0 iv_at
