/-! the class, out of claim whole -/
theorem dn {Q : Nat → Prop} {n : Nat} (h0 : Q n) (hs : ∀ k, k < n → Q (k + 1) → Q k) : ∀ k, k ≤ n → Q k := by
  intro k hk
  have key : ∀ m k, k + m = n → Q k := by
    intro m
    induction m with
    | zero =>
      intro k hk
      obtain rfl : k = n := by omega
      exact h0
    | succ m ih => exact fun k hk => hs k (by omega) (ih (k + 1) (by omega))
  exact key (n - k) k (by omega)
def uN (f : Nat → Nat) (a v : Nat) : Nat → Nat := fun x => if x = a then v else f x
def uN2 (o : Nat → Nat → Nat) (a b v : Nat) : Nat → Nat → Nat := fun x y => if x = a ∧ y = b then v else o x y
def Fl.sD (F : Fl) (a v : Nat) : Fl := mkF F.n F.rd F.ni F.ru F.ki F.nu (uN F.dn a v) F.ow
def Fl.sO (F : Fl) (a b v : Nat) : Fl := mkF F.n F.rd F.ni F.ru F.ki F.nu F.dn (uN2 F.ow a b v)
def Fl.sR (F : Fl) (v : Nat) : Fl := mkF F.n v F.ni F.ru F.ki F.nu F.dn F.ow
def Fl.sNi (F : Fl) (v : Nat) : Fl := mkF F.n F.rd v F.ru F.ki F.nu F.dn F.ow
theorem iv_at {S : St} {j g k : Nat} {v : Int32} : (ivSet S j g k v).1 j g k = v := by simp [ivSet, up3]
theorem iv_ne {S : St} {j g k a b c : Nat} {v : Int32} (h : ¬ (a = j ∧ b = g ∧ c = k)) : (ivSet S j g k v).1 a b c = S.1 a b c := by
  simp only [ivSet, up3]
  rw [if_neg h]
theorem HF.sD {S : St} {f : Nat} {F : Fl} (h : HF S f F) (a v : Nat) : HF (ivSet S 13 f a (nI v)) f (F.sD a v) := by
  obtain ⟨a1, a2, a3, a4, a5, a6⟩ := h
  refine ⟨?_, ?_, ?_, ?_, fun x hx => ⟨?_, ?_, ?_⟩, fun x y hx hy => ?_⟩
  · rw [iv_ne (by omega)]; exact a1
  · rw [iv_ne (by omega)]; exact a2
  · rw [iv_ne (by omega)]; exact a3
  · rw [iv_ne (by omega)]; exact a4
  · rw [iv_ne (by omega)]; exact (a5 x hx).1
  · rw [iv_ne (by omega)]; exact (a5 x hx).2.1
  · show _ = nI (uN F.dn a v x)
    unfold uN
    split
    · rename_i e
      rw [e, iv_at]
    · rename_i e
      rw [iv_ne (by omega)]
      exact (a5 x hx).2.2
  · rw [iv_ne (by omega)]; exact a6 x y hx hy
theorem HF.sO {S : St} {f : Nat} {F : Fl} (h : HF S f F) (hn : F.n ≤ 5) (a b v : Nat) (hb : b < F.n) : HF (ivSet S 14 f (5 * a + b) (nI v)) f (F.sO a b v) := by
  obtain ⟨a1, a2, a3, a4, a5, a6⟩ := h
  refine ⟨?_, ?_, ?_, ?_, fun x hx => ⟨?_, ?_, ?_⟩, fun x y hx hy => ?_⟩
  · rw [iv_ne (by omega)]; exact a1
  · rw [iv_ne (by omega)]; exact a2
  · rw [iv_ne (by omega)]; exact a3
  · rw [iv_ne (by omega)]; exact a4
  · rw [iv_ne (by omega)]; exact (a5 x hx).1
  · rw [iv_ne (by omega)]; exact (a5 x hx).2.1
  · rw [iv_ne (by omega)]; exact (a5 x hx).2.2
  · show _ = nI (uN2 F.ow a b v x y)
    have hy' : y < F.n := hy
    unfold uN2
    split
    · rename_i e
      rw [e.1, e.2, iv_at]
    · rename_i e
      rw [iv_ne (by omega)]
      exact a6 x y hx hy
theorem HF.sR {S : St} {f : Nat} {F : Fl} (h : HF S f F) (v : Nat) : HF (ivSet S 10 f 2 (nI v)) f (F.sR v) := by
  obtain ⟨a1, a2, a3, a4, a5, a6⟩ := h
  refine ⟨?_, ?_, ?_, ?_, fun x hx => ⟨?_, ?_, ?_⟩, fun x y hx hy => ?_⟩
  · rw [iv_ne (by omega)]; exact a1
  · rw [iv_at]; rfl
  · rw [iv_ne (by omega)]; exact a3
  · rw [iv_ne (by omega)]; exact a4
  · rw [iv_ne (by omega)]; exact (a5 x hx).1
  · rw [iv_ne (by omega)]; exact (a5 x hx).2.1
  · rw [iv_ne (by omega)]; exact (a5 x hx).2.2
  · rw [iv_ne (by omega)]; exact a6 x y hx hy
theorem HF.sNi {S : St} {f : Nat} {F : Fl} (h : HF S f F) (v : Nat) : HF (ivSet S 10 f 3 (nI v)) f (F.sNi v) := by
  obtain ⟨a1, a2, a3, a4, a5, a6⟩ := h
  refine ⟨?_, ?_, ?_, ?_, fun x hx => ⟨?_, ?_, ?_⟩, fun x y hx hy => ?_⟩
  · rw [iv_ne (by omega)]; exact a1
  · rw [iv_ne (by omega)]; exact a2
  · rw [iv_at]; rfl
  · rw [iv_ne (by omega)]; exact a4
  · rw [iv_ne (by omega)]; exact (a5 x hx).1
  · rw [iv_ne (by omega)]; exact (a5 x hx).2.1
  · rw [iv_ne (by omega)]; exact (a5 x hx).2.2
  · rw [iv_ne (by omega)]; exact a6 x y hx hy
theorem WF.sD {nT : Nat} {F : Fl} (h : WF nT F) (a : Nat) {v : Nat} (hv : v ≤ 99) : WF nT (F.sD a v) := by
  refine ⟨h.1, h.2.1, h.2.2.1, fun x hx => ⟨(h.2.2.2 x hx).1, (h.2.2.2 x hx).2.1, ?_, (h.2.2.2 x hx).2.2.2⟩⟩
  show uN F.dn a v x ≤ 99
  unfold uN
  split
  · exact hv
  · exact h.dn hx
theorem WF.sO {nT : Nat} {F : Fl} (h : WF nT F) (a b : Nat) {v : Nat} (hv : v ≤ 99) : WF nT (F.sO a b v) := by
  refine ⟨h.1, h.2.1, h.2.2.1, fun x hx => ⟨(h.2.2.2 x hx).1, (h.2.2.2 x hx).2.1, (h.2.2.2 x hx).2.2.1, fun y hy => ?_⟩⟩
  show uN2 F.ow a b v x y ≤ 99
  unfold uN2
  split
  · exact hv
  · exact h.ow hx hy
theorem WF.sR {nT : Nat} {F : Fl} (h : WF nT F) (v : Nat) : WF nT (F.sR v) := h
theorem WF.sNi {nT : Nat} {F : Fl} (h : WF nT F) (v : Nat) : WF nT (F.sNi v) := h
/-- both have paid, and danced -/
def slN (F : Fl) (a b p q : Nat) : Fl := (((F.sO a b (F.ow a b - p)).sO b a (F.ow b a - q)).sD a (if 99 < F.dn a + 1 then 99 else F.dn a + 1)).sD b (if 99 < F.dn b + 1 then 99 else F.dn b + 1)
def stpN (tv : TV) (F : Fl) (a b : Nat) : Fl := slN F a b (pyN tv F a (F.ow a b)) (pyN tv F b (F.ow b a))
theorem WF.sl {nT : Nat} {F : Fl} (h : WF nT F) {a b : Nat} (ha : a < F.n) (hb : b < F.n) (p q : Nat) : WF nT (slN F a b p q) := by
  have h1 := h.ow ha hb
  have h2 := h.ow hb ha
  exact (((h.sO a b (by omega)).sO b a (by omega)).sD a (by split <;> omega)).sD b (by split <;> omega)
theorem nI_min (x : Nat) (hx : x < 2 ^ 30) : (if 99 < nI x + 1 then (99 : Int32) else nI x + 1) = nI (if 99 < x + 1 then 99 else x + 1) := by
  rw [nI_1, show (99 : Int32) = nI 99 from rfl]
  by_cases h : 99 < x + 1
  · rw [if_pos h, if_pos (nI_lt h (by omega))]
  · rw [if_neg h, if_neg (nI_nlt (by omega) (by omega))]
/-- a step's writes -/
def wS (f n : Nat) : WW := fun j g k => j = 4 ∨ j = 5 ∨ (g = f ∧ (j = 13 ∧ k < n ∨ j = 14 ∧ k / 5 < n ∧ k % 5 < n))
theorem wS_ok (f n : Nat) : okW (wS f n) := by
  intro j g k hj
  simp only [wS] at hj
  omega
theorem HF.sl {S : St} {f nT : Nat} {F : Fl} (h : HF S f F) (hW : WF nT F) {a b p q : Nat} (ha : a < F.n) (hb : b < F.n) (hab : ¬ a = b) (hp : p ≤ F.ow a b) (hq : q ≤ F.ow b a) : HF (stS S f a b (nI p) (nI q)) f (slN F a b p q) ∧ Ag (wS f F.n) S (stS S f a b (nI p) (nI q)) := by
  have hn := hW.1
  have o1 := hW.ow ha hb
  have o2 := hW.ow hb ha
  have d1 := hW.dn ha
  have d2 := hW.dn hb
  unfold stS
  have e1 : lsS S f a b (nI p) = ivSet S 14 f (5 * a + b) (nI (F.ow a b - p)) := by
    unfold lsS
    rw [h.ow ha hb, pk_sub hp]
  have h1 := h.sO hn a b (F.ow a b - p) hb
  have e2 : lsS (lsS S f a b (nI p)) f b a (nI q) = ivSet (ivSet S 14 f (5 * a + b) (nI (F.ow a b - p))) 14 f (5 * b + a) (nI (F.ow b a - q)) := by
    rw [e1]
    unfold lsS
    rw [iv_ne (by omega), h.ow hb ha, pk_sub hq]
  have h2 := h1.sO hn b a (F.ow b a - q) ha
  rw [e2]
  generalize hA : ivSet (ivSet S 14 f (5 * a + b) (nI (F.ow a b - p))) 14 f (5 * b + a) (nI (F.ow b a - q)) = A at h2 ⊢
  have gA : Ag (wS f F.n) S A := by
    rw [← hA]
    exact (Ag.iv (Or.inr (Or.inr ⟨rfl, Or.inr ⟨rfl, by omega, by omega⟩⟩))).tr (Ag.iv (Or.inr (Or.inr ⟨rfl, Or.inr ⟨rfl, by omega, by omega⟩⟩)))
  have e3 : dnS A f a = ivSet A 13 f a (nI (if 99 < F.dn a + 1 then 99 else F.dn a + 1)) := by
    unfold dnS
    rw [show A.1 13 f a = nI (F.dn a) from h2.dn ha, nI_min _ (by omega)]
  have h3 := h2.sD a (if 99 < F.dn a + 1 then 99 else F.dn a + 1)
  have e4 : dnS (dnS A f a) f b = ivSet (ivSet A 13 f a (nI (if 99 < F.dn a + 1 then 99 else F.dn a + 1))) 13 f b (nI (if 99 < F.dn b + 1 then 99 else F.dn b + 1)) := by
    rw [e3]
    unfold dnS
    rw [iv_ne (by omega), show A.1 13 f b = nI (F.dn b) from h2.dn hb, nI_min _ (by omega)]
  rw [e4]
  exact ⟨h3.sD b _, (gA.tr (Ag.iv (Or.inr (Or.inr ⟨rfl, Or.inl ⟨rfl, ha⟩⟩)))).tr (Ag.iv (Or.inr (Or.inr ⟨rfl, Or.inl ⟨rfl, hb⟩⟩)))⟩
theorem FX.sl {tv : TV} {nT : Nat} {S : St} {f : Nat} {F : Fl} (h : FX tv nT S f F) {a b p q : Nat} (ha : a < F.n) (hb : b < F.n) (hab : ¬ a = b) (hp : p ≤ F.ow a b) (hq : q ≤ F.ow b a) : FX tv nT (stS S f a b (nI p) (nI q)) f (slN F a b p q) ∧ Ag (wS f F.n) S (stS S f a b (nI p) (nI q)) := by
  obtain ⟨h1, h2⟩ := h.2.1.sl h.2.2 ha hb hab hp hq
  exact ⟨⟨h.1.up h2 (wS_ok f _), h1, h.2.2.sl ha hb p q⟩, h2⟩
theorem q_settle {tv : TV} {nT d : Nat} {S : St} {K : KT} {f a b p q : Nat} {F : Fl} (hd : 2 ≤ d) (hX : FX tv nT S f F) (ha : a < F.n) (hb : b < F.n) (hab : ¬ a = b) (hp : p ≤ F.ow a b) (hq : q ≤ F.ow b a) (h : ∀ S', Ag (wS f F.n) S S' → FX tv nT S' f (slN F a b p q) → K none S') : Call d m_X0_settle [aR 10 f, aI (nI a), aI (nI b), aI (nI p), aI (nI q)] S K := by
  have hn := hX.2.2.1
  obtain ⟨h1, h2⟩ := hX.sl ha hb hab hp hq
  exact sp_settle hd hX.1.1 (by omega) (by omega) (h _ h2 h1)
theorem pyN_le (tv : TV) (F : Fl) (a : Nat) {o : Nat} (ho : o < 2 ^ 31) : pyN tv F a o ≤ o := wN_le _ ho
def spN (tv : TV) (F : Fl) (a b : Nat) : Nat := pyN tv F a (F.ow a b) + pyN tv F b (F.ow b a)
theorem q_step {tv : TV} {nT d : Nat} {S : St} {K : KT} {f a b : Nat} {F : Fl} (hd : 4 ≤ d) (hX : FX tv nT S f F) (ha : a < F.n) (hb : b < F.n) (hab : ¬ a = b) (h : ∀ S', Ag (wS f F.n) S S' → FX tv nT S' f (stpN tv F a b) → K (some (aI (nI (spN tv F a b)))) S') : Call d m_X0_step [aR 10 f, aI (nI a), aI (nI b)] S K := by
  refine Call.of (k := 3) hd (fun e he P hP => ?_)
  have hN := hX.1.1
  have o1 := hX.2.2.ow ha hb
  have o2 := hX.2.2.ow hb ha
  repeat (first | (refine hP _ _ _ _ _ _ ?_; show P _ _ _ _ _ _) | (refine hP _ _ _ _ _ _ (And.intro (hN _ _ _ rfl) ?_); show P _ _ (aR _ _ :: _) _ _ _))
  refine hP _ _ _ _ _ _ (q_owing (by omega) hX ha hb ?_)
  repeat (first | (refine hP _ _ _ _ _ _ ?_; show P _ _ _ _ _ _) | (refine hP _ _ _ _ _ _ (And.intro (hN _ _ _ rfl) ?_); show P _ _ (aR _ _ :: _) _ _ _))
  refine hP _ _ _ _ _ _ (q_pays (by omega) hX ha (fun S1 h1 => ?_))
  have hX1 := hX.sc h1
  have hN := hX1.1.1
  repeat (first | (refine hP _ _ _ _ _ _ ?_; show P _ _ _ _ _ _) | (refine hP _ _ _ _ _ _ (And.intro (hN _ _ _ rfl) ?_); show P _ _ (aR _ _ :: _) _ _ _))
  refine hP _ _ _ _ _ _ (q_owing (by omega) hX1 hb ha ?_)
  repeat (first | (refine hP _ _ _ _ _ _ ?_; show P _ _ _ _ _ _) | (refine hP _ _ _ _ _ _ (And.intro (hN _ _ _ rfl) ?_); show P _ _ (aR _ _ :: _) _ _ _))
  refine hP _ _ _ _ _ _ (q_pays (by omega) hX1 hb (fun S2 h2 => ?_))
  have hX2 := hX1.sc h2
  have hN := hX2.1.1
  repeat (first | (refine hP _ _ _ _ _ _ ?_; show P _ _ _ _ _ _) | (refine hP _ _ _ _ _ _ (And.intro (hN _ _ _ rfl) ?_); show P _ _ (aR _ _ :: _) _ _ _))
  refine hP _ _ _ _ _ _ (q_settle (by omega) hX2 ha hb hab (pyN_le tv F a (by omega)) (pyN_le tv F b (by omega)) (fun S3 h3 hX3 => ?_))
  repeat (first | (refine hP _ _ _ _ _ _ ?_; show P _ _ _ _ _ _) | (refine hP _ _ _ _ _ _ (And.intro (hN _ _ _ rfl) ?_); show P _ _ (aR _ _ :: _) _ _ _))
  have hg : Ag (wS f F.n) S S3 := ((h1.tr h2).mono (fun j g k hw => by simp only [w0] at hw; simp only [wS]; omega)).tr h3
  have h := h S3 hg hX3
  unfold spN at h
  rw [← nI_add] at h
  exact hP _ _ _ _ _ _ (h)
/-- a round -/
def bt (a b : Nat) : Int32 := ((1 : Int32) <<< (nI a &&& 31)) ||| ((1 : Int32) <<< (nI b &&& 31))
def r1 (tv : TV) (A : Nat × Int32 × Fl) (a b : Nat) : Nat × Int32 × Fl := if b < A.2.2.n ∧ A.2.1 &&& bt a b = 0 ∧ myN tv A.2.2 a b = true then (A.1 + spN tv A.2.2 a b, A.2.1 ||| bt a b, stpN tv A.2.2 a b) else A
def rA (tv : TV) (F : Fl) : Nat → Nat × Int32 × Fl
  | 0 => (0, 0, F)
  | k + 1 => r1 tv (rA tv F k) (prA k) (prB k)
def rdP (tv : TV) (F : Fl) : Nat := (rA tv F 10).1
def rdZ (tv : TV) (F : Fl) : Int32 := (rA tv F 10).2.1
def rdF (tv : TV) (F : Fl) : Fl := (rA tv F 10).2.2.sR ((rA tv F 10).2.2.rd + 1)
theorem pr_lt : ∀ k, k < 10 → prA k < prB k ∧ prB k < 5 := by decide
def wR (f : Nat) : WW := fun j g k => j = 4 ∨ j = 5 ∨ (g = f ∧ (j = 13 ∨ j = 14 ∨ (j = 10 ∧ (k = 2 ∨ k = 9))))
def wRn (f n : Nat) : WW := fun j g k => j = 4 ∨ j = 5 ∨ (g = f ∧ (j = 13 ∧ k < n ∨ j = 14 ∧ k / 5 < n ∧ k % 5 < n ∨ (j = 10 ∧ (k = 2 ∨ k = 9))))
theorem wRn_R (f n : Nat) : ∀ j g k, wRn f n j g k → wR f j g k := by
  intro j g k hj
  simp only [wRn] at hj
  simp only [wR]
  omega
theorem rA_n (tv : TV) (F : Fl) : ∀ k, (rA tv F k).2.2.n = F.n
  | 0 => rfl
  | k + 1 => by
    simp only [rA, r1]
    split
    · exact rA_n tv F k
    · exact rA_n tv F k
theorem wR_ok (f : Nat) : okW (wR f) := by
  intro j g k hj
  simp only [wR] at hj
  omega
theorem FX.sR {tv : TV} {nT : Nat} {S : St} {f : Nat} {F : Fl} (h : FX tv nT S f F) (v : Nat) : FX tv nT (ivSet S 10 f 2 (nI v)) f (F.sR v) :=
  ⟨h.1.up (W := wR f) (Ag.iv (by simp [wR])) (wR_ok f), h.2.1.sR v, h.2.2.sR v⟩
theorem bt_add (a b : Nat) : ((1 : Int32) <<< (nI a &&& 31)) ||| ((1 : Int32) <<< (nI b &&& 31)) = bt a b := rfl
theorem q_danceRound {tv : TV} {nT d : Nat} {S : St} {K : KT} {f : Nat} {F : Fl} (hd : 5 ≤ d) (hX : FX tv nT S f F) (h : ∀ S', Ag (wRn f F.n) S S' → FX tv nT S' f (rdF tv F) → S'.1 10 f 9 = rdZ tv F → K (some (aI (nI (rdP tv F)))) S') : Call d m_X0_danceRound [aR 10 f] S K := by
  refine Call.of (k := 4) hd (fun e he P hP => ?_)
  have hN := hX.1.1
  have loop : ∀ k, k ≤ 10 → ∀ S1 x3 x4 x5, Ag (wRn f F.n) S S1 → FX tv nT S1 f (rA tv F k).2.2 → S1.1 10 f 9 = (rA tv F k).2.1 → P 14 [some (aR 10 f), some (aI (nI (rA tv F k).1)), some (aI (nI k)), x3, x4, x5] [aI (nI 10), aI (nI k)] S1 0 0 := by
    refine dn ?_ ?_
    · intro S1 x3 x4 x5 g1 hX1 hz
      have hN := hX1.1.1
      repeat (first | (refine hP _ _ _ _ _ _ ?_; show P _ _ _ _ _ _) | (refine hP _ _ _ _ _ _ (And.intro (hN _ _ _ rfl) ?_); show P _ _ (aR _ _ :: _) _ _ _))
      refine hP _ _ _ _ _ _ (And.intro (fun _ => ?_) (fun hc => absurd (nI_le (Nat.le_refl 10) (by decide)) hc))
      repeat (first | (refine hP _ _ _ _ _ _ ?_; show P _ _ _ _ _ _) | (refine hP _ _ _ _ _ _ (And.intro (hN _ _ _ rfl) ?_); show P _ _ (aR _ _ :: _) _ _ _))
      have e2 : S1.1 10 f 2 + 1 = nI ((rA tv F 10).2.2.rd + 1) := by rw [hX1.2.1.2.1, nI_1]
      show P _ _ _ (ivSet S1 10 f 2 (S1.1 10 f 2 + 1)) _ _
      rw [e2]
      have hX2 := hX1.sR ((rA tv F 10).2.2.rd + 1)
      repeat (first | (refine hP _ _ _ _ _ _ ?_; show P _ _ _ _ _ _) | (refine hP _ _ _ _ _ _ (And.intro (hN _ _ _ rfl) ?_); show P _ _ (aR _ _ :: _) _ _ _))
      have h := h _ (g1.tr (Ag.iv (by simp [wRn]))) hX2 (by rw [iv_ne (by omega)]; exact hz)
      exact hP _ _ _ _ _ _ (h)
    · intro k hk ih S1 x3 x4 x5 g1 hX1 hz
      have hN := hX1.1.1
      obtain ⟨t1, t2⟩ := hX1.1.2.2.1 k hk
      obtain ⟨p1, p2⟩ := pr_lt k hk
      have hn5 := hX1.2.2.1
      repeat (first | (refine hP _ _ _ _ _ _ ?_; show P _ _ _ _ _ _) | (refine hP _ _ _ _ _ _ (And.intro (hN _ _ _ rfl) ?_); show P _ _ (aR _ _ :: _) _ _ _))
      refine hP _ _ _ _ _ _ (And.intro (fun hc => absurd hc (nI_ge (b := 10) hk (by decide))) (fun _ => ?_))
      repeat (first | (refine hP _ _ _ _ _ _ ?_; show P _ _ _ _ _ _) | (refine hP _ _ _ _ _ _ (And.intro (hN _ _ _ rfl) ?_); show P _ _ (aR _ _ :: _) _ _ _))
      refine hP _ _ _ _ _ _ (Exists.intro (k) (And.intro (And.intro (rfl) (show k < 10 from hk)) ?_))
      rw [t1]
      repeat (first | (refine hP _ _ _ _ _ _ ?_; show P _ _ _ _ _ _) | (refine hP _ _ _ _ _ _ (And.intro (hN _ _ _ rfl) ?_); show P _ _ (aR _ _ :: _) _ _ _))
      refine hP _ _ _ _ _ _ (Exists.intro (k) (And.intro (And.intro (rfl) (show k < 10 from hk)) ?_))
      rw [t2]
      repeat (first | (refine hP _ _ _ _ _ _ ?_; show P _ _ _ _ _ _) | (refine hP _ _ _ _ _ _ (And.intro (hN _ _ _ rfl) ?_); show P _ _ (aR _ _ :: _) _ _ _))
      rw [bt_add, hX1.2.1.1]
      have skip : rA tv F (k + 1) = rA tv F k → P 90 [some (aR 10 f), some (aI (nI (rA tv F k).1)), some (aI (nI k)), some (aI (nI (prA k))), some (aI (nI (prB k))), some (aI (bt (prA k) (prB k)))] [] S1 0 0 := by
        intro he
        repeat (first | (refine hP _ _ _ _ _ _ ?_; show P _ _ _ _ _ _) | (refine hP _ _ _ _ _ _ (And.intro (hN _ _ _ rfl) ?_); show P _ _ (aR _ _ :: _) _ _ _))
        have := ih S1 (some (aI (nI (prA k)))) (some (aI (nI (prB k)))) (some (aI (bt (prA k) (prB k)))) g1 (by rw [he]; exact hX1) (by rw [he]; exact hz)
        rw [he, nI_succ] at this
        exact this
      refine hP _ _ _ _ _ _ (And.intro (fun hc => ?_) (fun hc => ?_))
      · refine skip ?_
        have : ¬ prB k < (rA tv F k).2.2.n := by
          intro z
          exact absurd hc (nI_ge z (by omega))
        simp [rA, r1, this]
      · have w1 : prB k < (rA tv F k).2.2.n := by
          apply Classical.byContradiction
          intro z
          exact hc (nI_le (by omega) (by omega))
        repeat (first | (refine hP _ _ _ _ _ _ ?_; show P _ _ _ _ _ _) | (refine hP _ _ _ _ _ _ (And.intro (hN _ _ _ rfl) ?_); show P _ _ (aR _ _ :: _) _ _ _))
        rw [hz]
        refine hP _ _ _ _ _ _ (And.intro (fun hc2 => ?_) (fun hc2 => ?_))
        · refine skip ?_
          have : ¬ (rA tv F k).2.1 &&& bt (prA k) (prB k) = 0 := hc2
          simp [rA, r1, this]
        · have w2 : (rA tv F k).2.1 &&& bt (prA k) (prB k) = 0 := hc2
          repeat (first | (refine hP _ _ _ _ _ _ ?_; show P _ _ _ _ _ _) | (refine hP _ _ _ _ _ _ (And.intro (hN _ _ _ rfl) ?_); show P _ _ (aR _ _ :: _) _ _ _))
          refine hP _ _ _ _ _ _ (q_may (by omega) hX1 (by omega) w1 (fun S2 h2 => ?_))
          have hX2 := hX1.sc h2
          have hN := hX2.1.1
          have g2 : Ag (wRn f F.n) S S2 := g1.tr (h2.mono (fun j g k hw => by simp only [w0] at hw; simp only [wRn]; omega))
          have hz2 : S2.1 10 f 9 = (rA tv F k).2.1 := by rw [h2.1 10 f 9 (by simp [w0])]; exact hz
          repeat (first | (refine hP _ _ _ _ _ _ ?_; show P _ _ _ _ _ _) | (refine hP _ _ _ _ _ _ (And.intro (hN _ _ _ rfl) ?_); show P _ _ (aR _ _ :: _) _ _ _))
          refine hP _ _ _ _ _ _ (And.intro (fun hc3 => ?_) (fun hc3 => ?_))
          · have w3 := b2_0 hc3
            have he : rA tv F (k + 1) = rA tv F k := by simp [rA, r1, w3]
            repeat (first | (refine hP _ _ _ _ _ _ ?_; show P _ _ _ _ _ _) | (refine hP _ _ _ _ _ _ (And.intro (hN _ _ _ rfl) ?_); show P _ _ (aR _ _ :: _) _ _ _))
            have := ih S2 (some (aI (nI (prA k)))) (some (aI (nI (prB k)))) (some (aI (bt (prA k) (prB k)))) g2 (by rw [he]; exact hX2) (by rw [he]; exact hz2)
            rw [he, nI_succ] at this
            exact this
          · have w3 := b2_1 hc3
            have he : rA tv F (k + 1) = ((rA tv F k).1 + spN tv (rA tv F k).2.2 (prA k) (prB k), (rA tv F k).2.1 ||| bt (prA k) (prB k), stpN tv (rA tv F k).2.2 (prA k) (prB k)) := by simp [rA, r1, w1, w2, w3]
            repeat (first | (refine hP _ _ _ _ _ _ ?_; show P _ _ _ _ _ _) | (refine hP _ _ _ _ _ _ (And.intro (hN _ _ _ rfl) ?_); show P _ _ (aR _ _ :: _) _ _ _))
            refine hP _ _ _ _ _ _ (q_step (by omega) hX2 (by omega) w1 (by omega) (fun S3 h3 hX3 => ?_))
            have hN := hX3.1.1
            rw [rA_n] at h3
            have g3 : Ag (wRn f F.n) S S3 := g2.tr (h3.mono (fun j g k hw => by simp only [wS] at hw; simp only [wRn]; omega))
            have hz3 : S3.1 10 f 9 = (rA tv F k).2.1 := by rw [h3.1 10 f 9 (by simp [wS])]; exact hz2
            repeat (first | (refine hP _ _ _ _ _ _ ?_; show P _ _ _ _ _ _) | (refine hP _ _ _ _ _ _ (And.intro (hN _ _ _ rfl) ?_); show P _ _ (aR _ _ :: _) _ _ _))
            show P _ _ _ (ivSet S3 10 f 9 (S3.1 10 f 9 ||| bt (prA k) (prB k))) _ _
            rw [hz3, nI_add]
            have g4 : Ag (wRn f F.n) S3 (ivSet S3 10 f 9 ((rA tv F k).2.1 ||| bt (prA k) (prB k))) := Ag.iv (by simp [wRn])
            have hX4 : FX tv nT (ivSet S3 10 f 9 ((rA tv F k).2.1 ||| bt (prA k) (prB k))) f (stpN tv (rA tv F k).2.2 (prA k) (prB k)) := hX3.up (W := fun j g k => j = 10 ∧ g = f ∧ k = 9) (Ag.iv ⟨rfl, rfl, rfl⟩) (fun j g k hw => by omega) (fun j k hw => by omega)
            generalize hS4 : ivSet S3 10 f 9 ((rA tv F k).2.1 ||| bt (prA k) (prB k)) = S4 at g4 hX4 ⊢
            have hz4 : S4.1 10 f 9 = (rA tv F k).2.1 ||| bt (prA k) (prB k) := by rw [← hS4, iv_at]
            repeat (first | (refine hP _ _ _ _ _ _ ?_; show P _ _ _ _ _ _) | (refine hP _ _ _ _ _ _ (And.intro (hN _ _ _ rfl) ?_); show P _ _ (aR _ _ :: _) _ _ _))
            have := ih S4 (some (aI (nI (prA k)))) (some (aI (nI (prB k)))) (some (aI (bt (prA k) (prB k)))) (g3.tr g4) (by rw [he]; exact hX4) (by rw [he]; exact hz4)
            rw [he, nI_succ] at this
            exact this
  repeat (first | (refine hP _ _ _ _ _ _ ?_; show P _ _ _ _ _ _) | (refine hP _ _ _ _ _ _ (And.intro (hN _ _ _ rfl) ?_); show P _ _ (aR _ _ :: _) _ _ _))
  show P _ _ _ (ivSet S 10 f 9 0) _ _
  have hX0 : FX tv nT (ivSet S 10 f 9 0) f F := hX.up (W := fun j g k => j = 10 ∧ g = f ∧ k = 9) (Ag.iv ⟨rfl, rfl, rfl⟩) (fun j g k hw => by omega) (fun j k hw => by omega)
  repeat (first | (refine hP _ _ _ _ _ _ ?_; show P _ _ _ _ _ _) | (refine hP _ _ _ _ _ _ (And.intro (hN _ _ _ rfl) ?_); show P _ _ (aR _ _ :: _) _ _ _))
  exact loop 0 (by omega) _ _ _ _ (Ag.iv (by simp [wRn])) hX0 iv_at

/-- the model's scratch: the names, the reader's fields -/
def m0 : WW := fun j _ k => j = 40 ∧ 14 ≤ k ∧ k ≤ 28
def okM (W : WW) : Prop := ∀ j g k, W j g k → ¬ (j = 41 ∨ j = 42 ∨ j = 47)
def okG (W : WW) : Prop := ∀ j g k, W j g k → ¬ (j = 40 ∧ (k = 12 ∨ k = 7 ∨ k = 8 ∨ k = 4) ∨ 44 ≤ j ∧ j ≤ 46)
theorem m0_ok : okM m0 := by
  intro j g k hj
  simp only [m0] at hj
  omega
theorem m0_G : okG m0 := by
  intro j g k hj
  simp only [m0] at hj
  omega
theorem gt0 {x : Nat} (hx : x < 2 ^ 31) {A B : Prop} (h1 : 0 < x → A) (h2 : ¬ 0 < x → B) : (0 < nI x → A) ∧ (¬ 0 < nI x → B) :=
  ⟨fun hc => h1 ((nI_ltI (a := 0) (by decide) hx).mp hc), fun hc => h2 (fun z => hc ((nI_ltI (a := 0) (by decide) hx).mpr z))⟩
theorem le0 {x : Nat} (hx : x < 2 ^ 31) {A B : Prop} (h1 : ¬ 0 < x → A) (h2 : 0 < x → B) : (nI x ≤ 0 → A) ∧ (¬ nI x ≤ 0 → B) :=
  ⟨fun hc => h1 (fun z => nI_nle z hx hc), fun hc => h2 ((nI_ltI (a := 0) (by decide) hx).mp (Int32.not_le.mp hc))⟩
def mR : WW := fun j g k => (j = 40 ∧ 14 ≤ k ∧ k ≤ 29) ∨ (g = 0 ∧ (j = 40 ∧ k = 7 ∨ j = 45 ∧ k < 10 ∨ j = 46 ∧ k < 25))
theorem mR_ok : okM mR := by
  intro j g k hj
  simp only [mR] at hj
  omega
def al (f : Nat → Bool) : Nat → Bool
  | 0 => true
  | n + 1 => al f n && f n
theorem al_iff {f : Nat → Bool} : ∀ {n : Nat}, al f n = true ↔ ∀ k, k < n → f k = true
  | 0 => ⟨fun _ k hk => by omega, fun _ => rfl⟩
  | n + 1 => by
    simp only [al, Bool.and_eq_true, al_iff (n := n)]
    constructor
    · intro h k hk
      rcases Nat.lt_succ_iff_lt_or_eq.mp hk with h1 | rfl
      · exact h.1 k h1
      · exact h.2
    · exact fun h => ⟨fun k hk => h k (by omega), h n (by omega)⟩
def sb (i k : Nat) : Bool := (setN i).testBit k
theorem sb_bit : ∀ i, i < 26 → ∀ k, k < 10 → (((nI (setN i) >>> (nI k &&& 31)) &&& 1 = 1) ↔ (sb i k = true)) := by
  have h : ∀ i, i < 26 → ∀ k, k < 10 → decide ((nI (setN i) >>> (nI k &&& 31)) &&& 1 = 1) = sb i k := by decide +kernel
  intro i hi k hk
  rw [← h i hi k hk]
  simp
theorem sb_apart0 : ∀ i, i < 26 → ∀ k, k < 10 → ∀ j, j < 10 → (!(sb i k) || !(sb i j) || decide (j = k) || (decide (¬ prA j = prA k) && decide (¬ prA j = prB k) && decide (¬ prB j = prA k) && decide (¬ prB j = prB k))) = true := by decide +kernel
theorem sb_apart (i : Nat) (hi : i < 26) (k : Nat) (hk : k < 10) (j : Nat) (hj : j < 10) (h1 : sb i k = true) (h2 : sb i j = true) (h3 : ¬ j = k) : (¬ prA j = prA k ∧ ¬ prA j = prB k ∧ ¬ prB j = prA k ∧ ¬ prB j = prB k) := by
  have h := sb_apart0 i hi k hk j hj
  simp only [h1, h2, h3, decide_false, Bool.not_true, Bool.false_or, Bool.and_eq_true, decide_eq_true_eq] at h
  exact ⟨h.1.1.1, h.1.1.2, h.1.2, h.2⟩
theorem sb_0 : ∀ k, k < 10 → sb 0 k = false := by decide +kernel
/-- may this two dance -/
def okN (tv : TV) (F : Fl) (k : Nat) : Bool := decide (prB k < F.n) && myN tv F (prA k) (prB k)
/-- may all of a set -/
def okS (tv : TV) (F : Fl) (i : Nat) : Bool := al (fun k => !(sb i k) || okN tv F k) 10
theorem okS_iff {tv : TV} {F : Fl} {i : Nat} : okS tv F i = true ↔ ∀ k, k < 10 → sb i k = true → okN tv F k = true := by
  unfold okS
  rw [al_iff]
  constructor
  · intro h k hk h1
    have := h k hk
    rw [h1] at this
    exact this
  · intro h k hk
    cases h1 : sb i k with
    | false => rfl
    | true => rw [h k hk h1]; rfl
/-- what a set pays -/
def pdN (tv : TV) (F : Fl) (i : Nat) : Nat := sN (fun k => cond (sb i k) (spN tv F (prA k) (prB k)) 0) 10
theorem okS_0 (tv : TV) (F : Fl) : okS tv F 0 = true := okS_iff.mpr fun k hk h => by rw [sb_0 k hk] at h; cases h
theorem pdN_0 (tv : TV) (F : Fl) : pdN tv F 0 = 0 := by
  unfold pdN
  rw [sN_congr (g := fun _ => 0) (fun k hk => by rw [sb_0 k hk]; rfl)]
  rfl
/-- of the first so many sets the best one -/
def biN (tv : TV) (F : Fl) : Nat → Nat
  | 0 => 0
  | k + 1 => if okS tv F k = true ∧ pdN tv F (biN tv F k) < pdN tv F k then k else biN tv F k
theorem biN_in (tv : TV) (F : Fl) : ∀ k, k ≤ 26 → biN tv F k < 26 ∧ okS tv F (biN tv F k) = true
  | 0, _ => ⟨(by show 0 < 26; omega), okS_0 tv F⟩
  | k + 1, h => by
    have := biN_in tv F k (by omega)
    simp only [biN]
    split
    · rename_i hc
      exact ⟨by omega, hc.1⟩
    · exact this
theorem spN_le {tv : TV} {F : Fl} {nT a b : Nat} (hW : WF nT F) (ha : a < F.n) (hb : b < F.n) : spN tv F a b ≤ F.ow a b + F.ow b a := by
  have h1 := hW.ow ha hb
  have h2 := hW.ow hb ha
  have h3 := pyN_le tv F a (o := F.ow a b) (by omega)
  have h4 := pyN_le tv F b (o := F.ow b a) (by omega)
  unfold spN
  omega
theorem okN_lt {tv : TV} {F : Fl} {k : Nat} (h : okN tv F k = true) : prB k < F.n := by
  unfold okN at h
  simp at h
  exact h.1
theorem pdN_le {tv : TV} {F : Fl} {nT i : Nat} (hW : WF nT F) (hok : okS tv F i = true) : pdN tv F i ≤ 1980 := by
  have := sN_le (f := fun k => cond (sb i k) (spN tv F (prA k) (prB k)) 0) (m := 198) (n := 10) (fun k hk => by
    cases h : sb i k with
    | false => simp
    | true =>
      have h1 := okN_lt (okS_iff.mp hok k hk h)
      have h2 := pr_lt k hk
      have h3 := spN_le (tv := tv) hW (a := prA k) (b := prB k) (by omega) h1
      have h4 := hW.ow (a := prA k) (b := prB k) (by omega) h1
      have h5 := hW.ow (a := prB k) (b := prA k) h1 (by omega)
      simp only [cond]
      omega)
  exact this
/-- the bits -/
def mdG (o : Nat → Bool) : Nat → Int32
  | 0 => 0
  | k + 1 => if o k = true then mdG o k ||| ((1 : Int32) <<< (nI k &&& 31)) else mdG o k
theorem bit1 : ∀ k, k < 10 → ∀ j, j < 32 → ((1 : Int32) <<< (nI k &&& 31)).toBitVec.getLsbD j = decide (j = k) := by decide +kernel
theorem set1 : ∀ i, i < 26 → ∀ k, k < 32 → (nI (setN i)).toBitVec.getLsbD k = (decide (k < 10) && sb i k) := by decide +kernel
theorem mdG_bit (o : Nat → Bool) : ∀ n, n ≤ 10 → ∀ j, j < 32 → (mdG o n).toBitVec.getLsbD j = (decide (j < n) && o j)
  | 0, _, j, hj => by simp [mdG]
  | n + 1, hn, j, hj => by
    have ih := mdG_bit o n (by omega) j hj
    simp only [mdG]
    split
    · rename_i ho
      rw [Int32.toBitVec_or, BitVec.getLsbD_or, ih, bit1 n (by omega) j hj]
      by_cases e : j = n
      · subst e
        simp [ho]
      · have : decide (j < n + 1) = decide (j < n) := decide_eq_decide.mpr (by omega)
        simp [e, this]
    · rename_i ho
      rw [ih]
      by_cases e : j = n
      · subst e
        simp [ho]
      · have : decide (j < n + 1) = decide (j < n) := decide_eq_decide.mpr (by omega)
        rw [this]
theorem and_not (x y : Int32) : (x &&& (y ^^^ -1) = 0) ↔ ∀ k, k < 32 → x.toBitVec.getLsbD k = true → y.toBitVec.getLsbD k = true := by
  have e1 : (x &&& (y ^^^ -1)).toBitVec = x.toBitVec &&& (y.toBitVec ^^^ BitVec.allOnes 32) := by
    rw [Int32.toBitVec_and, Int32.toBitVec_xor]
    rfl
  rw [← Int32.toBitVec_inj, e1]
  have e0 : ∀ k, (0 : Int32).toBitVec.getLsbD k = false := fun k => by
    show (0#32).getLsbD k = false
    simp
  have e2 : ∀ k, k < 32 → (x.toBitVec &&& (y.toBitVec ^^^ BitVec.allOnes 32)).getLsbD k = (x.toBitVec.getLsbD k && !(y.toBitVec.getLsbD k)) := fun k hk => by
    rw [BitVec.getLsbD_and, BitVec.getLsbD_xor, BitVec.getLsbD_allOnes, decide_eq_true hk, Bool.xor_true]
  constructor
  · intro h k hk hx
    have := congrArg (fun z : BitVec 32 => z.getLsbD k) h
    simp only [e0, e2 k hk, hx, Bool.true_and, Bool.not_eq_eq_eq_not, Bool.not_false] at this
    exact this
  · intro h
    apply BitVec.eq_of_getLsbD_eq
    intro k hk
    rw [e0, e2 k hk]
    have := h k hk
    cases hx : x.toBitVec.getLsbD k with
    | false => rfl
    | true => rw [this hx]; rfl
theorem may_iff (o : Nat → Bool) {i : Nat} (hi : i < 26) : (nI (setN i) &&& (mdG o 10 ^^^ -1) = 0) ↔ ∀ k, k < 10 → sb i k = true → o k = true := by
  rw [and_not]
  constructor
  · intro h k hk hs
    have := h k (by omega)
    rw [set1 i hi k (by omega), mdG_bit o 10 (by omega) k (by omega)] at this
    simp [hk, hs] at this
    exact this
  · intro h k hk
    rw [set1 i hi k hk, mdG_bit o 10 (by omega) k hk]
    simp
    exact fun h1 h2 => ⟨h1, h k h1 h2⟩
/-- floor f is weighed as F -/
def wgh (tv : TV) (S : St) (f : Nat) (F : Fl) : Prop := S.1 10 f 10 = mdG (okN tv F) 10 ∧ ∀ k, k < 10 → okN tv F k = true → S.1 15 f k = nI (pyN tv F (prA k) (F.ow (prA k) (prB k))) ∧ S.1 16 f k = nI (pyN tv F (prB k) (F.ow (prB k) (prA k)))
def wW (f : Nat) : WW := fun j g k => j = 4 ∨ j = 5 ∨ (g = f ∧ (j = 15 ∨ j = 16 ∨ (j = 10 ∧ k = 10)))
theorem wW_ok (f : Nat) : okW (wW f) := by
  intro j g k hj
  simp only [wW] at hj
  omega
theorem wW_F (f : Nat) (f' : Nat) : okF (wW f) f' := by
  intro j k hj
  simp only [wW] at hj
  omega
theorem w0_W (f : Nat) : ∀ j g k, w0 j g k → wW f j g k := by
  intro j g k hj
  simp only [w0] at hj
  simp only [wW]
  omega
def wgk (tv : TV) (S : St) (f : Nat) (F : Fl) (n : Nat) : Prop := S.1 10 f 10 = mdG (okN tv F) n ∧ ∀ k, k < n → okN tv F k = true → S.1 15 f k = nI (pyN tv F (prA k) (F.ow (prA k) (prB k))) ∧ S.1 16 f k = nI (pyN tv F (prB k) (F.ow (prB k) (prA k)))
theorem wgk.up {tv : TV} {S S' : St} {f n : Nat} {F : Fl} {W : WW} (h : wgk tv S f F n) (h1 : Ag W S S') (hw : ∀ j k, W j f k → ¬ (j = 10 ∧ k = 10 ∨ ((j = 15 ∨ j = 16) ∧ k < n))) : wgk tv S' f F n := by
  refine ⟨?_, fun k hk ho => ?_⟩
  · rw [h1.1 10 f 10 (fun z => hw _ _ z (by omega))]
    exact h.1
  · rw [h1.1 15 f k (fun z => hw _ _ z (by omega)), h1.1 16 f k (fun z => hw _ _ z (by omega))]
    exact h.2 k hk ho
theorem q_weigh {tv : TV} {nT d : Nat} {S : St} {K : KT} {f : Nat} {F : Fl} (hd : 5 ≤ d) (hX : FX tv nT S f F) (h : ∀ S', Ag (wW f) S S' → FX tv nT S' f F → wgh tv S' f F → K none S') : Call d m_X0_weigh [aR 10 f] S K := by
  refine Call.of (k := 4) hd (fun e he P hP => ?_)
  have hN := hX.1.1
  have loop : ∀ k, k ≤ 10 → ∀ S1 x2 x3, Ag (wW f) S S1 → FX tv nT S1 f F → wgk tv S1 f F k → P 12 [some (aR 10 f), some (aI (nI k)), x2, x3] [aI (nI 10), aI (nI k)] S1 0 0 := by
    refine dn ?_ ?_
    · intro S1 x2 x3 g1 hX1 hw
      have hN := hX1.1.1
      repeat (first | (refine hP _ _ _ _ _ _ ?_; show P _ _ _ _ _ _) | (refine hP _ _ _ _ _ _ (And.intro (hN _ _ _ rfl) ?_); show P _ _ (aR _ _ :: _) _ _ _))
      refine hP _ _ _ _ _ _ (And.intro (fun _ => ?_) (fun hc => absurd (nI_le (Nat.le_refl 10) (by decide)) hc))
      repeat (first | (refine hP _ _ _ _ _ _ ?_; show P _ _ _ _ _ _) | (refine hP _ _ _ _ _ _ (And.intro (hN _ _ _ rfl) ?_); show P _ _ (aR _ _ :: _) _ _ _))
      exact hP _ _ _ _ _ _ (h S1 g1 hX1 hw)
    · intro k hk ih S1 x2 x3 g1 hX1 hw
      have hN := hX1.1.1
      obtain ⟨t1, t2⟩ := hX1.1.2.2.1 k hk
      obtain ⟨p1, p2⟩ := pr_lt k hk
      have hn5 := hX1.2.2.1
      repeat (first | (refine hP _ _ _ _ _ _ ?_; show P _ _ _ _ _ _) | (refine hP _ _ _ _ _ _ (And.intro (hN _ _ _ rfl) ?_); show P _ _ (aR _ _ :: _) _ _ _))
      refine hP _ _ _ _ _ _ (And.intro (fun hc => absurd hc (nI_ge (b := 10) hk (by decide))) (fun _ => ?_))
      repeat (first | (refine hP _ _ _ _ _ _ ?_; show P _ _ _ _ _ _) | (refine hP _ _ _ _ _ _ (And.intro (hN _ _ _ rfl) ?_); show P _ _ (aR _ _ :: _) _ _ _))
      refine hP _ _ _ _ _ _ (Exists.intro (k) (And.intro (And.intro (rfl) (show k < 10 from hk)) ?_))
      rw [t1]
      repeat (first | (refine hP _ _ _ _ _ _ ?_; show P _ _ _ _ _ _) | (refine hP _ _ _ _ _ _ (And.intro (hN _ _ _ rfl) ?_); show P _ _ (aR _ _ :: _) _ _ _))
      refine hP _ _ _ _ _ _ (Exists.intro (k) (And.intro (And.intro (rfl) (show k < 10 from hk)) ?_))
      rw [t2]
      repeat (first | (refine hP _ _ _ _ _ _ ?_; show P _ _ _ _ _ _) | (refine hP _ _ _ _ _ _ (And.intro (hN _ _ _ rfl) ?_); show P _ _ (aR _ _ :: _) _ _ _))
      rw [hX1.2.1.1]
      have skip : ∀ S2, Ag (wW f) S S2 → FX tv nT S2 f F → wgk tv S2 f F k → okN tv F k = false → P 90 [some (aR 10 f), some (aI (nI k)), some (aI (nI (prA k))), some (aI (nI (prB k)))] [] S2 0 0 := by
        intro S2 g2 hX2 hw2 ho
        repeat (first | (refine hP _ _ _ _ _ _ ?_; show P _ _ _ _ _ _) | (refine hP _ _ _ _ _ _ (And.intro (hN _ _ _ rfl) ?_); show P _ _ (aR _ _ :: _) _ _ _))
        have := ih S2 (some (aI (nI (prA k)))) (some (aI (nI (prB k)))) g2 hX2 ⟨by simp [mdG, ho, hw2.1], fun j hj hoj => by
          by_cases e : j = k
          · rw [e, ho] at hoj
            cases hoj
          · exact hw2.2 j (by omega) hoj⟩
        rw [nI_succ] at this
        exact this
      refine hP _ _ _ _ _ _ (And.intro (fun hc => ?_) (fun hc => ?_))
      · refine skip S1 g1 hX1 hw ?_
        have : ¬ prB k < F.n := fun z => absurd hc (nI_ge z (by omega))
        simp [okN, this]
      · have w1 : prB k < F.n := by
          apply Classical.byContradiction
          intro z
          exact hc (nI_le (by omega) (by omega))
        have o1 := hX1.2.2.ow (a := prA k) (b := prB k) (by omega) w1
        have o2 := hX1.2.2.ow (a := prB k) (b := prA k) w1 (by omega)
        repeat (first | (refine hP _ _ _ _ _ _ ?_; show P _ _ _ _ _ _) | (refine hP _ _ _ _ _ _ (And.intro (hN _ _ _ rfl) ?_); show P _ _ (aR _ _ :: _) _ _ _))
        refine hP _ _ _ _ _ _ (q_may (by omega) hX1 (by omega) w1 (fun S2 h2 => ?_))
        have hX2 := hX1.sc h2
        have hN := hX2.1.1
        have g2 : Ag (wW f) S S2 := g1.tr (h2.mono (w0_W f))
        have hw2 : wgk tv S2 f F k := hw.up h2 (by intro j k hj; simp only [w0] at hj; omega)
        repeat (first | (refine hP _ _ _ _ _ _ ?_; show P _ _ _ _ _ _) | (refine hP _ _ _ _ _ _ (And.intro (hN _ _ _ rfl) ?_); show P _ _ (aR _ _ :: _) _ _ _))
        refine hP _ _ _ _ _ _ (And.intro (fun hc3 => ?_) (fun hc3 => ?_))
        · have w3 := b2_0 hc3
          exact skip S2 g2 hX2 hw2 (by simp [okN, w3])
        · have w3 := b2_1 hc3
          have ho : okN tv F k = true := by simp [okN, w1, w3]
          repeat (first | (refine hP _ _ _ _ _ _ ?_; show P _ _ _ _ _ _) | (refine hP _ _ _ _ _ _ (And.intro (hN _ _ _ rfl) ?_); show P _ _ (aR _ _ :: _) _ _ _))
          rw [hw2.1]
          show P _ _ _ (ivSet S2 10 f 10 (mdG (okN tv F) k ||| ((1 : Int32) <<< (nI k &&& 31)))) _ _
          have g3 : Ag (wW f) S2 (ivSet S2 10 f 10 (mdG (okN tv F) k ||| ((1 : Int32) <<< (nI k &&& 31)))) := Ag.iv (by simp [wW])
          have hX3 := hX2.up g3 (wW_ok f) (wW_F f f)
          have z3 : (ivSet S2 10 f 10 (mdG (okN tv F) k ||| ((1 : Int32) <<< (nI k &&& 31)))).1 10 f 10 = mdG (okN tv F) (k + 1) := by
            rw [iv_at]
            simp [mdG, ho]
          have y3 : ∀ j, j < k → okN tv F j = true → (ivSet S2 10 f 10 (mdG (okN tv F) k ||| ((1 : Int32) <<< (nI k &&& 31)))).1 15 f j = nI (pyN tv F (prA j) (F.ow (prA j) (prB j))) ∧ (ivSet S2 10 f 10 (mdG (okN tv F) k ||| ((1 : Int32) <<< (nI k &&& 31)))).1 16 f j = nI (pyN tv F (prB j) (F.ow (prB j) (prA j))) := by
            intro j hj hoj
            rw [iv_ne (by omega), iv_ne (by omega)]
            exact hw2.2 j hj hoj
          generalize ivSet S2 10 f 10 (mdG (okN tv F) k ||| ((1 : Int32) <<< (nI k &&& 31))) = S3 at g3 hX3 z3 y3 ⊢
          have hN := hX3.1.1
          repeat (first | (refine hP _ _ _ _ _ _ ?_; show P _ _ _ _ _ _) | (refine hP _ _ _ _ _ _ (And.intro (hN _ _ _ rfl) ?_); show P _ _ (aR _ _ :: _) _ _ _))
          refine hP _ _ _ _ _ _ (q_owing (by omega) hX3 (by omega) w1 ?_)
          repeat (first | (refine hP _ _ _ _ _ _ ?_; show P _ _ _ _ _ _) | (refine hP _ _ _ _ _ _ (And.intro (hN _ _ _ rfl) ?_); show P _ _ (aR _ _ :: _) _ _ _))
          refine hP _ _ _ _ _ _ (q_pays (by omega) hX3 (by omega) (fun S4 h4 => ?_))
          have hX4 := hX3.sc h4
          have hN := hX4.1.1
          repeat (first | (refine hP _ _ _ _ _ _ ?_; show P _ _ _ _ _ _) | (refine hP _ _ _ _ _ _ (And.intro (hN _ _ _ rfl) ?_); show P _ _ (aR _ _ :: _) _ _ _))
          refine hP _ _ _ _ _ _ (Exists.intro (k) (And.intro (And.intro (rfl) (show k < 10 from hk)) ?_))
          show P _ _ _ (ivSet S4 15 f k (nI (pyN tv F (prA k) (F.ow (prA k) (prB k))))) _ _
          have g5 : Ag (wW f) S4 (ivSet S4 15 f k (nI (pyN tv F (prA k) (F.ow (prA k) (prB k))))) := Ag.iv (by simp [wW])
          have hX5 := hX4.up g5 (wW_ok f) (wW_F f f)
          have z5 : (ivSet S4 15 f k (nI (pyN tv F (prA k) (F.ow (prA k) (prB k))))).1 10 f 10 = mdG (okN tv F) (k + 1) := by
            rw [iv_ne (by omega), h4.1 10 f 10 (by simp [w0])]
            exact z3
          have v5 : (ivSet S4 15 f k (nI (pyN tv F (prA k) (F.ow (prA k) (prB k))))).1 15 f k = nI (pyN tv F (prA k) (F.ow (prA k) (prB k))) := iv_at
          have y5 : ∀ j, j < k → okN tv F j = true → (ivSet S4 15 f k (nI (pyN tv F (prA k) (F.ow (prA k) (prB k))))).1 15 f j = nI (pyN tv F (prA j) (F.ow (prA j) (prB j))) ∧ (ivSet S4 15 f k (nI (pyN tv F (prA k) (F.ow (prA k) (prB k))))).1 16 f j = nI (pyN tv F (prB j) (F.ow (prB j) (prA j))) := by
            intro j hj hoj
            rw [iv_ne (by omega), iv_ne (by omega), h4.1 15 f j (by simp [w0]), h4.1 16 f j (by simp [w0])]
            exact y3 j hj hoj
          generalize ivSet S4 15 f k (nI (pyN tv F (prA k) (F.ow (prA k) (prB k)))) = S5 at g5 hX5 z5 v5 y5 ⊢
          have hN := hX5.1.1
          repeat (first | (refine hP _ _ _ _ _ _ ?_; show P _ _ _ _ _ _) | (refine hP _ _ _ _ _ _ (And.intro (hN _ _ _ rfl) ?_); show P _ _ (aR _ _ :: _) _ _ _))
          refine hP _ _ _ _ _ _ (q_owing (by omega) hX5 w1 (by omega) ?_)
          repeat (first | (refine hP _ _ _ _ _ _ ?_; show P _ _ _ _ _ _) | (refine hP _ _ _ _ _ _ (And.intro (hN _ _ _ rfl) ?_); show P _ _ (aR _ _ :: _) _ _ _))
          refine hP _ _ _ _ _ _ (q_pays (by omega) hX5 w1 (fun S6 h6 => ?_))
          have hX6 := hX5.sc h6
          have hN := hX6.1.1
          repeat (first | (refine hP _ _ _ _ _ _ ?_; show P _ _ _ _ _ _) | (refine hP _ _ _ _ _ _ (And.intro (hN _ _ _ rfl) ?_); show P _ _ (aR _ _ :: _) _ _ _))
          refine hP _ _ _ _ _ _ (Exists.intro (k) (And.intro (And.intro (rfl) (show k < 10 from hk)) ?_))
          show P _ _ _ (ivSet S6 16 f k (nI (pyN tv F (prB k) (F.ow (prB k) (prA k))))) _ _
          have g7 : Ag (wW f) S6 (ivSet S6 16 f k (nI (pyN tv F (prB k) (F.ow (prB k) (prA k))))) := Ag.iv (by simp [wW])
          have hX7 := hX6.up g7 (wW_ok f) (wW_F f f)
          have hw7 : wgk tv (ivSet S6 16 f k (nI (pyN tv F (prB k) (F.ow (prB k) (prA k))))) f F (k + 1) := by
            refine ⟨?_, fun j hj hoj => ?_⟩
            · rw [iv_ne (by omega), h6.1 10 f 10 (by simp [w0])]
              exact z5
            · by_cases e : j = k
              · subst e
                rw [iv_at, iv_ne (by omega), h6.1 15 f j (by simp [w0])]
                exact ⟨v5, rfl⟩
              · rw [iv_ne (by omega), iv_ne (by omega), h6.1 15 f j (by simp [w0]), h6.1 16 f j (by simp [w0])]
                exact y5 j (by omega) hoj
          generalize ivSet S6 16 f k (nI (pyN tv F (prB k) (F.ow (prB k) (prA k)))) = S7 at g7 hX7 hw7 ⊢
          repeat (first | (refine hP _ _ _ _ _ _ ?_; show P _ _ _ _ _ _) | (refine hP _ _ _ _ _ _ (And.intro (hN _ _ _ rfl) ?_); show P _ _ (aR _ _ :: _) _ _ _))
          have := ih S7 (some (aI (nI (prA k)))) (some (aI (nI (prB k)))) ((((g2.tr g3).tr (h4.mono (w0_W f))).tr g5).tr ((h6.mono (w0_W f)).tr g7)) hX7 hw7
          rw [nI_succ] at this
          exact this
  repeat (first | (refine hP _ _ _ _ _ _ ?_; show P _ _ _ _ _ _) | (refine hP _ _ _ _ _ _ (And.intro (hN _ _ _ rfl) ?_); show P _ _ (aR _ _ :: _) _ _ _))
  show P _ _ _ (ivSet S 10 f 10 0) _ _
  have g0 : Ag (wW f) S (ivSet S 10 f 10 0) := Ag.iv (by simp [wW])
  have hX0 := hX.up g0 (wW_ok f) (wW_F f f)
  repeat (first | (refine hP _ _ _ _ _ _ ?_; show P _ _ _ _ _ _) | (refine hP _ _ _ _ _ _ (And.intro (hN _ _ _ rfl) ?_); show P _ _ (aR _ _ :: _) _ _ _))
  exact loop 0 (by omega) _ _ _ g0 hX0 ⟨iv_at, fun k hk => by omega⟩

