/-! the class, out of claim whole -/
theorem hlf {b r : Nat} (h0 : 0 < r) (h : r < b) : b % r ≤ b / 2 := by
  by_cases c : 2 * r ≤ b
  · have := Nat.mod_lt b h0
    omega
  · rw [Nat.mod_eq_sub_mod (by omega), Nat.mod_eq_of_lt (by omega)]
    omega
theorem gcS (d r : Nat) : Nat.gcd r (d % r) = Nat.gcd d r := by
  rw [Nat.gcd_comm d r, Nat.gcd_rec r d, Nat.gcd_comm]
def loL (a b p : Nat) : Int64 := lN ((if p = 0 then a else b) / Nat.gcd a b)
theorem nI_nz {a : Nat} (h : a < 2 ^ 31) (h0 : 0 < a) : ¬ nI a = 0 := fun z => by
  have := (nI_eq (b := 0) h (by decide)).mp z
  omega
theorem c_lowest {d a b p : Nat} {S : St} {K : KT} (hd : 1 ≤ d) (ha : a < 2 ^ 12) (hb : b < 2 ^ 12) (hb0 : 0 < b) (hp : p ≤ 1) (h : K (some (aL (loL a b p))) S) : Call d m_X5_lowest [aI (nI a), aI (nI b), aI (nI p)] S K := by
  refine Call.of (k := 0) hd (fun e he P hP => ?_)
  have hN : True := trivial
  have hG : 0 < Nat.gcd a b := Nat.gcd_pos_of_pos_right a hb0
  have hGb : Nat.gcd a b ≤ b := Nat.gcd_le_right a hb0
  have fin : ∀ t x, P 40 [some (aI (nI a)), some (aI (nI b)), some (aI (nI p)), some (aI (nI (Nat.gcd a b))), some (aI (nI 0)), some (aI (nI t)), x] [aI (nI p)] S 0 0 := by
    intro t x
    have eL : ∀ m, m < 2 ^ 12 → (nI m / nI (Nat.gcd a b)).toInt64 = lN (m / Nat.gcd a b) := by
      intro m hm
      have := Nat.div_le_self m (Nat.gcd a b)
      rw [pk_div (by omega) hG (by omega), nI_l (by omega)]
    have nz := nI_nz (a := Nat.gcd a b) (by omega) hG
    rcases (show p = 0 ∨ p = 1 by omega) with rfl | rfl
    · have e1 : loL a b 0 = lN (a / Nat.gcd a b) := by simp [loL]
      rw [e1] at h
      repeat (first | (refine hP _ _ _ _ _ _ ?_; show P _ _ _ _ _ _) | (refine hP _ _ _ _ _ _ (And.intro (hN _ _ _ rfl) ?_); show P _ _ (aR _ _ :: _) _ _ _) | refine hP _ _ _ _ _ _ (And.intro (fun _ => ?_) (fun hc => absurd hc (by decide))) | refine hP _ _ _ _ _ _ (And.intro (fun hc => absurd hc (by decide)) (fun _ => ?_)))
      refine hP _ _ _ _ _ _ (And.intro (fun _ => ?_) (fun hc => absurd hc nz))
      repeat (first | (refine hP _ _ _ _ _ _ ?_; show P _ _ _ _ _ _) | (refine hP _ _ _ _ _ _ (And.intro (hN _ _ _ rfl) ?_); show P _ _ (aR _ _ :: _) _ _ _))
      refine hP _ _ _ _ _ _ (And.intro nz ?_)
      repeat (first | (refine hP _ _ _ _ _ _ ?_; show P _ _ _ _ _ _) | (refine hP _ _ _ _ _ _ (And.intro (hN _ _ _ rfl) ?_); show P _ _ (aR _ _ :: _) _ _ _))
      rw [eL a ha]
      exact hP _ _ _ _ _ _ (h)
    · have e1 : loL a b 1 = lN (b / Nat.gcd a b) := by simp [loL]
      rw [e1] at h
      repeat (first | (refine hP _ _ _ _ _ _ ?_; show P _ _ _ _ _ _) | (refine hP _ _ _ _ _ _ (And.intro (hN _ _ _ rfl) ?_); show P _ _ (aR _ _ :: _) _ _ _) | refine hP _ _ _ _ _ _ (And.intro (fun _ => ?_) (fun hc => absurd hc (by decide))) | refine hP _ _ _ _ _ _ (And.intro (fun hc => absurd hc (by decide)) (fun _ => ?_)))
      refine hP _ _ _ _ _ _ (And.intro (fun _ => ?_) (fun hc => absurd hc nz))
      repeat (first | (refine hP _ _ _ _ _ _ ?_; show P _ _ _ _ _ _) | (refine hP _ _ _ _ _ _ (And.intro (hN _ _ _ rfl) ?_); show P _ _ (aR _ _ :: _) _ _ _))
      refine hP _ _ _ _ _ _ (And.intro nz ?_)
      repeat (first | (refine hP _ _ _ _ _ _ ?_; show P _ _ _ _ _ _) | (refine hP _ _ _ _ _ _ (And.intro (hN _ _ _ rfl) ?_); show P _ _ (aR _ _ :: _) _ _ _))
      rw [eL b hb]
      exact hP _ _ _ _ _ _ (h)
  have step : ∀ t dv r x, t < 64 → dv < 2 ^ 12 → r < 2 ^ 12 → Nat.gcd dv r = Nat.gcd a b → (0 < r → ∀ x', P 12 [some (aI (nI a)), some (aI (nI b)), some (aI (nI p)), some (aI (nI r)), some (aI (nI (dv % r))), some (aI (nI (t + 1))), x'] [aI 64, aI (nI (t + 1))] S 0 0) → P 12 [some (aI (nI a)), some (aI (nI b)), some (aI (nI p)), some (aI (nI dv)), some (aI (nI r)), some (aI (nI t)), x] [aI 64, aI (nI t)] S 0 0 := by
    intro t dv r x ht hdv hr hg hnext
    refine hP _ _ _ _ _ _ (And.intro (fun hc => absurd hc (nI_ge (b := 64) ht (by decide))) (fun _ => ?_))
    repeat (first | (refine hP _ _ _ _ _ _ ?_; show P _ _ _ _ _ _) | (refine hP _ _ _ _ _ _ (And.intro (hN _ _ _ rfl) ?_); show P _ _ (aR _ _ :: _) _ _ _))
    by_cases h0 : r = 0
    · subst h0
      rw [Nat.gcd_zero_right] at hg
      have fin := fin t x
      rw [← hg] at fin
      refine hP _ _ _ _ _ _ (And.intro (fun _ => ?_) (fun hc => absurd rfl hc))
      repeat (first | (refine hP _ _ _ _ _ _ ?_; show P _ _ _ _ _ _) | (refine hP _ _ _ _ _ _ (And.intro (hN _ _ _ rfl) ?_); show P _ _ (aR _ _ :: _) _ _ _))
      exact fin
    · have nz := nI_nz (a := r) (by omega) (by omega)
      have := hnext (by omega) (some (aI (nI (dv % r))))
      rw [nI_succ t] at this
      refine hP _ _ _ _ _ _ (And.intro (fun hc => absurd hc nz) (fun _ => ?_))
      repeat (first | (refine hP _ _ _ _ _ _ ?_; show P _ _ _ _ _ _) | (refine hP _ _ _ _ _ _ (And.intro (hN _ _ _ rfl) ?_); show P _ _ (aR _ _ :: _) _ _ _))
      refine hP _ _ _ _ _ _ (And.intro nz ?_)
      rw [pk_rem (by omega) (by omega) (by omega)]
      repeat (first | (refine hP _ _ _ _ _ _ ?_; show P _ _ _ _ _ _) | (refine hP _ _ _ _ _ _ (And.intro (hN _ _ _ rfl) ?_); show P _ _ (aR _ _ :: _) _ _ _))
      exact this
  have main : ∀ k t dv r x, 2 * k + t ≤ 62 → r < 2 ^ k → dv < 2 ^ 12 → r < 2 ^ 12 → Nat.gcd dv r = Nat.gcd a b → P 12 [some (aI (nI a)), some (aI (nI b)), some (aI (nI p)), some (aI (nI dv)), some (aI (nI r)), some (aI (nI t)), x] [aI 64, aI (nI t)] S 0 0 := by
    intro k
    induction k with
    | zero =>
      intro t dv r x ht hk hdv hr hg
      exact step t dv r x (by omega) hdv hr hg (fun z => absurd z (by omega))
    | succ k ih =>
      intro t dv r x ht hk hdv hr hg
      refine step t dv r x (by omega) hdv hr hg (fun h0 x' => ?_)
      have m1 := Nat.mod_lt dv h0
      refine step (t + 1) r (dv % r) x' (by omega) hr (by omega) (by rw [gcS]; exact hg) (fun h1 x'' => ?_)
      have m2 := hlf h1 m1
      have e2 : 2 ^ (k + 1) = 2 * 2 ^ k := by rw [Nat.pow_succ]; omega
      exact ih (t + 1 + 1) (dv % r) (r % (dv % r)) x'' (by omega) (by omega) (by omega) (by omega) (by rw [gcS, gcS]; exact hg)
  repeat (first | (refine hP _ _ _ _ _ _ ?_; show P _ _ _ _ _ _) | (refine hP _ _ _ _ _ _ (And.intro (hN _ _ _ rfl) ?_); show P _ _ (aR _ _ :: _) _ _ _))
  exact main 12 0 b a none (by omega) ha hb ha (Nat.gcd_comm b a)
theorem wTH_ok : okW wTH := by
  intro j g k hj
  simp only [wTH] at hj
  omega
def Fl.sNu (F : Fl) (a v : Nat) : Fl := mkF F.n F.rd F.ni F.ru F.ki (uN F.nu a v) F.dn F.ow
def Fl.sKi (F : Fl) (a v : Nat) : Fl := mkF F.n F.rd F.ni F.ru (uN F.ki a v) F.nu F.dn F.ow
theorem HF.sNu {S : St} {f : Nat} {F : Fl} (h : HF S f F) (a v : Nat) : HF (ivSet S 12 f a (nI v)) f (F.sNu a v) := by
  obtain ⟨a1, a2, a3, a4, a5, a6⟩ := h
  refine ⟨?_, ?_, ?_, ?_, fun x hx => ⟨?_, ?_, ?_⟩, fun x y hx hy => ?_⟩
  · rw [iv_ne (by omega)]; exact a1
  · rw [iv_ne (by omega)]; exact a2
  · rw [iv_ne (by omega)]; exact a3
  · rw [iv_ne (by omega)]; exact a4
  · rw [iv_ne (by omega)]; exact (a5 x hx).1
  · show _ = nI (uN F.nu a v x)
    unfold uN
    split
    · rename_i e
      rw [e, iv_at]
    · rename_i e
      rw [iv_ne (by omega)]
      exact (a5 x hx).2.1
  · rw [iv_ne (by omega)]; exact (a5 x hx).2.2
  · rw [iv_ne (by omega)]; exact a6 x y hx hy
theorem HF.sKi {S : St} {f : Nat} {F : Fl} (h : HF S f F) (a v : Nat) : HF (ivSet S 11 f a (nI v)) f (F.sKi a v) := by
  obtain ⟨a1, a2, a3, a4, a5, a6⟩ := h
  refine ⟨?_, ?_, ?_, ?_, fun x hx => ⟨?_, ?_, ?_⟩, fun x y hx hy => ?_⟩
  · rw [iv_ne (by omega)]; exact a1
  · rw [iv_ne (by omega)]; exact a2
  · rw [iv_ne (by omega)]; exact a3
  · rw [iv_ne (by omega)]; exact a4
  · show _ = nI (uN F.ki a v x)
    unfold uN
    split
    · rename_i e
      rw [e, iv_at]
    · rename_i e
      rw [iv_ne (by omega)]
      exact (a5 x hx).1
  · rw [iv_ne (by omega)]; exact (a5 x hx).2.1
  · rw [iv_ne (by omega)]; exact (a5 x hx).2.2
  · rw [iv_ne (by omega)]; exact a6 x y hx hy
theorem WF.sNu {nT : Nat} {F : Fl} (h : WF nT F) (a : Nat) {v : Nat} (hv : v ≤ 9) : WF nT (F.sNu a v) := by
  refine ⟨h.1, h.2.1, h.2.2.1, fun x hx => ?_⟩
  obtain ⟨b1, b2', b3, b4⟩ := h.2.2.2 x hx
  refine ⟨b1, ?_, b3, b4⟩
  show uN F.nu a v x ≤ 9
  unfold uN
  split <;> omega
theorem WF.sKi {nT : Nat} {F : Fl} (h : WF nT F) (a : Nat) {v : Nat} (hv : v ≤ 5) : WF nT (F.sKi a v) := by
  refine ⟨h.1, h.2.1, h.2.2.1, fun x hx => ?_⟩
  obtain ⟨b1, b2', b3, b4⟩ := h.2.2.2 x hx
  refine ⟨?_, b2', b3, b4⟩
  show uN F.ki a v x ≤ 5
  unfold uN
  split <;> omega
/-- one thing of a floor laid -/
def stF (F : Fl) (w a b v : Nat) : Fl := match w with
  | 0 => F.sR v
  | 1 => F.sNi v
  | 2 => F.sNu a v
  | 3 => F.sD a v
  | 4 => F.sO a b v
  | 5 => F.sKi a v
  | _ => F.sRu v
theorem tdI_ok {tv : TV} {nT w : Nat} {F : Fl} {x : Int32} (hw : w ≤ 4) (hW : WF nT F) (h1 : F.rd ≤ 999) (h2 : F.ni ≤ 999) (h : isOfB F.n w x = true) : ∃ m, m ≤ 999 ∧ tdI tv F x w = nI m := by
  rcases (show w = 0 ∨ w = 1 ∨ w = 2 ∨ w = 3 ∨ w = 4 by omega) with rfl | rfl | rfl | rfl | rfl
  · exact ⟨F.rd, h1, rfl⟩
  · exact ⟨F.ni, h2, rfl⟩
  · have h : isD F.n x = true := h
    obtain ⟨a, ha, ha2, rfl⟩ := isD_of h
    have := (hW.2.2.2 a ha).2.1
    exact ⟨F.nu a, by omega, by simp [tdI, h, nI_clamp ha2]⟩
  · have h : isD F.n x = true := h
    obtain ⟨a, ha, ha2, rfl⟩ := isD_of h
    have := hW.dn ha
    exact ⟨F.dn a, by omega, by simp [tdI, h, nI_clamp ha2]⟩
  · have h : (dpx F.n x).isSome = true := h
    cases e : dpx F.n x with
    | none => rw [e] at h; cases h
    | some q =>
      obtain ⟨q1, q2, q3⟩ := dpx_lt e
      have := hW.ow q1 q2
      exact ⟨F.ow q.1 q.2, by omega, by simp [tdI, e]⟩
theorem grN_le : ∀ k, k ≤ 4 → grN k ≤ 999 := by decide
theorem c_setx {tv : TV} {nT d w a b v : Nat} {S : St} {K : KT} {F : Fl} {x : Int32} (hd : 150 ≤ d) (hX : FX tv nT S 0 F) (hs : STA S) (hz : zB S 0 F.n) (h1 : F.rd ≤ 999) (h2 : F.ni ≤ 999) (hw : w ≤ 4) (hv : v ≤ grN w) (ho : isOfB F.n w x = true) (ha : w = 2 ∨ w = 3 → a < F.n ∧ x = nI a) (hq : w = 4 → dpx F.n x = some (a, b)) (h : ∀ S', Ag wFl S S' → HF S' 0 (stF F w a b v) → zB S' 0 F.n → K (some (aI (tdI tv F x w))) S') : Call d m_X5_set [aR 0 0, aI (nI w), aI x, aI (nI v)] S K := by
  refine Call.of (k := 149) hd (fun e he P hP => ?_)
  have hN := hX.1.1
  have hn5 := hX.2.2.1
  have hg := grN_le w hw
  repeat (first | (refine hP _ _ _ _ _ _ ?_; show P _ _ _ _ _ _) | (refine hP _ _ _ _ _ _ (And.intro (hN _ _ _ rfl) ?_); show P _ _ (aR _ _ :: _) _ _ _))
  refine hP _ _ _ _ _ _ (And.intro (fun hc => absurd hc (nI_pos (by omega))) (fun _ => ?_))
  repeat (first | (refine hP _ _ _ _ _ _ ?_; show P _ _ _ _ _ _) | (refine hP _ _ _ _ _ _ (And.intro (hN _ _ _ rfl) ?_); show P _ _ (aR _ _ :: _) _ _ _))
  refine hP _ _ _ _ _ _ (And.intro (fun hc => absurd hc (nI_ge (a := w) (b := 5) (by omega) (by omega))) (fun _ => ?_))
  repeat (first | (refine hP _ _ _ _ _ _ ?_; show P _ _ _ _ _ _) | (refine hP _ _ _ _ _ _ (And.intro (hN _ _ _ rfl) ?_); show P _ _ (aR _ _ :: _) _ _ _))
  refine hP _ _ _ _ _ _ (And.intro (fun hc => absurd hc (nI_pos (by omega))) (fun _ => ?_))
  repeat (first | (refine hP _ _ _ _ _ _ ?_; show P _ _ _ _ _ _) | (refine hP _ _ _ _ _ _ (And.intro (hN _ _ _ rfl) ?_); show P _ _ (aR _ _ :: _) _ _ _))
  refine hP _ _ _ _ _ _ (Exists.intro (w) (And.intro (And.intro (rfl) (by show w < 5; omega)) ?_))
  rw [hs.2.2.1 w (by omega)]
  repeat (first | (refine hP _ _ _ _ _ _ ?_; show P _ _ _ _ _ _) | (refine hP _ _ _ _ _ _ (And.intro (hN _ _ _ rfl) ?_); show P _ _ (aR _ _ :: _) _ _ _))
  refine hP _ _ _ _ _ _ (And.intro (fun _ => ?_) (fun hc => absurd (nI_le (a := v) (b := grN w) (by omega) (by omega)) hc))
  repeat (first | (refine hP _ _ _ _ _ _ ?_; show P _ _ _ _ _ _) | (refine hP _ _ _ _ _ _ (And.intro (hN _ _ _ rfl) ?_); show P _ _ (aR _ _ :: _) _ _ _))
  refine hP _ _ _ _ _ _ (c_told (by omega) hX (by omega) (fun S1 g1 => ?_))
  have hX1 := hX.sc g1
  have hN := hX1.1.1
  have hz1 : zB S1 0 F.n := hz.up g1 (fun j k z => by simp only [w0] at z; omega)
  have g1f : Ag wFl S S1 := g1.mono (fun j g k z => by simp only [w0] at z; simp only [wFl]; omega)
  obtain ⟨m, hm, em⟩ := tdI_ok (tv := tv) hw hX.2.2 h1 h2 ho
  rw [em] at h ⊢
  repeat (first | (refine hP _ _ _ _ _ _ ?_; show P _ _ _ _ _ _) | (refine hP _ _ _ _ _ _ (And.intro (hN _ _ _ rfl) ?_); show P _ _ (aR _ _ :: _) _ _ _))
  refine hP _ _ _ _ _ _ (And.intro (fun _ => ?_) (fun hc => absurd (nI_pos' (by omega)) hc))
  repeat (first | (refine hP _ _ _ _ _ _ ?_; show P _ _ _ _ _ _) | (refine hP _ _ _ _ _ _ (And.intro (hN _ _ _ rfl) ?_); show P _ _ (aR _ _ :: _) _ _ _))
  rcases (show w = 0 ∨ w = 1 ∨ w = 2 ∨ w = 3 ∨ w = 4 by omega) with rfl | rfl | rfl | rfl | rfl
  · refine hP _ _ _ _ _ _ (swP_to ?_)
    show P 76 _ _ _ _ _
    repeat (first | (refine hP _ _ _ _ _ _ ?_; show P _ _ _ _ _ _) | (refine hP _ _ _ _ _ _ (And.intro (hN _ _ _ rfl) ?_); show P _ _ (aR _ _ :: _) _ _ _))
    exact hP _ _ _ _ _ _ (h _ (g1f.tr (Ag.iv (by simp [wFl]))) (hX1.2.1.sR v) (hz1.up (W := fun j g k => j = 10) (Ag.iv rfl) (fun j k z => by omega)))
  · refine hP _ _ _ _ _ _ (swP_to ?_)
    show P 87 _ _ _ _ _
    repeat (first | (refine hP _ _ _ _ _ _ ?_; show P _ _ _ _ _ _) | (refine hP _ _ _ _ _ _ (And.intro (hN _ _ _ rfl) ?_); show P _ _ (aR _ _ :: _) _ _ _))
    exact hP _ _ _ _ _ _ (h _ (g1f.tr (Ag.iv (by simp [wFl]))) (hX1.2.1.sNi v) (hz1.up (W := fun j g k => j = 10) (Ag.iv rfl) (fun j k z => by omega)))
  · obtain ⟨ha, rfl⟩ := ha (by omega)
    refine hP _ _ _ _ _ _ (swP_to ?_)
    show P 98 _ _ _ _ _
    repeat (first | (refine hP _ _ _ _ _ _ ?_; show P _ _ _ _ _ _) | (refine hP _ _ _ _ _ _ (And.intro (hN _ _ _ rfl) ?_); show P _ _ (aR _ _ :: _) _ _ _))
    refine hP _ _ _ _ _ _ (Exists.intro (a) (And.intro (And.intro (rfl) (by show a < 5; omega)) ?_))
    repeat (first | (refine hP _ _ _ _ _ _ ?_; show P _ _ _ _ _ _) | (refine hP _ _ _ _ _ _ (And.intro (hN _ _ _ rfl) ?_); show P _ _ (aR _ _ :: _) _ _ _))
    exact hP _ _ _ _ _ _ (h _ (g1f.tr (Ag.iv (by simp [wFl]))) (hX1.2.1.sNu a v) (hz1.up (W := fun j g k => j = 12) (Ag.iv rfl) (fun j k z => by omega)))
  · obtain ⟨ha, rfl⟩ := ha (by omega)
    refine hP _ _ _ _ _ _ (swP_to ?_)
    show P 111 _ _ _ _ _
    repeat (first | (refine hP _ _ _ _ _ _ ?_; show P _ _ _ _ _ _) | (refine hP _ _ _ _ _ _ (And.intro (hN _ _ _ rfl) ?_); show P _ _ (aR _ _ :: _) _ _ _))
    refine hP _ _ _ _ _ _ (Exists.intro (a) (And.intro (And.intro (rfl) (by show a < 5; omega)) ?_))
    repeat (first | (refine hP _ _ _ _ _ _ ?_; show P _ _ _ _ _ _) | (refine hP _ _ _ _ _ _ (And.intro (hN _ _ _ rfl) ?_); show P _ _ (aR _ _ :: _) _ _ _))
    exact hP _ _ _ _ _ _ (h _ (g1f.tr (Ag.iv (by simp [wFl]))) (hX1.2.1.sD a v) (hz1.n (W := fun j g k => j = 13 ∧ k = a) (Ag.iv ⟨rfl, rfl⟩) (fun j k z => by omega)))
  · have hq := hq rfl
    obtain ⟨q1, q2, q3⟩ := dpx_lt hq
    have q1 : a < F.n := q1
    have q2 : b < F.n := q2
    refine hP _ _ _ _ _ _ (swP_to ?_)
    show P 124 _ _ _ _ _
    repeat (first | (refine hP _ _ _ _ _ _ ?_; show P _ _ _ _ _ _) | (refine hP _ _ _ _ _ _ (And.intro (hN _ _ _ rfl) ?_); show P _ _ (aR _ _ :: _) _ _ _))
    refine hP _ _ _ _ _ _ (c_debtPlace (by omega) hN hX1.2.1.1 hn5 ?_)
    rw [hq]
    repeat (first | (refine hP _ _ _ _ _ _ ?_; show P _ _ _ _ _ _) | (refine hP _ _ _ _ _ _ (And.intro (hN _ _ _ rfl) ?_); show P _ _ (aR _ _ :: _) _ _ _))
    refine hP _ _ _ _ _ _ (Exists.intro (5 * a + b) (And.intro (And.intro (rfl) (by show 5 * a + b < 25; omega)) ?_))
    repeat (first | (refine hP _ _ _ _ _ _ ?_; show P _ _ _ _ _ _) | (refine hP _ _ _ _ _ _ (And.intro (hN _ _ _ rfl) ?_); show P _ _ (aR _ _ :: _) _ _ _))
    exact hP _ _ _ _ _ _ (h _ (g1f.tr (Ag.iv (by simp [wFl]))) (hX1.2.1.sO hn5 a b v q2) (hz1.n (W := fun j g k => j = 14 ∧ k = 5 * a + b) (Ag.iv ⟨rfl, rfl⟩) (fun j k z => by omega)))
def wSH : WW := fun j _ _ => j = 4 ∨ j = 5 ∨ j = 20 ∨ j = 21
def upS (sh : Shs) (g : Nat) (v : Nat × Nat × (Nat → Int32)) : Shs := fun i => if i = g then v else sh i
theorem upS_at {sh : Shs} {g : Nat} {v : Nat × Nat × (Nat → Int32)} : upS sh g v g = v := if_pos rfl
theorem upS_ne {sh : Shs} {g i : Nat} {v : Nat × Nat × (Nat → Int32)} (h : ¬ i = g) : upS sh g v i = sh i := if_neg h
def wS1 (g : Nat) : WW := fun j i _ => i = g ∧ (j = 20 ∨ j = 21)
theorem SHc.set {S S' : St} {sh : Shs} {g : Nat} {v : Nat × Nat × (Nat → Int32)} {W : WW} (h : SHc S sh) (h1 : Ag W S S') (hw : ∀ j i k, W j i k → ¬ i = g → ¬ (j = 20 ∨ j = 21)) (h2 : S'.1 20 g 0 = nI v.1 - 1 ∧ v.1 ≤ 3 ∧ S'.1 20 g 1 = nI v.2.1 ∧ v.2.1 ≤ 40 ∧ ∀ k, k < v.2.1 → S'.1 21 g k = v.2.2 k) : SHc S' (upS sh g v) := by
  intro i hi
  by_cases e : i = g
  · rw [e, upS_at]
    exact h2
  · rw [upS_ne e]
    obtain ⟨a1, a2, a3, a4, a5⟩ := h i hi
    refine ⟨?_, a2, ?_, a4, fun k hk => ?_⟩
    · rw [h1.1 20 i 0 (fun z => hw _ _ _ z e (by omega))]; exact a1
    · rw [h1.1 20 i 1 (fun z => hw _ _ _ z e (by omega))]; exact a3
    · rw [h1.1 21 i k (fun z => hw _ _ _ z e (by omega))]; exact a5 k hk
theorem SHm.set {S S' : St} {sh : Shs} {g : Nat} {v : Nat × Nat × (Nat → Int32)} {W : WW} (h : SHm S sh) (hc : ∀ i, i < 4 → (sh i).2.1 ≤ 40) (h1 : Ag W S S') (hw : ∀ j i k, W j i k → ¬ (55 ≤ j ∧ j ≤ 57 ∧ ¬ k = g) ∧ ¬ (j = 58 ∧ (k < 40 * g ∨ 40 * g + 40 ≤ k))) (h2 : (S'.1 55 0 g = if v.1 = 0 then 0 else 1) ∧ (v.1 ≠ 0 → S'.1 56 0 g = nI v.1 - 1 ∧ S'.1 57 0 g = nI v.2.1 ∧ ∀ k, k < v.2.1 → S'.1 58 0 (40 * g + k) = v.2.2 k)) : SHm S' (upS sh g v) := by
  intro i hi
  by_cases e : i = g
  · rw [e, upS_at]
    exact h2
  · rw [upS_ne e]
    obtain ⟨a1, a2⟩ := h i hi
    have hs := hc i hi
    refine ⟨by rw [h1.1 55 0 i (fun z => (hw _ _ _ z).1 ⟨by omega, by omega, e⟩)]; exact a1, fun hn => ?_⟩
    obtain ⟨b1, b2', b3⟩ := a2 hn
    refine ⟨?_, ?_, fun k hk => ?_⟩
    · rw [h1.1 56 0 i (fun z => (hw _ _ _ z).1 ⟨by omega, by omega, e⟩)]; exact b1
    · rw [h1.1 57 0 i (fun z => (hw _ _ _ z).1 ⟨by omega, by omega, e⟩)]; exact b2'
    · rw [h1.1 58 0 _ (fun z => (hw _ _ _ z).2 ⟨rfl, by omega⟩)]; exact b3 k hk
theorem c_isSheet {d : Nat} {S : St} {K : KT} {x : Int32} (hd : 1 ≤ d) (h : K (some (aI (b2 (isD 4 x)))) S) : Call d m_X5_isSheet [aI x] S K := by
  refine Call.of (k := 0) hd (fun e he P hP => ?_)
  have hN : True := trivial
  repeat (first | (refine hP _ _ _ _ _ _ ?_; show P _ _ _ _ _ _) | refine hP _ _ _ _ _ _ (And.intro (hN _ _ _ rfl) ?_))
  rcases rng (x := x) (n := 4) (by omega) with ⟨hf, h0 | ⟨h0, h1⟩⟩ | ⟨k, hk, hf, rfl⟩
  · rw [hf] at h
    refine hP _ _ _ _ _ _ (And.intro (fun _ => ?_) (fun hc => absurd h0 hc))
    repeat (first | (refine hP _ _ _ _ _ _ ?_; show P _ _ _ _ _ _) | refine hP _ _ _ _ _ _ (And.intro (hN _ _ _ rfl) ?_))
    refine hP _ _ _ _ _ _ (And.intro (Or.inl rfl) h)
  · rw [hf] at h
    refine hP _ _ _ _ _ _ (And.intro (fun hc => absurd hc h0) (fun _ => ?_))
    repeat (first | (refine hP _ _ _ _ _ _ ?_; show P _ _ _ _ _ _) | refine hP _ _ _ _ _ _ (And.intro (hN _ _ _ rfl) ?_))
    refine hP _ _ _ _ _ _ (And.intro (fun _ => ?_) (fun hc => absurd h1 hc))
    repeat (first | (refine hP _ _ _ _ _ _ ?_; show P _ _ _ _ _ _) | refine hP _ _ _ _ _ _ (And.intro (hN _ _ _ rfl) ?_))
    refine hP _ _ _ _ _ _ (And.intro (Or.inl rfl) h)
  · rw [hf] at h
    refine hP _ _ _ _ _ _ (And.intro (fun hc => absurd hc (nI_pos (by omega))) (fun _ => ?_))
    repeat (first | (refine hP _ _ _ _ _ _ ?_; show P _ _ _ _ _ _) | refine hP _ _ _ _ _ _ (And.intro (hN _ _ _ rfl) ?_))
    refine hP _ _ _ _ _ _ (And.intro (fun hc => absurd hc (nI_ge (b := 4) hk (by omega))) (fun _ => ?_))
    repeat (first | (refine hP _ _ _ _ _ _ ?_; show P _ _ _ _ _ _) | refine hP _ _ _ _ _ _ (And.intro (hN _ _ _ rfl) ?_))
    refine hP _ _ _ _ _ _ (And.intro (Or.inr rfl) h)
theorem c_become {d g : Nat} {S : St} {K : KT} {s n : Int32} (hd : 1 ≤ d) (hN : NN S) (h : ∀ S', Ag (wS1 g) S S' → S'.1 20 g 0 = s → S'.1 20 g 1 = n → (∀ k, k < 40 → S'.1 21 g k = 0) → K none S') : Call d m_X3_become [aR 20 g, aI s, aI n] S K := by
  refine Call.of (k := 0) hd (fun e he P hP => ?_)
  have hN0 := hN
  have e0 : (ivSet (ivSet S 20 g 0 s) 20 g 1 n).1 20 g 0 = s := by rw [iv_ne (by omega), iv_at]
  have e1 : (ivSet (ivSet S 20 g 0 s) 20 g 1 n).1 20 g 1 = n := iv_at
  have g0 : Ag (wS1 g) S (ivSet (ivSet S 20 g 0 s) 20 g 1 n) := (Ag.iv ⟨rfl, Or.inl rfl⟩).tr (Ag.iv ⟨rfl, Or.inl rfl⟩)
  have loop : ∀ k, k ≤ 40 → ∀ S1, Ag (fun j i k => i = g ∧ j = 21) (ivSet (ivSet S 20 g 0 s) 20 g 1 n) S1 → (∀ m, m < k → S1.1 21 g m = 0) → P 18 [some (aR 20 g), some (aI s), some (aI n), some (aI (nI k))] [aI (nI 40), aI (nI k)] S1 0 0 := by
    refine dn ?_ ?_
    · intro S1 g1 a1
      refine hP _ _ _ _ _ _ (And.intro (fun _ => ?_) (fun hc => absurd (nI_le (Nat.le_refl 40) (by decide)) hc))
      repeat (first | (refine hP _ _ _ _ _ _ ?_; show P _ _ _ _ _ _) | (refine hP _ _ _ _ _ _ (And.intro (hN _ _ _ rfl) ?_); show P _ _ (aR _ _ :: _) _ _ _))
      exact hP _ _ _ _ _ _ (h S1 (g0.tr (g1.mono (fun j i k z => ⟨z.1, Or.inr z.2⟩))) (by rw [g1.1 20 g 0 (by simp)]; exact e0) (by rw [g1.1 20 g 1 (by simp)]; exact e1) a1)
    · intro k hk ih S1 g1 a1
      have hN := (hN0.up g0).up g1
      rw [nI_succ k] at ih
      refine hP _ _ _ _ _ _ (And.intro (fun hc => absurd hc (nI_ge hk (by decide))) (fun _ => ?_))
      repeat (first | (refine hP _ _ _ _ _ _ ?_; show P _ _ _ _ _ _) | (refine hP _ _ _ _ _ _ (And.intro (hN _ _ _ rfl) ?_); show P _ _ (aR _ _ :: _) _ _ _))
      refine hP _ _ _ _ _ _ (Exists.intro (k) (And.intro (And.intro (rfl) (show k < 40 from hk)) ?_))
      show P _ _ _ (ivSet S1 21 g k 0) _ _
      have := ih (ivSet S1 21 g k 0) (g1.tr (Ag.iv ⟨rfl, rfl⟩)) (fun m hm => by
        by_cases e : m = k
        · rw [e, iv_at]
        · rw [iv_ne (by omega)]
          exact a1 m (by omega))
      repeat (first | (refine hP _ _ _ _ _ _ ?_; show P _ _ _ _ _ _) | (refine hP _ _ _ _ _ _ (And.intro (hN _ _ _ rfl) ?_); show P _ _ (aR _ _ :: _) _ _ _))
      exact this
  repeat (first | (refine hP _ _ _ _ _ _ ?_; show P _ _ _ _ _ _) | (refine hP _ _ _ _ _ _ (And.intro (hN _ _ _ rfl) ?_); show P _ _ (aR _ _ :: _) _ _ _))
  exact loop 0 (by omega) _ (Ag.rf _ _) (fun m hm => by omega)
theorem nn18 {g : Nat} (h : g < 4) : nnr 18 g = true := by
  rcases (show g = 0 ∨ g = 1 ∨ g = 2 ∨ g = 3 by omega) with rfl | rfl | rfl | rfl <;> rfl
