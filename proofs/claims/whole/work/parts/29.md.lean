/-! The model: both dance; a round -/
def mS : WW := fun j g k => (j = 40 ∧ 14 ≤ k ∧ k ≤ 28) ∨ (g = 0 ∧ (j = 45 ∧ k < 10 ∨ j = 46 ∧ k < 25))
def mR : WW := fun j g k => (j = 40 ∧ 14 ≤ k ∧ k ≤ 29) ∨ (g = 0 ∧ (j = 40 ∧ k = 7 ∨ j = 45 ∧ k < 10 ∨ j = 46 ∧ k < 25))
theorem mS_ok : okM mS := by
  intro j g k hj
  simp only [mS] at hj
  omega
theorem mR_ok : okM mR := by
  intro j g k hj
  simp only [mR] at hj
  omega
theorem m0_S : ∀ j g k, m0 j g k → mS j g k := by
  intro j g k hj
  simp only [m0] at hj
  simp only [mS]
  omega
theorem m0_R : ∀ j g k, m0 j g k → mR j g k := by
  intro j g k hj
  simp only [m0] at hj
  simp only [mR]
  omega
theorem mS_R : ∀ j g k, mS j g k → mR j g k := by
  intro j g k hj
  simp only [mS] at hj
  simp only [mR]
  omega
theorem HM.sD {S : St} {F : Fl} (h : HM S F) (a v : Nat) : HM (ivSet S 45 0 (2 * a + 1) (nI v)) (F.sD a v) := by
  obtain ⟨a1, a2, a3, a4, a5, a6⟩ := h
  refine ⟨?_, ?_, ?_, ?_, fun x hx => ⟨?_, ?_, ?_⟩, fun x y hx hy => ?_⟩
  · rw [iv_ne (by omega)]; exact a1
  · rw [iv_ne (by omega)]; exact a2
  · rw [iv_ne (by omega)]; exact a3
  · rw [iv_ne (by omega)]; exact a4
  · rw [iv_ne (by omega)]; exact (a5 x hx).1
  · rw [iv_ne (by omega)]; exact (a5 x hx).2.1
  · show _ = nI (uN F.dn a v x)
    unfold uN
    split
    · rename_i e
      rw [e, iv_at]
    · rename_i e
      rw [iv_ne (by omega)]
      exact (a5 x hx).2.2
  · rw [iv_ne (by omega)]; exact a6 x y hx hy
theorem HM.sO {S : St} {F : Fl} (h : HM S F) (hn : F.n ≤ 5) (a b v : Nat) (hb : b < F.n) : HM (ivSet S 46 0 (5 * a + b) (nI v)) (F.sO a b v) := by
  obtain ⟨a1, a2, a3, a4, a5, a6⟩ := h
  refine ⟨?_, ?_, ?_, ?_, fun x hx => ⟨?_, ?_, ?_⟩, fun x y hx hy => ?_⟩
  · rw [iv_ne (by omega)]; exact a1
  · rw [iv_ne (by omega)]; exact a2
  · rw [iv_ne (by omega)]; exact a3
  · rw [iv_ne (by omega)]; exact a4
  · rw [iv_ne (by omega)]; exact (a5 x hx).1
  · rw [iv_ne (by omega)]; exact (a5 x hx).2.1
  · rw [iv_ne (by omega)]; exact (a5 x hx).2.2
  · show _ = nI (uN2 F.ow a b v x y)
    have hy' : y < F.n := hy
    unfold uN2
    split
    · rename_i e
      rw [e.1, e.2, iv_at]
    · rename_i e
      rw [iv_ne (by omega)]
      exact a6 x y hx hy
theorem HM.sR {S : St} {F : Fl} (h : HM S F) (v : Nat) : HM (ivSet S 40 0 7 (nI v)) (F.sR v) := by
  obtain ⟨a1, a2, a3, a4, a5, a6⟩ := h
  refine ⟨?_, ?_, ?_, ?_, fun x hx => ⟨?_, ?_, ?_⟩, fun x y hx hy => ?_⟩
  · rw [iv_ne (by omega)]; exact a1
  · rw [iv_at]; rfl
  · rw [iv_ne (by omega)]; exact a3
  · rw [iv_ne (by omega)]; exact a4
  · rw [iv_ne (by omega)]; exact (a5 x hx).1
  · rw [iv_ne (by omega)]; exact (a5 x hx).2.1
  · rw [iv_ne (by omega)]; exact (a5 x hx).2.2
  · rw [iv_ne (by omega)]; exact a6 x y hx hy
theorem HM.sNi {S : St} {F : Fl} (h : HM S F) (v : Nat) : HM (ivSet S 40 0 8 (nI v)) (F.sNi v) := by
  obtain ⟨a1, a2, a3, a4, a5, a6⟩ := h
  refine ⟨?_, ?_, ?_, ?_, fun x hx => ⟨?_, ?_, ?_⟩, fun x y hx hy => ?_⟩
  · rw [iv_ne (by omega)]; exact a1
  · rw [iv_ne (by omega)]; exact a2
  · rw [iv_at]; rfl
  · rw [iv_ne (by omega)]; exact a4
  · rw [iv_ne (by omega)]; exact (a5 x hx).1
  · rw [iv_ne (by omega)]; exact (a5 x hx).2.1
  · rw [iv_ne (by omega)]; exact (a5 x hx).2.2
  · rw [iv_ne (by omega)]; exact a6 x y hx hy
theorem MX.sD {tv : TV} {nT : Nat} {S : St} {F : Fl} (h : MX tv nT S F) (a : Nat) {v : Nat} (hv : v ≤ 99) : MX tv nT (ivSet S 45 0 (2 * a + 1) (nI v)) (F.sD a v) :=
  ⟨h.1.up (W := fun j _ _ => j = 45) (Ag.iv rfl) (fun j g k hj => by omega), h.2.1.sD a v, h.2.2.sD a hv⟩
theorem MX.sO {tv : TV} {nT : Nat} {S : St} {F : Fl} (h : MX tv nT S F) (a b : Nat) {v : Nat} (hb : b < F.n) (hv : v ≤ 99) : MX tv nT (ivSet S 46 0 (5 * a + b) (nI v)) (F.sO a b v) :=
  ⟨h.1.up (W := fun j _ _ => j = 46) (Ag.iv rfl) (fun j g k hj => by omega), h.2.1.sO h.2.2.1 a b v hb, h.2.2.sO a b hv⟩
theorem MX.sR {tv : TV} {nT : Nat} {S : St} {F : Fl} (h : MX tv nT S F) (v : Nat) : MX tv nT (ivSet S 40 0 7 (nI v)) (F.sR v) :=
  ⟨h.1.up (W := mR) (Ag.iv (by simp [mR])) mR_ok, h.2.1.sR v, h.2.2.sR v⟩
def inc99 (x : Nat) : Nat := if 99 < x + 1 then 99 else x + 1
theorem inc99_le (x : Nat) : inc99 x ≤ 99 := by
  unfold inc99
  split <;> omega
theorem wI_inc {x : Nat} (hx : x < 2 ^ 30) : wI (nI x + 1) 99 = nI (inc99 x) := by
  rw [show (99 : Int32) = nI 99 from rfl, nI_1, wI_nI]
  congr 1
  unfold wN inc99
  rw [if_neg (nI_pos (by omega))]
  by_cases h : 99 < x + 1
  · rw [if_pos h, if_pos (nI_lt h (by omega))]
  · rw [if_neg h, if_neg (nI_nlt (by omega) (by omega)), nI_clamp (by omega)]
theorem n_dances {tv : TV} {nT d : Nat} {S : St} {K : KT} {a : Nat} {F : Fl} (hd : 2 ≤ d) (hX : MX tv nT S F) (ha : a < F.n) (h : K none (ivSet S 45 0 (2 * a + 1) (nI (inc99 (F.dn a))))) : Call d m_X6_dances [aR 40 0, aI (nI a)] S K := by
  refine Call.of (k := 1) hd (fun e he P hP => ?_)
  have hn := hX.2.2.1
  have hN := hX.1.1
  have hdn := hX.2.2.dn ha
  repeat (first | (refine hP _ _ _ _ _ _ ?_; show P _ _ _ _ _ _) | (refine hP _ _ _ _ _ _ (And.intro (hN _ _ _ rfl) ?_); show P _ _ (aR _ _ :: _) _ _ _))
  refine hP _ _ _ _ _ _ (Exists.intro (2 * a + 1) (And.intro (And.intro (jx3 a) (by show _ < 10; omega)) ?_))
  rw [hX.2.1.dn ha]
  repeat (first | (refine hP _ _ _ _ _ _ ?_; show P _ _ _ _ _ _) | (refine hP _ _ _ _ _ _ (And.intro (hN _ _ _ rfl) ?_); show P _ _ (aR _ _ :: _) _ _ _))
  refine hP _ _ _ _ _ _ (n_within (by omega) ?_)
  rw [wI_inc (by omega)]
  refine hP _ _ _ _ _ _ (Exists.intro (2 * a + 1) (And.intro (And.intro (jx3 a) (by show _ < 10; omega)) ?_))
  repeat (first | (refine hP _ _ _ _ _ _ ?_; show P _ _ _ _ _ _) | (refine hP _ _ _ _ _ _ (And.intro (hN _ _ _ rfl) ?_); show P _ _ (aR _ _ :: _) _ _ _))
  exact hP _ _ _ _ _ _ (h)
theorem n_danceBoth {tv : TV} {nT d : Nat} {S : St} {K : KT} {a b : Nat} {F : Fl} (hd : 103 ≤ d) (hX : MX tv nT S F) (ha : a < F.n) (hb : b < F.n) (hab : ¬ a = b) (h : ∀ S', Ag mS S S' → MX tv nT S' (stpN tv F a b) → K (some (aI (nI (spN tv F a b)))) S') : Call d m_X6_danceBoth [aR 40 0, aI (nI a), aI (nI b)] S K := by
  refine Call.of (k := 102) hd (fun e he P hP => ?_)
  have hn := hX.2.2.1
  have hN := hX.1.1
  have o1 := hX.2.2.ow ha hb
  have o2 := hX.2.2.ow hb ha
  have d1 := hX.2.2.dn ha
  have d2 := hX.2.2.dn hb
  repeat (first | (refine hP _ _ _ _ _ _ ?_; show P _ _ _ _ _ _) | (refine hP _ _ _ _ _ _ (And.intro (hN _ _ _ rfl) ?_); show P _ _ (aR _ _ :: _) _ _ _))
  refine hP _ _ _ _ _ _ (n_debtOf (by omega) hX ha hb ?_)
  repeat (first | (refine hP _ _ _ _ _ _ ?_; show P _ _ _ _ _ _) | (refine hP _ _ _ _ _ _ (And.intro (hN _ _ _ rfl) ?_); show P _ _ (aR _ _ :: _) _ _ _))
  refine hP _ _ _ _ _ _ (n_paysOf (by omega) hX ha (by omega) (fun S1 h1 => ?_))
  have hX1 := hX.sc h1
  have hN := hX1.1.1
  repeat (first | (refine hP _ _ _ _ _ _ ?_; show P _ _ _ _ _ _) | (refine hP _ _ _ _ _ _ (And.intro (hN _ _ _ rfl) ?_); show P _ _ (aR _ _ :: _) _ _ _))
  refine hP _ _ _ _ _ _ (n_debtOf (by omega) hX1 hb ha ?_)
  repeat (first | (refine hP _ _ _ _ _ _ ?_; show P _ _ _ _ _ _) | (refine hP _ _ _ _ _ _ (And.intro (hN _ _ _ rfl) ?_); show P _ _ (aR _ _ :: _) _ _ _))
  refine hP _ _ _ _ _ _ (n_paysOf (by omega) hX1 hb (by omega) (fun S2 h2 => ?_))
  have hX2 := hX1.sc h2
  have hN := hX2.1.1
  have hp := pyN_le tv F a (o := F.ow a b) (by omega)
  have hq := pyN_le tv F b (o := F.ow b a) (by omega)
  repeat (first | (refine hP _ _ _ _ _ _ ?_; show P _ _ _ _ _ _) | (refine hP _ _ _ _ _ _ (And.intro (hN _ _ _ rfl) ?_); show P _ _ (aR _ _ :: _) _ _ _))
  refine hP _ _ _ _ _ _ (Exists.intro (5 * a + b) (And.intro (And.intro (jx5 a b) (by show _ < 25; omega)) ?_))
  rw [hX2.2.1.ow ha hb]
  repeat (first | (refine hP _ _ _ _ _ _ ?_; show P _ _ _ _ _ _) | (refine hP _ _ _ _ _ _ (And.intro (hN _ _ _ rfl) ?_); show P _ _ (aR _ _ :: _) _ _ _))
  rw [pk_sub hp]
  refine hP _ _ _ _ _ _ (Exists.intro (5 * a + b) (And.intro (And.intro (jx5 a b) (by show _ < 25; omega)) ?_))
  show P _ _ _ (ivSet S2 46 0 (5 * a + b) (nI (F.ow a b - pyN tv F a (F.ow a b)))) _ _
  have hX3 := hX2.sO a b (v := F.ow a b - pyN tv F a (F.ow a b)) hb (by omega)
  have g3 : Ag mS S2 (ivSet S2 46 0 (5 * a + b) (nI (F.ow a b - pyN tv F a (F.ow a b)))) := Ag.iv (Or.inr ⟨rfl, Or.inr ⟨rfl, by omega⟩⟩)
  have e3 : (ivSet S2 46 0 (5 * a + b) (nI (F.ow a b - pyN tv F a (F.ow a b)))).1 46 0 (5 * b + a) = nI (F.ow b a) := by
    rw [iv_ne (by omega)]
    exact hX2.2.1.ow hb ha
  generalize ivSet S2 46 0 (5 * a + b) (nI (F.ow a b - pyN tv F a (F.ow a b))) = S3 at hX3 g3 e3 ⊢
  have hN := hX3.1.1
  repeat (first | (refine hP _ _ _ _ _ _ ?_; show P _ _ _ _ _ _) | (refine hP _ _ _ _ _ _ (And.intro (hN _ _ _ rfl) ?_); show P _ _ (aR _ _ :: _) _ _ _))
  refine hP _ _ _ _ _ _ (Exists.intro (5 * b + a) (And.intro (And.intro (jx5 b a) (by show _ < 25; omega)) ?_))
  rw [e3]
  repeat (first | (refine hP _ _ _ _ _ _ ?_; show P _ _ _ _ _ _) | (refine hP _ _ _ _ _ _ (And.intro (hN _ _ _ rfl) ?_); show P _ _ (aR _ _ :: _) _ _ _))
  rw [pk_sub hq]
  refine hP _ _ _ _ _ _ (Exists.intro (5 * b + a) (And.intro (And.intro (jx5 b a) (by show _ < 25; omega)) ?_))
  show P _ _ _ (ivSet S3 46 0 (5 * b + a) (nI (F.ow b a - pyN tv F b (F.ow b a)))) _ _
  have hX4 := hX3.sO b a (v := F.ow b a - pyN tv F b (F.ow b a)) ha (by omega)
  have g4 : Ag mS S3 (ivSet S3 46 0 (5 * b + a) (nI (F.ow b a - pyN tv F b (F.ow b a)))) := Ag.iv (Or.inr ⟨rfl, Or.inr ⟨rfl, by omega⟩⟩)
  generalize ivSet S3 46 0 (5 * b + a) (nI (F.ow b a - pyN tv F b (F.ow b a))) = S4 at hX4 g4 ⊢
  have hN := hX4.1.1
  repeat (first | (refine hP _ _ _ _ _ _ ?_; show P _ _ _ _ _ _) | (refine hP _ _ _ _ _ _ (And.intro (hN _ _ _ rfl) ?_); show P _ _ (aR _ _ :: _) _ _ _))
  refine hP _ _ _ _ _ _ (n_dances (by omega) hX4 ha ?_)
  have hX5 := hX4.sD a (v := inc99 (F.dn a)) (inc99_le _)
  have g5 : Ag mS S4 (ivSet S4 45 0 (2 * a + 1) (nI (inc99 (F.dn a)))) := Ag.iv (Or.inr ⟨rfl, Or.inl ⟨rfl, by omega⟩⟩)
  show P _ _ _ (ivSet S4 45 0 (2 * a + 1) (nI (inc99 (F.dn a)))) _ _
  generalize ivSet S4 45 0 (2 * a + 1) (nI (inc99 (F.dn a))) = S5 at hX5 g5 ⊢
  have hN := hX5.1.1
  repeat (first | (refine hP _ _ _ _ _ _ ?_; show P _ _ _ _ _ _) | (refine hP _ _ _ _ _ _ (And.intro (hN _ _ _ rfl) ?_); show P _ _ (aR _ _ :: _) _ _ _))
  refine hP _ _ _ _ _ _ (n_dances (by omega) hX5 hb ?_)
  have edn : ((((F.sO a b (F.ow a b - pyN tv F a (F.ow a b))).sO b a (F.ow b a - pyN tv F b (F.ow b a))).sD a (inc99 (F.dn a)))).dn b = F.dn b := by
    show uN F.dn a _ b = _
    unfold uN
    rw [if_neg (fun z => hab z.symm)]
  rw [edn]
  have hX6 := hX5.sD b (v := inc99 (F.dn b)) (inc99_le _)
  have g6 : Ag mS S5 (ivSet S5 45 0 (2 * b + 1) (nI (inc99 (F.dn b)))) := Ag.iv (Or.inr ⟨rfl, Or.inl ⟨rfl, by omega⟩⟩)
  show P _ _ _ (ivSet S5 45 0 (2 * b + 1) (nI (inc99 (F.dn b)))) _ _
  generalize ivSet S5 45 0 (2 * b + 1) (nI (inc99 (F.dn b))) = S6 at hX6 g6 ⊢
  repeat (first | (refine hP _ _ _ _ _ _ ?_; show P _ _ _ _ _ _) | (refine hP _ _ _ _ _ _ (And.intro (hN _ _ _ rfl) ?_); show P _ _ (aR _ _ :: _) _ _ _))
  have h := h S6 (((((h1.tr h2).mono m0_S).tr g3).tr g4).tr (g5.tr g6)) hX6
  unfold spN at h
  rw [← nI_add] at h
  exact hP _ _ _ _ _ _ (h)
def bas (a : Nat) : Nat := [0, 4, 7, 9, 10].getD a 10
theorem bas_ab : ∀ a, a < 5 → ∀ b, b < 5 → a < b → prA (bas a + (b - a - 1)) = a ∧ prB (bas a + (b - a - 1)) = b := by decide
theorem bas_end : ∀ a, a < 5 → bas a + (5 - a - 1) = bas (a + 1) := by decide
theorem rA_skip (tv : TV) (F : Fl) {a b : Nat} (ha : a < 5) (hb : b < 5) (hab : a < b) (hn : F.n ≤ b) : rA tv F (bas a + (b - a - 1) + 1) = rA tv F (bas a + (b - a - 1)) := by
  have h := bas_ab a ha b hb hab
  have : ¬ b < F.n := by omega
  simp only [rA, r1, h.2, rA_n, this, false_and, if_false]
theorem rA_in (tv : TV) (F : Fl) {a : Nat} (ha : a < 5) : ∀ b, b ≤ 5 → (a < b → F.n ≤ b → rA tv F (bas a + (b - a - 1)) = rA tv F (bas (a + 1))) := by
  refine dn ?_ ?_
  · intro _ _
    rw [bas_end a ha]
  · intro b hb ih hab hn
    rw [← ih (by omega) (by omega), ← rA_skip tv F ha hb hab hn]
    congr 1
    omega
theorem rA_out (tv : TV) (F : Fl) : ∀ a, a ≤ 5 → (F.n ≤ a → rA tv F (bas a) = rA tv F 10) := by
  refine dn ?_ ?_
  · intro _
    rfl
  · intro a ha ih hn
    rw [← ih (by omega), ← rA_in tv F ha (a + 1) (by omega) (by omega) (by omega)]
    congr 1
    omega
theorem n_passes {tv : TV} {nT d : Nat} {S : St} {K : KT} {F : Fl} (hd : 105 ≤ d) (hX : MX tv nT S F) (h : ∀ S', Ag mR S S' → MX tv nT S' (rdF tv F) → S'.1 40 0 29 = rdZ tv F → K (some (aI (nI (rdP tv F)))) S') : Call d m_X6_passes [aR 40 0] S K := by
  refine Call.of (k := 104) hd (fun e he P hP => ?_)
  have hN := hX.1.1
  have hn5 := hX.2.2.1
  have outer : ∀ a, a ≤ F.n → ∀ S1 x3 x4, Ag mR S S1 → MX tv nT S1 (rA tv F (bas a)).2.2 → S1.1 40 0 29 = (rA tv F (bas a)).2.1 → P 14 [some (aR 40 0), some (aI (nI (rA tv F (bas a)).1)), some (aI (nI a)), x3, x4] [aI (S1.1 40 0 12), aI (nI a)] S1 0 0 := by
    refine dn ?_ ?_
    · intro S1 x3 x4 g1 hX1 hz
      have hN := hX1.1.1
      rw [rA_out tv F F.n hn5 (Nat.le_refl _)] at hX1 hz ⊢
      repeat (first | (refine hP _ _ _ _ _ _ ?_; show P _ _ _ _ _ _) | (refine hP _ _ _ _ _ _ (And.intro (hN _ _ _ rfl) ?_); show P _ _ (aR _ _ :: _) _ _ _))
      rw [hX1.2.1.1, rA_n]
      refine hP _ _ _ _ _ _ (And.intro (fun _ => ?_) (fun hc => absurd (nI_le (Nat.le_refl _) (by omega)) hc))
      repeat (first | (refine hP _ _ _ _ _ _ ?_; show P _ _ _ _ _ _) | (refine hP _ _ _ _ _ _ (And.intro (hN _ _ _ rfl) ?_); show P _ _ (aR _ _ :: _) _ _ _))
      have e2 : S1.1 40 0 7 + 1 = nI ((rA tv F 10).2.2.rd + 1) := by rw [hX1.2.1.2.1, nI_1]
      show P _ _ _ (ivSet S1 40 0 7 (S1.1 40 0 7 + 1)) _ _
      rw [e2]
      have hX2 := hX1.sR ((rA tv F 10).2.2.rd + 1)
      repeat (first | (refine hP _ _ _ _ _ _ ?_; show P _ _ _ _ _ _) | (refine hP _ _ _ _ _ _ (And.intro (hN _ _ _ rfl) ?_); show P _ _ (aR _ _ :: _) _ _ _))
      have h := h _ (g1.tr (Ag.iv (by simp [mR]))) hX2 (by rw [iv_ne (by omega)]; exact hz)
      exact hP _ _ _ _ _ _ (h)
    · intro a ha ih S1 x3 x4 g1 hX1 hz
      have hN := hX1.1.1
      have inner : ∀ b, b ≤ F.n → (a < b → ∀ S1 x4, Ag mR S S1 → MX tv nT S1 (rA tv F (bas a + (b - a - 1))).2.2 → S1.1 40 0 29 = (rA tv F (bas a + (b - a - 1))).2.1 → P 26 [some (aR 40 0), some (aI (nI (rA tv F (bas a + (b - a - 1))).1)), some (aI (nI a)), some (aI (nI b)), x4] [aI (S1.1 40 0 12), aI (nI b)] S1 0 0) := by
        refine dn ?_ ?_
        · intro hab S1 x4 g1 hX1 hz
          have hN := hX1.1.1
          rw [rA_in tv F (by omega) F.n hn5 hab (Nat.le_refl _)] at hX1 hz ⊢
          repeat (first | (refine hP _ _ _ _ _ _ ?_; show P _ _ _ _ _ _) | (refine hP _ _ _ _ _ _ (And.intro (hN _ _ _ rfl) ?_); show P _ _ (aR _ _ :: _) _ _ _))
          rw [hX1.2.1.1, rA_n]
          refine hP _ _ _ _ _ _ (And.intro (fun _ => ?_) (fun hc => absurd (nI_le (Nat.le_refl _) (by omega)) hc))
          repeat (first | (refine hP _ _ _ _ _ _ ?_; show P _ _ _ _ _ _) | (refine hP _ _ _ _ _ _ (And.intro (hN _ _ _ rfl) ?_); show P _ _ (aR _ _ :: _) _ _ _))
          have := ih S1 (some (aI (nI F.n))) x4 g1 hX1 hz
          rw [nI_succ] at this
          exact this
        · intro b hb ih2 hab S1 x4 g1 hX1 hz
          have hN := hX1.1.1
          obtain ⟨pa, pb⟩ := bas_ab a (by omega) b (by omega) hab
          have hk : bas a + (b + 1 - a - 1) = bas a + (b - a - 1) + 1 := by omega
          rw [hk] at ih2
          generalize bas a + (b - a - 1) = k at hX1 hz ih2 pa pb ⊢
          have nk := rA_n tv F k
          repeat (first | (refine hP _ _ _ _ _ _ ?_; show P _ _ _ _ _ _) | (refine hP _ _ _ _ _ _ (And.intro (hN _ _ _ rfl) ?_); show P _ _ (aR _ _ :: _) _ _ _))
          rw [hX1.2.1.1, rA_n]
          refine hP _ _ _ _ _ _ (And.intro (fun hc => absurd hc (nI_ge hb (by omega))) (fun _ => ?_))
          repeat (first | (refine hP _ _ _ _ _ _ ?_; show P _ _ _ _ _ _) | (refine hP _ _ _ _ _ _ (And.intro (hN _ _ _ rfl) ?_); show P _ _ (aR _ _ :: _) _ _ _))
          rw [bt_add, hz]
          refine hP _ _ _ _ _ _ (And.intro (fun hc => ?_) (fun hc => ?_))
          · have he : rA tv F (k + 1) = rA tv F k := by
              have : ¬ (rA tv F k).2.1 &&& bt a b = 0 := hc
              simp [rA, r1, pa, pb, this]
            rw [he] at ih2
            repeat (first | (refine hP _ _ _ _ _ _ ?_; show P _ _ _ _ _ _) | (refine hP _ _ _ _ _ _ (And.intro (hN _ _ _ rfl) ?_); show P _ _ (aR _ _ :: _) _ _ _))
            have := ih2 (by omega) S1 (some (aI (bt a b))) g1 hX1 hz
            rw [nI_succ] at this
            exact this
          · have w2 : (rA tv F k).2.1 &&& bt a b = 0 := hc
            repeat (first | (refine hP _ _ _ _ _ _ ?_; show P _ _ _ _ _ _) | (refine hP _ _ _ _ _ _ (And.intro (hN _ _ _ rfl) ?_); show P _ _ (aR _ _ :: _) _ _ _))
            refine hP _ _ _ _ _ _ (n_mayDance (by omega) hX1 (by omega) (by omega) (fun S2 h2 => ?_))
            have hX2 := hX1.sc h2
            have hN := hX2.1.1
            have g2 : Ag mR S S2 := g1.tr (h2.mono m0_R)
            have hz2 : S2.1 40 0 29 = (rA tv F k).2.1 := by rw [h2.1 40 0 29 (by simp [m0])]; exact hz
            repeat (first | (refine hP _ _ _ _ _ _ ?_; show P _ _ _ _ _ _) | (refine hP _ _ _ _ _ _ (And.intro (hN _ _ _ rfl) ?_); show P _ _ (aR _ _ :: _) _ _ _))
            refine hP _ _ _ _ _ _ (And.intro (fun hc3 => ?_) (fun hc3 => ?_))
            · have w3 := b2_0 hc3
              have he : rA tv F (k + 1) = rA tv F k := by simp [rA, r1, pa, pb, w3]
              rw [he] at ih2
              repeat (first | (refine hP _ _ _ _ _ _ ?_; show P _ _ _ _ _ _) | (refine hP _ _ _ _ _ _ (And.intro (hN _ _ _ rfl) ?_); show P _ _ (aR _ _ :: _) _ _ _))
              have := ih2 (by omega) S2 (some (aI (bt a b))) g2 hX2 hz2
              rw [nI_succ] at this
              exact this
            · have w3 := b2_1 hc3
              have he : rA tv F (k + 1) = ((rA tv F k).1 + spN tv (rA tv F k).2.2 a b, (rA tv F k).2.1 ||| bt a b, stpN tv (rA tv F k).2.2 a b) := by simp [rA, r1, pa, pb, w2, w3, nk, hb]
              rw [he] at ih2
              repeat (first | (refine hP _ _ _ _ _ _ ?_; show P _ _ _ _ _ _) | (refine hP _ _ _ _ _ _ (And.intro (hN _ _ _ rfl) ?_); show P _ _ (aR _ _ :: _) _ _ _))
              refine hP _ _ _ _ _ _ (n_danceBoth (by omega) hX2 (by omega) (by omega) (by omega) (fun S3 h3 hX3 => ?_))
              have hN := hX3.1.1
              have g3 : Ag mR S S3 := g2.tr (h3.mono mS_R)
              have hz3 : S3.1 40 0 29 = (rA tv F k).2.1 := by rw [h3.1 40 0 29 (by simp [mS])]; exact hz2
              repeat (first | (refine hP _ _ _ _ _ _ ?_; show P _ _ _ _ _ _) | (refine hP _ _ _ _ _ _ (And.intro (hN _ _ _ rfl) ?_); show P _ _ (aR _ _ :: _) _ _ _))
              show P _ _ _ (ivSet S3 40 0 29 (S3.1 40 0 29 ||| bt a b)) _ _
              rw [hz3, nI_add]
              have g4 : Ag mR S3 (ivSet S3 40 0 29 ((rA tv F k).2.1 ||| bt a b)) := Ag.iv (by simp [mR])
              have hX4 : MX tv nT (ivSet S3 40 0 29 ((rA tv F k).2.1 ||| bt a b)) (stpN tv (rA tv F k).2.2 a b) := hX3.up (W := fun j g k => j = 40 ∧ k = 29) (Ag.iv ⟨rfl, rfl⟩) (fun j g k hw => by omega) (fun j g k hw => by omega)
              generalize hS4 : ivSet S3 40 0 29 ((rA tv F k).2.1 ||| bt a b) = S4 at g4 hX4 ⊢
              have hz4 : S4.1 40 0 29 = (rA tv F k).2.1 ||| bt a b := by rw [← hS4, iv_at]
              repeat (first | (refine hP _ _ _ _ _ _ ?_; show P _ _ _ _ _ _) | (refine hP _ _ _ _ _ _ (And.intro (hN _ _ _ rfl) ?_); show P _ _ (aR _ _ :: _) _ _ _))
              have := ih2 (by omega) S4 (some (aI (bt a b))) (g3.tr g4) hX4 hz4
              rw [nI_succ] at this
              exact this
      repeat (first | (refine hP _ _ _ _ _ _ ?_; show P _ _ _ _ _ _) | (refine hP _ _ _ _ _ _ (And.intro (hN _ _ _ rfl) ?_); show P _ _ (aR _ _ :: _) _ _ _))
      rw [hX1.2.1.1, rA_n]
      refine hP _ _ _ _ _ _ (And.intro (fun hc => absurd hc (nI_ge ha (by omega))) (fun _ => ?_))
      repeat (first | (refine hP _ _ _ _ _ _ ?_; show P _ _ _ _ _ _) | (refine hP _ _ _ _ _ _ (And.intro (hN _ _ _ rfl) ?_); show P _ _ (aR _ _ :: _) _ _ _))
      rw [nI_1]
      have := inner (a + 1) (by omega) (by omega) S1 x4 g1
      rw [show bas a + (a + 1 - a - 1) = bas a by omega] at this
      exact this hX1 hz
  repeat (first | (refine hP _ _ _ _ _ _ ?_; show P _ _ _ _ _ _) | (refine hP _ _ _ _ _ _ (And.intro (hN _ _ _ rfl) ?_); show P _ _ (aR _ _ :: _) _ _ _))
  show P _ _ _ (ivSet S 40 0 29 0) _ _
  have hX0 : MX tv nT (ivSet S 40 0 29 0) F := hX.up (W := fun j g k => j = 40 ∧ k = 29) (Ag.iv ⟨rfl, rfl⟩) (fun j g k hw => by omega) (fun j g k hw => by omega)
  repeat (first | (refine hP _ _ _ _ _ _ ?_; show P _ _ _ _ _ _) | (refine hP _ _ _ _ _ _ (And.intro (hN _ _ _ rfl) ?_); show P _ _ (aR _ _ :: _) _ _ _))
  exact outer 0 (by omega) _ _ _ (Ag.iv (by simp [mR])) hX0 iv_at
