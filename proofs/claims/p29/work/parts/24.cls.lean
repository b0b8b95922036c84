/-! the class, out of claim whole -/
theorem q_mayAll {tv : TV} {nT d i : Nat} {S : St} {K : KT} {f : Nat} {F : Fl} (hd : 1 ≤ d) (hX : FX tv nT S f F) (hw : wgh tv S f F) (hi : i < 26) (h : K (some (aI (b2 (okS tv F i)))) S) : Call d m_X0_mayAll [aR 10 f, aI (nI (setN i))] S K := by
  refine Call.of (k := 0) hd (fun e he P hP => ?_)
  have hN := hX.1.1
  repeat (first | (refine hP _ _ _ _ _ _ ?_; show P _ _ _ _ _ _) | (refine hP _ _ _ _ _ _ (And.intro (hN _ _ _ rfl) ?_); show P _ _ (aR _ _ :: _) _ _ _))
  rw [hw.1]
  refine hP _ _ _ _ _ _ (And.intro (fun hc => ?_) (fun hc => ?_))
  · have hc' : ¬ (okS tv F i = true) := fun z => hc ((may_iff (okN tv F) hi).mpr (okS_iff.mp z))
    have e1 : okS tv F i = false := by simpa using hc'
    rw [e1] at h
    repeat (first | (refine hP _ _ _ _ _ _ ?_; show P _ _ _ _ _ _) | (refine hP _ _ _ _ _ _ (And.intro (hN _ _ _ rfl) ?_); show P _ _ (aR _ _ :: _) _ _ _))
    refine hP _ _ _ _ _ _ (And.intro (Or.inl rfl) h)
  · have e1 : okS tv F i = true := okS_iff.mpr ((may_iff (okN tv F) hi).mp hc)
    rw [e1] at h
    repeat (first | (refine hP _ _ _ _ _ _ ?_; show P _ _ _ _ _ _) | (refine hP _ _ _ _ _ _ (And.intro (hN _ _ _ rfl) ?_); show P _ _ (aR _ _ :: _) _ _ _))
    refine hP _ _ _ _ _ _ (And.intro (Or.inr rfl) h)
theorem q_paidBy {tv : TV} {nT d i : Nat} {S : St} {K : KT} {f : Nat} {F : Fl} (hd : 1 ≤ d) (hX : FX tv nT S f F) (hw : wgh tv S f F) (hi : i < 26) (hok : okS tv F i = true) (h : K (some (aI (nI (pdN tv F i)))) S) : Call d m_X0_paidBy [aR 10 f, aI (nI (setN i))] S K := by
  refine Call.of (k := 0) hd (fun e he P hP => ?_)
  have hN := hX.1.1
  have loop : ∀ k, k ≤ 10 → P 9 [some (aR 10 f), some (aI (nI (setN i))), some (aI (nI (sN (fun k => cond (sb i k) (spN tv F (prA k) (prB k)) 0) k))), some (aI (nI k))] [aI (nI 10), aI (nI k)] S 0 0 := by
    refine dn ?_ ?_
    · repeat (first | (refine hP _ _ _ _ _ _ ?_; show P _ _ _ _ _ _) | (refine hP _ _ _ _ _ _ (And.intro (hN _ _ _ rfl) ?_); show P _ _ (aR _ _ :: _) _ _ _))
      refine hP _ _ _ _ _ _ (And.intro (fun _ => ?_) (fun hc => absurd (nI_le (Nat.le_refl 10) (by decide)) hc))
      repeat (first | (refine hP _ _ _ _ _ _ ?_; show P _ _ _ _ _ _) | (refine hP _ _ _ _ _ _ (And.intro (hN _ _ _ rfl) ?_); show P _ _ (aR _ _ :: _) _ _ _))
      exact hP _ _ _ _ _ _ (h)
    · intro k hk ih
      repeat (first | (refine hP _ _ _ _ _ _ ?_; show P _ _ _ _ _ _) | (refine hP _ _ _ _ _ _ (And.intro (hN _ _ _ rfl) ?_); show P _ _ (aR _ _ :: _) _ _ _))
      refine hP _ _ _ _ _ _ (And.intro (fun hc => absurd hc (nI_ge (b := 10) hk (by decide))) (fun _ => ?_))
      repeat (first | (refine hP _ _ _ _ _ _ ?_; show P _ _ _ _ _ _) | (refine hP _ _ _ _ _ _ (And.intro (hN _ _ _ rfl) ?_); show P _ _ (aR _ _ :: _) _ _ _))
      rw [nI_succ] at ih
      refine hP _ _ _ _ _ _ (And.intro (fun hc => ?_) (fun hc => ?_))
      · have hs : sb i k = false := by
          have := mt (sb_bit i hi k hk).mpr hc
          simpa using this
        simp only [sN, hs, cond, Nat.add_zero] at ih
        repeat (first | (refine hP _ _ _ _ _ _ ?_; show P _ _ _ _ _ _) | (refine hP _ _ _ _ _ _ (And.intro (hN _ _ _ rfl) ?_); show P _ _ (aR _ _ :: _) _ _ _))
        exact ih
      · have hs : sb i k = true := (sb_bit i hi k hk).mp hc
        have hw2 := hw.2 k hk (okS_iff.mp hok k hk hs)
        simp only [sN, hs, cond, spN] at ih
        repeat (first | (refine hP _ _ _ _ _ _ ?_; show P _ _ _ _ _ _) | (refine hP _ _ _ _ _ _ (And.intro (hN _ _ _ rfl) ?_); show P _ _ (aR _ _ :: _) _ _ _))
        refine hP _ _ _ _ _ _ (Exists.intro (k) (And.intro (And.intro (rfl) (show k < 10 from hk)) ?_))
        rw [hw2.1]
        repeat (first | (refine hP _ _ _ _ _ _ ?_; show P _ _ _ _ _ _) | (refine hP _ _ _ _ _ _ (And.intro (hN _ _ _ rfl) ?_); show P _ _ (aR _ _ :: _) _ _ _))
        refine hP _ _ _ _ _ _ (Exists.intro (k) (And.intro (And.intro (rfl) (show k < 10 from hk)) ?_))
        rw [hw2.2]
        repeat (first | (refine hP _ _ _ _ _ _ ?_; show P _ _ _ _ _ _) | (refine hP _ _ _ _ _ _ (And.intro (hN _ _ _ rfl) ?_); show P _ _ (aR _ _ :: _) _ _ _))
        rw [nI_add, nI_add]
        exact ih
  repeat (first | (refine hP _ _ _ _ _ _ ?_; show P _ _ _ _ _ _) | (refine hP _ _ _ _ _ _ (And.intro (hN _ _ _ rfl) ?_); show P _ _ (aR _ _ :: _) _ _ _))
  exact loop 0 (by omega)
theorem q_bestSet {tv : TV} {nT d : Nat} {S : St} {K : KT} {f : Nat} {F : Fl} (hd : 2 ≤ d) (hX : FX tv nT S f F) (hw : wgh tv S f F) (h : K (some (aI (nI (setN (biN tv F 26))))) S) : Call d m_X0_bestSet [aR 10 f] S K := by
  refine Call.of (k := 1) hd (fun e he P hP => ?_)
  have hN := hX.1.1
  have hz := hX.1.2.2.2
  have loop : ∀ k, k ≤ 26 → ∀ x4, P 11 [some (aR 10 f), some (aI (nI (setN (biN tv F k)))), some (aI (nI (pdN tv F (biN tv F k)))), some (aI (nI k)), x4] [aI (nI 26), aI (nI k)] S 0 0 := by
    refine dn ?_ ?_
    · intro x4
      repeat (first | (refine hP _ _ _ _ _ _ ?_; show P _ _ _ _ _ _) | (refine hP _ _ _ _ _ _ (And.intro (hN _ _ _ rfl) ?_); show P _ _ (aR _ _ :: _) _ _ _))
      refine hP _ _ _ _ _ _ (And.intro (fun _ => ?_) (fun hc => absurd (nI_le (Nat.le_refl 26) (by decide)) hc))
      repeat (first | (refine hP _ _ _ _ _ _ ?_; show P _ _ _ _ _ _) | (refine hP _ _ _ _ _ _ (And.intro (hN _ _ _ rfl) ?_); show P _ _ (aR _ _ :: _) _ _ _))
      exact hP _ _ _ _ _ _ (h)
    · intro k hk ih x4
      have hb := biN_in tv F k (by omega)
      have hp := pdN_le (tv := tv) hX.2.2 hb.2
      repeat (first | (refine hP _ _ _ _ _ _ ?_; show P _ _ _ _ _ _) | (refine hP _ _ _ _ _ _ (And.intro (hN _ _ _ rfl) ?_); show P _ _ (aR _ _ :: _) _ _ _))
      refine hP _ _ _ _ _ _ (And.intro (fun hc => absurd hc (nI_ge (b := 26) hk (by decide))) (fun _ => ?_))
      repeat (first | (refine hP _ _ _ _ _ _ ?_; show P _ _ _ _ _ _) | (refine hP _ _ _ _ _ _ (And.intro (hN _ _ _ rfl) ?_); show P _ _ (aR _ _ :: _) _ _ _))
      refine hP _ _ _ _ _ _ (Exists.intro (k) (And.intro (And.intro (rfl) (show k < 26 from hk)) ?_))
      rw [hz k hk]
      repeat (first | (refine hP _ _ _ _ _ _ ?_; show P _ _ _ _ _ _) | (refine hP _ _ _ _ _ _ (And.intro (hN _ _ _ rfl) ?_); show P _ _ (aR _ _ :: _) _ _ _))
      refine hP _ _ _ _ _ _ (q_mayAll (by omega) hX hw hk ?_)
      repeat (first | (refine hP _ _ _ _ _ _ ?_; show P _ _ _ _ _ _) | (refine hP _ _ _ _ _ _ (And.intro (hN _ _ _ rfl) ?_); show P _ _ (aR _ _ :: _) _ _ _))
      have tail : ∀ v, v ≤ 1980 → (okS tv F k = true → pdN tv F k = v) → (okS tv F k = false → v = 0) → P 44 [some (aR 10 f), some (aI (nI (setN (biN tv F k)))), some (aI (nI (pdN tv F (biN tv F k)))), some (aI (nI k)), some (aI (nI v))] [aI (nI (pdN tv F (biN tv F k))), aI (nI v)] S 0 0 := by
        intro v hv h1 h0
        repeat (first | (refine hP _ _ _ _ _ _ ?_; show P _ _ _ _ _ _) | (refine hP _ _ _ _ _ _ (And.intro (hN _ _ _ rfl) ?_); show P _ _ (aR _ _ :: _) _ _ _))
        have ih := ih (some (aI (nI v)))
        rw [nI_succ] at ih
        refine hP _ _ _ _ _ _ (And.intro (fun hc => ?_) (fun hc => ?_))
        · have hle : v ≤ pdN tv F (biN tv F k) := (nI_leI (by omega) (by omega)).mp hc
          have : ¬ (okS tv F k = true ∧ pdN tv F (biN tv F k) < pdN tv F k) := by
            rintro ⟨z1, z2⟩
            rw [h1 z1] at z2
            omega
          rw [show biN tv F (k + 1) = biN tv F k from if_neg this] at ih
          repeat (first | (refine hP _ _ _ _ _ _ ?_; show P _ _ _ _ _ _) | (refine hP _ _ _ _ _ _ (And.intro (hN _ _ _ rfl) ?_); show P _ _ (aR _ _ :: _) _ _ _))
          exact ih
        · have hlt : pdN tv F (biN tv F k) < v := by
            apply Classical.byContradiction
            intro z
            exact hc (nI_le (by omega) (by omega))
          have hok : okS tv F k = true := by
            cases e1 : okS tv F k with
            | true => rfl
            | false => rw [h0 e1] at hlt; omega
          have hc2 : okS tv F k = true ∧ pdN tv F (biN tv F k) < pdN tv F k := ⟨hok, by rw [h1 hok]; exact hlt⟩
          rw [show biN tv F (k + 1) = k from if_pos hc2, h1 hok] at ih
          repeat (first | (refine hP _ _ _ _ _ _ ?_; show P _ _ _ _ _ _) | (refine hP _ _ _ _ _ _ (And.intro (hN _ _ _ rfl) ?_); show P _ _ (aR _ _ :: _) _ _ _))
          refine hP _ _ _ _ _ _ (Exists.intro (k) (And.intro (And.intro (rfl) (show k < 26 from hk)) ?_))
          rw [hz k hk]
          repeat (first | (refine hP _ _ _ _ _ _ ?_; show P _ _ _ _ _ _) | (refine hP _ _ _ _ _ _ (And.intro (hN _ _ _ rfl) ?_); show P _ _ (aR _ _ :: _) _ _ _))
          exact ih
      refine hP _ _ _ _ _ _ (And.intro (fun hc => ?_) (fun hc => ?_))
      · have e1 := b2_0 hc
        repeat (first | (refine hP _ _ _ _ _ _ ?_; show P _ _ _ _ _ _) | (refine hP _ _ _ _ _ _ (And.intro (hN _ _ _ rfl) ?_); show P _ _ (aR _ _ :: _) _ _ _))
        exact tail 0 (by omega) (fun z => by rw [e1] at z; cases z) (fun _ => rfl)
      · have e1 := b2_1 hc
        repeat (first | (refine hP _ _ _ _ _ _ ?_; show P _ _ _ _ _ _) | (refine hP _ _ _ _ _ _ (And.intro (hN _ _ _ rfl) ?_); show P _ _ (aR _ _ :: _) _ _ _))
        refine hP _ _ _ _ _ _ (Exists.intro (k) (And.intro (And.intro (rfl) (show k < 26 from hk)) ?_))
        rw [hz k hk]
        repeat (first | (refine hP _ _ _ _ _ _ ?_; show P _ _ _ _ _ _) | (refine hP _ _ _ _ _ _ (And.intro (hN _ _ _ rfl) ?_); show P _ _ (aR _ _ :: _) _ _ _))
        refine hP _ _ _ _ _ _ (q_paidBy (by omega) hX hw hk e1 ?_)
        repeat (first | (refine hP _ _ _ _ _ _ ?_; show P _ _ _ _ _ _) | (refine hP _ _ _ _ _ _ (And.intro (hN _ _ _ rfl) ?_); show P _ _ (aR _ _ :: _) _ _ _))
        exact tail (pdN tv F k) (pdN_le hX.2.2 e1) (fun _ => rfl) (fun z => by rw [e1] at z; cases z)
  repeat (first | (refine hP _ _ _ _ _ _ ?_; show P _ _ _ _ _ _) | (refine hP _ _ _ _ _ _ (And.intro (hN _ _ _ rfl) ?_); show P _ _ (aR _ _ :: _) _ _ _))
  have := loop 0 (by omega) none
  rw [show pdN tv F (biN tv F 0) = 0 from pdN_0 tv F] at this
  exact this
/-- a set has danced -/
def dsN (tv : TV) (F : Fl) (i : Nat) : Nat → Fl
  | 0 => F
  | k + 1 => if sb i k = true then slN (dsN tv F i k) (prA k) (prB k) (pyN tv F (prA k) (F.ow (prA k) (prB k))) (pyN tv F (prB k) (F.ow (prB k) (prA k))) else dsN tv F i k
theorem dsN_n (tv : TV) (F : Fl) (i : Nat) : ∀ k, (dsN tv F i k).n = F.n ∧ (dsN tv F i k).rd = F.rd ∧ (dsN tv F i k).ni = F.ni ∧ (dsN tv F i k).ru = F.ru ∧ (dsN tv F i k).ki = F.ki ∧ (dsN tv F i k).nu = F.nu
  | 0 => ⟨rfl, rfl, rfl, rfl, rfl, rfl⟩
  | k + 1 => by
    simp only [dsN]
    split
    · exact dsN_n tv F i k
    · exact dsN_n tv F i k
/-- whom no two so far holds -/
theorem dsN_out (tv : TV) (F : Fl) (i : Nat) : ∀ k, ∀ x, (∀ j, j < k → sb i j = true → ¬ prA j = x ∧ ¬ prB j = x) → (∀ y, (dsN tv F i k).ow y x = F.ow y x ∧ (dsN tv F i k).ow x y = F.ow x y) ∧ (dsN tv F i k).dn x = F.dn x
  | 0, x, _ => ⟨fun y => ⟨rfl, rfl⟩, rfl⟩
  | k + 1, x, h => by
    have ih := dsN_out tv F i k x (fun j hj => h j (by omega))
    simp only [dsN]
    split
    · rename_i hs
      have hx := h k (by omega) hs
      have h1 : ¬ x = prA k := fun z => hx.1 z.symm
      have h2 : ¬ x = prB k := fun z => hx.2 z.symm
      refine ⟨fun y => ⟨?_, ?_⟩, ?_⟩
      · show uN2 (uN2 (dsN tv F i k).ow _ _ _) _ _ _ y x = _
        simp only [uN2, h1, h2, and_false, if_false]
        exact (ih.1 y).1
      · show uN2 (uN2 (dsN tv F i k).ow _ _ _) _ _ _ x y = _
        simp only [uN2, h1, h2, false_and, if_false]
        exact (ih.1 y).2
      · show uN (uN (dsN tv F i k).dn _ _) _ _ x = _
        simp only [uN, h1, h2, if_false]
        exact ih.2
    · exact ih
theorem dsN_at {tv : TV} {F : Fl} {i k : Nat} (hi : i < 26) (hk : k < 10) (hs : sb i k = true) (x : Nat) (hx : x = prA k ∨ x = prB k) : (∀ y, (dsN tv F i k).ow y x = F.ow y x ∧ (dsN tv F i k).ow x y = F.ow x y) ∧ (dsN tv F i k).dn x = F.dn x := by
  refine dsN_out tv F i k x (fun j hj hsj => ?_)
  have := sb_apart i hi k hk j (by omega) hs hsj (by omega)
  rcases hx with rfl | rfl
  · exact ⟨this.1, this.2.2.1⟩
  · exact ⟨this.2.1, this.2.2.2⟩
def wD (f : Nat) : WW := fun j g k => j = 4 ∨ j = 5 ∨ (g = f ∧ (j = 13 ∨ j = 14 ∨ (j = 10 ∧ k = 2)))
def dsF (tv : TV) (F : Fl) (i : Nat) : Fl := (dsN tv F i 10).sR (F.rd + 1)
theorem q_danceSet {tv : TV} {nT d i : Nat} {S : St} {K : KT} {f g : Nat} {F : Fl} (hd : 3 ≤ d) (hX : FX tv nT S f F) (hw : wgh tv S g F) (hi : i < 26) (hok : okS tv F i = true) (h : ∀ S', Ag (wD f) S S' → FX tv nT S' f (dsF tv F i) → K none S') : Call d m_X0_danceSet [aR 10 f, aI (nI (setN i)), aR 10 g] S K := by
  refine Call.of (k := 2) hd (fun e he P hP => ?_)
  have hN := hX.1.1
  have loop : ∀ k, k ≤ 10 → ∀ S1, Ag (wD f) S S1 → FX tv nT S1 f (dsN tv F i k) → P 7 [some (aR 10 f), some (aI (nI (setN i))), some (aR 10 g), some (aI (nI k))] [aI (nI 10), aI (nI k)] S1 0 0 := by
    refine dn ?_ ?_
    · intro S1 g1 hX1
      have hN := hX1.1.1
      repeat (first | (refine hP _ _ _ _ _ _ ?_; show P _ _ _ _ _ _) | (refine hP _ _ _ _ _ _ (And.intro (hN _ _ _ rfl) ?_); show P _ _ (aR _ _ :: _) _ _ _))
      refine hP _ _ _ _ _ _ (And.intro (fun _ => ?_) (fun hc => absurd (nI_le (Nat.le_refl 10) (by decide)) hc))
      repeat (first | (refine hP _ _ _ _ _ _ ?_; show P _ _ _ _ _ _) | (refine hP _ _ _ _ _ _ (And.intro (hN _ _ _ rfl) ?_); show P _ _ (aR _ _ :: _) _ _ _))
      have e2 : S1.1 10 f 2 + 1 = nI (F.rd + 1) := by rw [hX1.2.1.2.1, nI_1, (dsN_n tv F i 10).2.1]
      show P _ _ _ (ivSet S1 10 f 2 (S1.1 10 f 2 + 1)) _ _
      rw [e2]
      have hX2 := hX1.sR (F.rd + 1)
      repeat (first | (refine hP _ _ _ _ _ _ ?_; show P _ _ _ _ _ _) | (refine hP _ _ _ _ _ _ (And.intro (hN _ _ _ rfl) ?_); show P _ _ (aR _ _ :: _) _ _ _))
      exact hP _ _ _ _ _ _ (h _ (g1.tr (Ag.iv (by simp [wD]))) hX2)
    · intro k hk ih S1 g1 hX1
      have hN := hX1.1.1
      obtain ⟨t1, t2⟩ := hX1.1.2.2.1 k hk
      obtain ⟨p1, p2⟩ := pr_lt k hk
      have hn5 := hX1.2.2.1
      repeat (first | (refine hP _ _ _ _ _ _ ?_; show P _ _ _ _ _ _) | (refine hP _ _ _ _ _ _ (And.intro (hN _ _ _ rfl) ?_); show P _ _ (aR _ _ :: _) _ _ _))
      refine hP _ _ _ _ _ _ (And.intro (fun hc => absurd hc (nI_ge (b := 10) hk (by decide))) (fun _ => ?_))
      repeat (first | (refine hP _ _ _ _ _ _ ?_; show P _ _ _ _ _ _) | (refine hP _ _ _ _ _ _ (And.intro (hN _ _ _ rfl) ?_); show P _ _ (aR _ _ :: _) _ _ _))
      refine hP _ _ _ _ _ _ (And.intro (fun hc => ?_) (fun hc => ?_))
      · have hs : ¬ (sb i k = true) := fun z => hc ((sb_bit i hi k hk).mpr z)
        have he : dsN tv F i (k + 1) = dsN tv F i k := by simp only [dsN, if_neg hs]
        repeat (first | (refine hP _ _ _ _ _ _ ?_; show P _ _ _ _ _ _) | (refine hP _ _ _ _ _ _ (And.intro (hN _ _ _ rfl) ?_); show P _ _ (aR _ _ :: _) _ _ _))
        have := ih S1 g1 (by rw [he]; exact hX1)
        rw [nI_succ] at this
        exact this
      · have hs : sb i k = true := (sb_bit i hi k hk).mp hc
        have hokk := okS_iff.mp hok k hk hs
        have hlt := okN_lt hokk
        have hw2 := hw.2 k hk hokk
        have he : dsN tv F i (k + 1) = slN (dsN tv F i k) (prA k) (prB k) (pyN tv F (prA k) (F.ow (prA k) (prB k))) (pyN tv F (prB k) (F.ow (prB k) (prA k))) := by simp only [dsN, if_pos hs]
        have r1 : S1.1 15 g k = nI (pyN tv F (prA k) (F.ow (prA k) (prB k))) := by rw [g1.1 15 g k (by simp [wD])]; exact hw2.1
        have r2 : S1.1 16 g k = nI (pyN tv F (prB k) (F.ow (prB k) (prA k))) := by rw [g1.1 16 g k (by simp [wD])]; exact hw2.2
        have a1 := (dsN_at (tv := tv) (F := F) hi hk hs (prA k) (Or.inl rfl)).1 (prB k)
        have nk := (dsN_n tv F i k).1
        have o1 := hX1.2.2.ow (a := prA k) (b := prB k) (by omega) (by omega)
        have o2 := hX1.2.2.ow (a := prB k) (b := prA k) (by omega) (by omega)
        have l1 := pyN_le tv F (prA k) (o := F.ow (prA k) (prB k)) (by rw [← a1.2]; omega)
        have l2 := pyN_le tv F (prB k) (o := F.ow (prB k) (prA k)) (by rw [← a1.1]; omega)
        repeat (first | (refine hP _ _ _ _ _ _ ?_; show P _ _ _ _ _ _) | (refine hP _ _ _ _ _ _ (And.intro (hN _ _ _ rfl) ?_); show P _ _ (aR _ _ :: _) _ _ _))
        refine hP _ _ _ _ _ _ (Exists.intro (k) (And.intro (And.intro (rfl) (show k < 10 from hk)) ?_))
        rw [t1]
        repeat (first | (refine hP _ _ _ _ _ _ ?_; show P _ _ _ _ _ _) | (refine hP _ _ _ _ _ _ (And.intro (hN _ _ _ rfl) ?_); show P _ _ (aR _ _ :: _) _ _ _))
        refine hP _ _ _ _ _ _ (Exists.intro (k) (And.intro (And.intro (rfl) (show k < 10 from hk)) ?_))
        rw [t2]
        repeat (first | (refine hP _ _ _ _ _ _ ?_; show P _ _ _ _ _ _) | (refine hP _ _ _ _ _ _ (And.intro (hN _ _ _ rfl) ?_); show P _ _ (aR _ _ :: _) _ _ _))
        refine hP _ _ _ _ _ _ (Exists.intro (k) (And.intro (And.intro (rfl) (show k < 10 from hk)) ?_))
        rw [r1]
        repeat (first | (refine hP _ _ _ _ _ _ ?_; show P _ _ _ _ _ _) | (refine hP _ _ _ _ _ _ (And.intro (hN _ _ _ rfl) ?_); show P _ _ (aR _ _ :: _) _ _ _))
        refine hP _ _ _ _ _ _ (Exists.intro (k) (And.intro (And.intro (rfl) (show k < 10 from hk)) ?_))
        rw [r2]
        repeat (first | (refine hP _ _ _ _ _ _ ?_; show P _ _ _ _ _ _) | (refine hP _ _ _ _ _ _ (And.intro (hN _ _ _ rfl) ?_); show P _ _ (aR _ _ :: _) _ _ _))
        refine hP _ _ _ _ _ _ (q_settle (by omega) hX1 (by omega) (by omega) (by omega) (by rw [a1.2]; exact l1) (by rw [a1.1]; exact l2) (fun S3 h3 hX3 => ?_))
        repeat (first | (refine hP _ _ _ _ _ _ ?_; show P _ _ _ _ _ _) | (refine hP _ _ _ _ _ _ (And.intro (hN _ _ _ rfl) ?_); show P _ _ (aR _ _ :: _) _ _ _))
        have := ih S3 (g1.tr (h3.mono (fun j g k hj => by simp only [wS] at hj; simp only [wD]; omega))) (by rw [he]; exact hX3)
        rw [nI_succ] at this
        exact this
  repeat (first | (refine hP _ _ _ _ _ _ ?_; show P _ _ _ _ _ _) | (refine hP _ _ _ _ _ _ (And.intro (hN _ _ _ rfl) ?_); show P _ _ (aR _ _ :: _) _ _ _))
  exact loop 0 (by omega) _ (Ag.rf _ _) hX

def Fl.sDs (F : Fl) (d : Nat → Nat) : Fl := mkF F.n F.rd F.ni F.ru F.ki F.nu d F.ow
def z0 (F : Fl) (k : Nat) : Fl := F.sDs (fun x => if x < k then 0 else F.dn x)
def enF (F : Fl) : Fl := (z0 F F.n).sNi (F.ni + 1)
theorem z0_s (F : Fl) (k : Nat) : (z0 F k).sD k 0 = z0 F (k + 1) := by
  have : uN (fun x => if x < k then 0 else F.dn x) k 0 = fun x => if x < k + 1 then 0 else F.dn x := by
    funext x
    unfold uN
    by_cases h1 : x = k
    · rw [if_pos h1, if_pos (by omega)]
    · rw [if_neg h1]
      show (if x < k then 0 else F.dn x) = _
      by_cases h2 : x < k
      · rw [if_pos h2, if_pos (by omega)]
      · rw [if_neg h2, if_neg (by omega)]
  show mkF _ _ _ _ _ _ (uN (fun x => if x < k then 0 else F.dn x) k 0) _ = _
  rw [this]
  rfl
def wN3 (f : Nat) : WW := fun j g k => g = f ∧ (j = 13 ∧ k < 5 ∨ j = 10 ∧ k = 3)
theorem wN3_ok (f : Nat) : okW (wN3 f) := by
  intro j g k hj
  simp only [wN3] at hj
  omega
theorem q_endNight {tv : TV} {nT d : Nat} {S : St} {K : KT} {f : Nat} {F : Fl} (hd : 1 ≤ d) (hX : FX tv nT S f F) (h : ∀ S', Ag (wN3 f) S S' → FX tv nT S' f (enF F) → (∀ a, F.n ≤ a → S'.1 13 f a = S.1 13 f a) → K (some (aI (nI (sN F.dn F.n)))) S') : Call d m_X0_endNight [aR 10 f] S K := by
  refine Call.of (k := 0) hd (fun e he P hP => ?_)
  have hN := hX.1.1
  have hn5 := hX.2.2.1
  have loop : ∀ k, k ≤ F.n → ∀ S1, Ag (wN3 f) S S1 → FX tv nT S1 f (z0 F k) → (∀ a, F.n ≤ a → S1.1 13 f a = S.1 13 f a) → P 9 [some (aR 10 f), some (aI (nI (sN F.dn k))), some (aI (nI k))] [aI (S1.1 10 f 1), aI (nI k)] S1 0 0 := by
    refine dn ?_ ?_
    · intro S1 g1 hX1 hr
      have hN := hX1.1.1
      repeat (first | (refine hP _ _ _ _ _ _ ?_; show P _ _ _ _ _ _) | (refine hP _ _ _ _ _ _ (And.intro (hN _ _ _ rfl) ?_); show P _ _ (aR _ _ :: _) _ _ _))
      rw [show S1.1 10 f 1 = nI F.n from hX1.2.1.1]
      refine hP _ _ _ _ _ _ (And.intro (fun _ => ?_) (fun hc => absurd (nI_le (Nat.le_refl _) (by omega)) hc))
      repeat (first | (refine hP _ _ _ _ _ _ ?_; show P _ _ _ _ _ _) | (refine hP _ _ _ _ _ _ (And.intro (hN _ _ _ rfl) ?_); show P _ _ (aR _ _ :: _) _ _ _))
      have e2 : S1.1 10 f 3 + 1 = nI (F.ni + 1) := by rw [hX1.2.1.2.2.1, nI_1]; rfl
      show P _ _ _ (ivSet S1 10 f 3 (S1.1 10 f 3 + 1)) _ _
      rw [e2]
      have g2 : Ag (wN3 f) S1 (ivSet S1 10 f 3 (nI (F.ni + 1))) := Ag.iv (by simp [wN3])
      have hX2 : FX tv nT (ivSet S1 10 f 3 (nI (F.ni + 1))) f (enF F) := ⟨hX1.1.up g2 (wN3_ok f), hX1.2.1.sNi _, hX1.2.2.sNi _⟩
      repeat (first | (refine hP _ _ _ _ _ _ ?_; show P _ _ _ _ _ _) | (refine hP _ _ _ _ _ _ (And.intro (hN _ _ _ rfl) ?_); show P _ _ (aR _ _ :: _) _ _ _))
      exact hP _ _ _ _ _ _ (h _ (g1.tr g2) hX2 (fun a ha => by rw [iv_ne (by omega)]; exact hr a ha))
    · intro k hk ih S1 g1 hX1 hr
      have hN := hX1.1.1
      have ed : (z0 F k).dn k = F.dn k := if_neg (Nat.lt_irrefl k)
      repeat (first | (refine hP _ _ _ _ _ _ ?_; show P _ _ _ _ _ _) | (refine hP _ _ _ _ _ _ (And.intro (hN _ _ _ rfl) ?_); show P _ _ (aR _ _ :: _) _ _ _))
      rw [show S1.1 10 f 1 = nI F.n from hX1.2.1.1]
      refine hP _ _ _ _ _ _ (And.intro (fun hc => absurd hc (nI_ge hk (by omega))) (fun _ => ?_))
      repeat (first | (refine hP _ _ _ _ _ _ ?_; show P _ _ _ _ _ _) | (refine hP _ _ _ _ _ _ (And.intro (hN _ _ _ rfl) ?_); show P _ _ (aR _ _ :: _) _ _ _))
      refine hP _ _ _ _ _ _ (Exists.intro (k) (And.intro (And.intro (rfl) (by show _ < 5; omega)) ?_))
      rw [hX1.2.1.dn (a := k) hk, ed]
      repeat (first | (refine hP _ _ _ _ _ _ ?_; show P _ _ _ _ _ _) | (refine hP _ _ _ _ _ _ (And.intro (hN _ _ _ rfl) ?_); show P _ _ (aR _ _ :: _) _ _ _))
      refine hP _ _ _ _ _ _ (Exists.intro (k) (And.intro (And.intro (rfl) (by show _ < 5; omega)) ?_))
      show P _ _ _ (ivSet S1 13 f k (nI 0)) _ _
      have g2 : Ag (wN3 f) S1 (ivSet S1 13 f k (nI 0)) := Ag.iv (by simp [wN3]; omega)
      have hX2 : FX tv nT (ivSet S1 13 f k (nI 0)) f (z0 F (k + 1)) := by
        rw [← z0_s]
        exact ⟨hX1.1.up g2 (wN3_ok f), hX1.2.1.sD _ _, hX1.2.2.sD _ (by omega)⟩
      have hr2 : ∀ a, F.n ≤ a → (ivSet S1 13 f k (nI 0)).1 13 f a = S.1 13 f a := fun a ha => by
        rw [iv_ne (by omega)]
        exact hr a ha
      generalize ivSet S1 13 f k (nI 0) = S2 at g2 hX2 hr2 ⊢
      repeat (first | (refine hP _ _ _ _ _ _ ?_; show P _ _ _ _ _ _) | (refine hP _ _ _ _ _ _ (And.intro (hN _ _ _ rfl) ?_); show P _ _ (aR _ _ :: _) _ _ _))
      rw [nI_add]
      have := ih S2 (g1.tr g2) hX2 hr2
      rw [nI_succ] at this
      exact this
  repeat (first | (refine hP _ _ _ _ _ _ ?_; show P _ _ _ _ _ _) | (refine hP _ _ _ _ _ _ (And.intro (hN _ _ _ rfl) ?_); show P _ _ (aR _ _ :: _) _ _ _))
  exact loop 0 (by omega) S (Ag.rf _ _) hX (fun _ _ => rfl)
theorem WF.st {tv : TV} {nT : Nat} {F : Fl} (h : WF nT F) {a b : Nat} (ha : a < F.n) (hb : b < F.n) : WF nT (stpN tv F a b) := h.sl ha hb _ _
theorem rA_wf {tv : TV} {nT : Nat} {F : Fl} (h : WF nT F) : ∀ k, k ≤ 10 → WF nT (rA tv F k).2.2 ∧ (rA tv F k).1 ≤ 198 * k
  | 0, _ => ⟨h, Nat.le_refl _⟩
  | k + 1, hk => by
    obtain ⟨h1, h2⟩ := rA_wf h k (by omega)
    have hp := pr_lt k (by omega)
    simp only [rA, r1]
    split
    · rename_i hc
      have h3 := spN_le (tv := tv) h1 (a := prA k) (b := prB k) (by omega) hc.1
      have h4 := h1.ow (a := prA k) (b := prB k) (by omega) hc.1
      have h5 := h1.ow (a := prB k) (b := prA k) hc.1 (by omega)
      exact ⟨h1.st (by omega) hc.1, by show _ + spN _ _ _ _ ≤ _; omega⟩
    · exact ⟨h1, by omega⟩
theorem rd_wf {tv : TV} {nT : Nat} {F : Fl} (h : WF nT F) : WF nT (rdF tv F) ∧ rdP tv F ≤ 1980 := by
  obtain ⟨h1, h2⟩ := rA_wf (tv := tv) h 10 (by omega)
  exact ⟨h1.sR _, h2⟩
/-- so many rounds more, from round k on: behind how many one pays nothing -/
def enG (tv : TV) : Nat → Nat → Fl → Int32
  | 0, _, _ => -1
  | m + 1, k, F => if rdP tv F = 0 then nI k else enG tv m (k + 1) (rdF tv F)
def enN (tv : TV) (F : Fl) : Int32 := enG tv 61 0 F
theorem q_ends {tv : TV} {nT d : Nat} {S : St} {K : KT} {f : Nat} {F : Fl} (hd : 6 ≤ d) (hX : FX tv nT S f F) (h : ∀ S', Ag (wR f) S S' → K (some (aI (enN tv F))) S') : Call d m_X0_ends [aR 10 f] S K := by
  refine Call.of (k := 5) hd (fun e he P hP => ?_)
  have hN := hX.1.1
  have loop : ∀ k, k ≤ 61 → ∀ S1 G, Ag (wR f) S S1 → FX tv nT S1 f G → enG tv (61 - k) k G = enN tv F → P 5 [some (aR 10 f), some (aI (nI k))] [aI 60, aI (nI k)] S1 0 0 := by
    refine dn ?_ ?_
    · intro S1 G g1 hX1 he
      have h := h S1 g1
      rw [← he] at h
      have hN := hX1.1.1
      repeat (first | (refine hP _ _ _ _ _ _ ?_; show P _ _ _ _ _ _) | (refine hP _ _ _ _ _ _ (And.intro (hN _ _ _ rfl) ?_); show P _ _ (aR _ _ :: _) _ _ _))
      refine hP _ _ _ _ _ _ (And.intro (fun _ => ?_) (fun hc => absurd (nI_lt (a := 60) (b := 61) (by decide) (by decide)) hc))
      repeat (first | (refine hP _ _ _ _ _ _ ?_; show P _ _ _ _ _ _) | (refine hP _ _ _ _ _ _ (And.intro (hN _ _ _ rfl) ?_); show P _ _ (aR _ _ :: _) _ _ _))
      exact hP _ _ _ _ _ _ (h)
    · intro k hk ih S1 G g1 hX1 he
      have hN := hX1.1.1
      rw [show 61 - k = (61 - (k + 1)) + 1 by omega] at he
      simp only [enG] at he
      have hw := rd_wf (tv := tv) hX1.2.2
      repeat (first | (refine hP _ _ _ _ _ _ ?_; show P _ _ _ _ _ _) | (refine hP _ _ _ _ _ _ (And.intro (hN _ _ _ rfl) ?_); show P _ _ (aR _ _ :: _) _ _ _))
      refine hP _ _ _ _ _ _ (And.intro (fun hc => absurd hc (nI_nlt (a := 60) (b := k) (by omega) (by omega))) (fun _ => ?_))
      repeat (first | (refine hP _ _ _ _ _ _ ?_; show P _ _ _ _ _ _) | (refine hP _ _ _ _ _ _ (And.intro (hN _ _ _ rfl) ?_); show P _ _ (aR _ _ :: _) _ _ _))
      refine hP _ _ _ _ _ _ (q_danceRound (by omega) hX1 (fun S2 h2 hX2 _ => ?_))
      have hN := hX2.1.1
      repeat (first | (refine hP _ _ _ _ _ _ ?_; show P _ _ _ _ _ _) | (refine hP _ _ _ _ _ _ (And.intro (hN _ _ _ rfl) ?_); show P _ _ (aR _ _ :: _) _ _ _))
      refine hP _ _ _ _ _ _ (And.intro (fun hc => ?_) (fun hc => ?_))
      · have hc' : ¬ rdP tv G = 0 := fun z => hc (by rw [z]; rfl)
        rw [if_neg hc'] at he
        repeat (first | (refine hP _ _ _ _ _ _ ?_; show P _ _ _ _ _ _) | (refine hP _ _ _ _ _ _ (And.intro (hN _ _ _ rfl) ?_); show P _ _ (aR _ _ :: _) _ _ _))
        have := ih S2 _ (g1.tr (h2.mono (wRn_R _ _))) hX2 he
        rw [nI_succ] at this
        exact this
      · have hc' : rdP tv G = 0 := (nI_eq (b := 0) (by omega) (by omega)).mp hc
        rw [if_pos hc'] at he
        have h := h S2 (g1.tr (h2.mono (wRn_R _ _)))
        rw [← he] at h
        repeat (first | (refine hP _ _ _ _ _ _ ?_; show P _ _ _ _ _ _) | (refine hP _ _ _ _ _ _ (And.intro (hN _ _ _ rfl) ?_); show P _ _ (aR _ _ :: _) _ _ _))
        exact hP _ _ _ _ _ _ (h)
  repeat (first | (refine hP _ _ _ _ _ _ ?_; show P _ _ _ _ _ _) | (refine hP _ _ _ _ _ _ (And.intro (hN _ _ _ rfl) ?_); show P _ _ (aR _ _ :: _) _ _ _))
  exact loop 0 (by omega) S F (Ag.rf _ _) hX rfl
/-- who is still owed any -/
def soN (F : Fl) : Nat → Int32
  | 0 => 0
  | k + 1 => if 0 < oT F k then soN F k ||| ((1 : Int32) <<< (nI k &&& 31)) else soN F k
theorem q_stillOwed {tv : TV} {nT d : Nat} {S : St} {K : KT} {f : Nat} {F : Fl} (hd : 2 ≤ d) (hX : FX tv nT S f F) (h : K (some (aI (soN F F.n))) S) : Call d m_X0_stillOwed [aR 10 f] S K := by
  refine Call.of (k := 1) hd (fun e he P hP => ?_)
  have hN := hX.1.1
  have hn5 := hX.2.2.1
  have loop : ∀ k, k ≤ F.n → P 9 [some (aR 10 f), some (aI (soN F k)), some (aI (nI k))] [aI (S.1 10 f 1), aI (nI k)] S 0 0 := by
    refine dn ?_ ?_
    · repeat (first | (refine hP _ _ _ _ _ _ ?_; show P _ _ _ _ _ _) | (refine hP _ _ _ _ _ _ (And.intro (hN _ _ _ rfl) ?_); show P _ _ (aR _ _ :: _) _ _ _))
      rw [hX.2.1.1]
      refine hP _ _ _ _ _ _ (And.intro (fun _ => ?_) (fun hc => absurd (nI_le (Nat.le_refl _) (by omega)) hc))
      repeat (first | (refine hP _ _ _ _ _ _ ?_; show P _ _ _ _ _ _) | (refine hP _ _ _ _ _ _ (And.intro (hN _ _ _ rfl) ?_); show P _ _ (aR _ _ :: _) _ _ _))
      exact hP _ _ _ _ _ _ (h)
    · intro k hk ih
      rw [nI_succ] at ih
      have hT := hX.2.2.bT hk
      repeat (first | (refine hP _ _ _ _ _ _ ?_; show P _ _ _ _ _ _) | (refine hP _ _ _ _ _ _ (And.intro (hN _ _ _ rfl) ?_); show P _ _ (aR _ _ :: _) _ _ _))
      rw [hX.2.1.1]
      refine hP _ _ _ _ _ _ (And.intro (fun hc => absurd hc (nI_ge hk (by omega))) (fun _ => ?_))
      repeat (first | (refine hP _ _ _ _ _ _ ?_; show P _ _ _ _ _ _) | (refine hP _ _ _ _ _ _ (And.intro (hN _ _ _ rfl) ?_); show P _ _ (aR _ _ :: _) _ _ _))
      refine hP _ _ _ _ _ _ (q_owedTo (by omega) hX hk ?_)
      repeat (first | (refine hP _ _ _ _ _ _ ?_; show P _ _ _ _ _ _) | (refine hP _ _ _ _ _ _ (And.intro (hN _ _ _ rfl) ?_); show P _ _ (aR _ _ :: _) _ _ _))
      refine hP _ _ _ _ _ _ (le0 (by omega) (fun hc => ?_) (fun hc => ?_))
      · simp only [soN, if_neg hc] at ih
        repeat (first | (refine hP _ _ _ _ _ _ ?_; show P _ _ _ _ _ _) | (refine hP _ _ _ _ _ _ (And.intro (hN _ _ _ rfl) ?_); show P _ _ (aR _ _ :: _) _ _ _))
        exact ih
      · simp only [soN, if_pos hc] at ih
        repeat (first | (refine hP _ _ _ _ _ _ ?_; show P _ _ _ _ _ _) | (refine hP _ _ _ _ _ _ (And.intro (hN _ _ _ rfl) ?_); show P _ _ (aR _ _ :: _) _ _ _))
        exact ih
  repeat (first | (refine hP _ _ _ _ _ _ ?_; show P _ _ _ _ _ _) | (refine hP _ _ _ _ _ _ (And.intro (hN _ _ _ rfl) ?_); show P _ _ (aR _ _ :: _) _ _ _))
  exact loop 0 (by omega)
/-- who keeps it going: whom most is owed, and how much -/
def kpN (F : Fl) : Nat → Int32 × Nat
  | 0 => (-1, 0)
  | k + 1 => if (kpN F k).2 < oT F k then (nI k, oT F k) else kpN F k
theorem kpN_le {nT : Nat} {F : Fl} (h : WF nT F) : ∀ k, k ≤ F.n → (kpN F k).2 ≤ 495
  | 0, _ => Nat.zero_le _
  | k + 1, hk => by
    simp only [kpN]
    split
    · exact h.bT (by omega)
    · exact kpN_le h k (by omega)
theorem gtI {x y : Nat} (hx : x < 2 ^ 31) (hy : y < 2 ^ 31) {A B : Prop} (h1 : ¬ y < x → A) (h2 : y < x → B) : (nI x ≤ nI y → A) ∧ (¬ nI x ≤ nI y → B) :=
  ⟨fun hc => h1 (fun z => nI_ge z hx hc), fun hc => h2 ((nI_ltI hy hx).mp (Int32.not_le.mp hc))⟩
theorem q_keeps {tv : TV} {nT d : Nat} {S : St} {K : KT} {f : Nat} {F : Fl} (hd : 2 ≤ d) (hX : FX tv nT S f F) (h : K (some (aI (kpN F F.n).1)) S) : Call d m_X0_keeps [aR 10 f] S K := by
  refine Call.of (k := 1) hd (fun e he P hP => ?_)
  have hN := hX.1.1
  have hn5 := hX.2.2.1
  have loop : ∀ k, k ≤ F.n → ∀ x4, P 11 [some (aR 10 f), some (aI (kpN F k).1), some (aI (nI (kpN F k).2)), some (aI (nI k)), x4] [aI (S.1 10 f 1), aI (nI k)] S 0 0 := by
    refine dn ?_ ?_
    · intro x4
      repeat (first | (refine hP _ _ _ _ _ _ ?_; show P _ _ _ _ _ _) | (refine hP _ _ _ _ _ _ (And.intro (hN _ _ _ rfl) ?_); show P _ _ (aR _ _ :: _) _ _ _))
      rw [hX.2.1.1]
      refine hP _ _ _ _ _ _ (And.intro (fun _ => ?_) (fun hc => absurd (nI_le (Nat.le_refl _) (by omega)) hc))
      repeat (first | (refine hP _ _ _ _ _ _ ?_; show P _ _ _ _ _ _) | (refine hP _ _ _ _ _ _ (And.intro (hN _ _ _ rfl) ?_); show P _ _ (aR _ _ :: _) _ _ _))
      exact hP _ _ _ _ _ _ (h)
    · intro k hk ih x4
      have ih := ih (some (aI (nI (oT F k))))
      rw [nI_succ] at ih
      have hT := hX.2.2.bT hk
      have hK := kpN_le hX.2.2 k (by omega)
      repeat (first | (refine hP _ _ _ _ _ _ ?_; show P _ _ _ _ _ _) | (refine hP _ _ _ _ _ _ (And.intro (hN _ _ _ rfl) ?_); show P _ _ (aR _ _ :: _) _ _ _))
      rw [hX.2.1.1]
      refine hP _ _ _ _ _ _ (And.intro (fun hc => absurd hc (nI_ge hk (by omega))) (fun _ => ?_))
      repeat (first | (refine hP _ _ _ _ _ _ ?_; show P _ _ _ _ _ _) | (refine hP _ _ _ _ _ _ (And.intro (hN _ _ _ rfl) ?_); show P _ _ (aR _ _ :: _) _ _ _))
      refine hP _ _ _ _ _ _ (q_owedTo (by omega) hX hk ?_)
      repeat (first | (refine hP _ _ _ _ _ _ ?_; show P _ _ _ _ _ _) | (refine hP _ _ _ _ _ _ (And.intro (hN _ _ _ rfl) ?_); show P _ _ (aR _ _ :: _) _ _ _))
      refine hP _ _ _ _ _ _ (gtI (by omega) (by omega) (fun hc => ?_) (fun hc => ?_))
      · simp only [kpN, if_neg hc] at ih
        repeat (first | (refine hP _ _ _ _ _ _ ?_; show P _ _ _ _ _ _) | (refine hP _ _ _ _ _ _ (And.intro (hN _ _ _ rfl) ?_); show P _ _ (aR _ _ :: _) _ _ _))
        exact ih
      · simp only [kpN, if_pos hc] at ih
        repeat (first | (refine hP _ _ _ _ _ _ ?_; show P _ _ _ _ _ _) | (refine hP _ _ _ _ _ _ (And.intro (hN _ _ _ rfl) ?_); show P _ _ (aR _ _ :: _) _ _ _))
        exact ih
  repeat (first | (refine hP _ _ _ _ _ _ ?_; show P _ _ _ _ _ _) | (refine hP _ _ _ _ _ _ (And.intro (hN _ _ _ rfl) ?_); show P _ _ (aR _ _ :: _) _ _ _))
  exact loop 0 (by omega) _
def ltN (F : Fl) : Nat := sN (fun a => oS F a - oT F a) F.n
theorem mx_sub {a b : Nat} (ha : a < 2 ^ 30) (hb : b < 2 ^ 30) : (if (0 : Int32) < nI a - nI b then nI a - nI b else 0) = nI (a - b) := by
  by_cases h : a < b
  · have := pk_sneg hb h
    rw [if_neg (by
      intro z
      exact absurd (Int32.lt_trans z this) (by decide)), show a - b = 0 by omega]
    rfl
  · rw [pk_sub (by omega)]
    by_cases h0 : 0 < a - b
    · rw [if_pos (show (0 : Int32) < nI (a - b) from nI_lt (a := 0) h0 (by omega))]
    · rw [show a - b = 0 by omega]
      rfl
theorem q_least {tv : TV} {nT d : Nat} {S : St} {K : KT} {f : Nat} {F : Fl} (hd : 2 ≤ d) (hX : FX tv nT S f F) (h : K (some (aI (nI (ltN F)))) S) : Call d m_X0_least [aR 10 f] S K := by
  refine Call.of (k := 1) hd (fun e he P hP => ?_)
  have hN := hX.1.1
  have hn5 := hX.2.2.1
  have loop : ∀ k, k ≤ F.n → P 9 [some (aR 10 f), some (aI (nI (sN (fun a => oS F a - oT F a) k))), some (aI (nI k))] [aI (S.1 10 f 1), aI (nI k)] S 0 0 := by
    refine dn ?_ ?_
    · repeat (first | (refine hP _ _ _ _ _ _ ?_; show P _ _ _ _ _ _) | (refine hP _ _ _ _ _ _ (And.intro (hN _ _ _ rfl) ?_); show P _ _ (aR _ _ :: _) _ _ _))
      rw [hX.2.1.1]
      refine hP _ _ _ _ _ _ (And.intro (fun _ => ?_) (fun hc => absurd (nI_le (Nat.le_refl _) (by omega)) hc))
      repeat (first | (refine hP _ _ _ _ _ _ ?_; show P _ _ _ _ _ _) | (refine hP _ _ _ _ _ _ (And.intro (hN _ _ _ rfl) ?_); show P _ _ (aR _ _ :: _) _ _ _))
      exact hP _ _ _ _ _ _ (h)
    · intro k hk ih
      rw [nI_succ] at ih
      have hT := hX.2.2.bT hk
      have hS := hX.2.2.bS hk
      repeat (first | (refine hP _ _ _ _ _ _ ?_; show P _ _ _ _ _ _) | (refine hP _ _ _ _ _ _ (And.intro (hN _ _ _ rfl) ?_); show P _ _ (aR _ _ :: _) _ _ _))
      rw [hX.2.1.1]
      refine hP _ _ _ _ _ _ (And.intro (fun hc => absurd hc (nI_ge hk (by omega))) (fun _ => ?_))
      repeat (first | (refine hP _ _ _ _ _ _ ?_; show P _ _ _ _ _ _) | (refine hP _ _ _ _ _ _ (And.intro (hN _ _ _ rfl) ?_); show P _ _ (aR _ _ :: _) _ _ _))
      refine hP _ _ _ _ _ _ (q_owes (by omega) hX hk ?_)
      repeat (first | (refine hP _ _ _ _ _ _ ?_; show P _ _ _ _ _ _) | (refine hP _ _ _ _ _ _ (And.intro (hN _ _ _ rfl) ?_); show P _ _ (aR _ _ :: _) _ _ _))
      refine hP _ _ _ _ _ _ (q_owedTo (by omega) hX hk ?_)
      repeat (first | (refine hP _ _ _ _ _ _ ?_; show P _ _ _ _ _ _) | (refine hP _ _ _ _ _ _ (And.intro (hN _ _ _ rfl) ?_); show P _ _ (aR _ _ :: _) _ _ _))
      rw [mx_sub (by omega) (by omega), nI_add]
      exact ih
  repeat (first | (refine hP _ _ _ _ _ _ ?_; show P _ _ _ _ _ _) | (refine hP _ _ _ _ _ _ (And.intro (hN _ _ _ rfl) ?_); show P _ _ (aR _ _ :: _) _ _ _))
  exact loop 0 (by omega)
/-- with how many of the first so many one has a debt; the most of these -/
def mtN (F : Fl) (a : Nat) : Nat := sN (fun b => if 0 < F.ow a b ∨ 0 < F.ow b a then 1 else 0) F.n
def mmN (F : Fl) : Nat → Nat
  | 0 => 0
  | k + 1 => if mmN F k < mtN F k then mtN F k else mmN F k
theorem mtN_le {F : Fl} (a : Nat) : mtN F a ≤ F.n := by
  have := sN_le (f := fun b => if 0 < F.ow a b ∨ 0 < F.ow b a then 1 else 0) (m := 1) (n := F.n) (fun i _ => by split <;> omega)
  unfold mtN
  omega
theorem mmN_le (F : Fl) : ∀ k, mmN F k ≤ F.n
  | 0 => Nat.zero_le _
  | k + 1 => by
    simp only [mmN]
    split
    · exact mtN_le k
    · exact mmN_le F k
theorem q_mostToMeet {tv : TV} {nT d : Nat} {S : St} {K : KT} {f : Nat} {F : Fl} (hd : 2 ≤ d) (hX : FX tv nT S f F) (h : K (some (aI (nI (mmN F F.n)))) S) : Call d m_X0_mostToMeet [aR 10 f] S K := by
  refine Call.of (k := 1) hd (fun e he P hP => ?_)
  have hN := hX.1.1
  have hn5 := hX.2.2.1
  have loop : ∀ k, k ≤ F.n → ∀ x3 x4, P 9 [some (aR 10 f), some (aI (nI (mmN F k))), some (aI (nI k)), x3, x4] [aI (S.1 10 f 1), aI (nI k)] S 0 0 := by
    refine dn ?_ ?_
    · intro x3 x4
      repeat (first | (refine hP _ _ _ _ _ _ ?_; show P _ _ _ _ _ _) | (refine hP _ _ _ _ _ _ (And.intro (hN _ _ _ rfl) ?_); show P _ _ (aR _ _ :: _) _ _ _))
      rw [hX.2.1.1]
      refine hP _ _ _ _ _ _ (And.intro (fun _ => ?_) (fun hc => absurd (nI_le (Nat.le_refl _) (by omega)) hc))
      repeat (first | (refine hP _ _ _ _ _ _ ?_; show P _ _ _ _ _ _) | (refine hP _ _ _ _ _ _ (And.intro (hN _ _ _ rfl) ?_); show P _ _ (aR _ _ :: _) _ _ _))
      exact hP _ _ _ _ _ _ (h)
    · intro a ha ih x3 x4
      have inner : ∀ k, k ≤ F.n → P 23 [some (aR 10 f), some (aI (nI (mmN F a))), some (aI (nI a)), some (aI (nI (sN (fun b => if 0 < F.ow a b ∨ 0 < F.ow b a then 1 else 0) k))), some (aI (nI k))] [aI (S.1 10 f 1), aI (nI k)] S 0 0 := by
        refine dn ?_ ?_
        · have ih := ih (some (aI (nI (mtN F a)))) (some (aI (nI F.n)))
          rw [nI_succ] at ih
          have l1 := mtN_le (F := F) a
          have l2 := mmN_le F a
          repeat (first | (refine hP _ _ _ _ _ _ ?_; show P _ _ _ _ _ _) | (refine hP _ _ _ _ _ _ (And.intro (hN _ _ _ rfl) ?_); show P _ _ (aR _ _ :: _) _ _ _))
          rw [hX.2.1.1]
          refine hP _ _ _ _ _ _ (And.intro (fun _ => ?_) (fun hc => absurd (nI_le (Nat.le_refl _) (by omega)) hc))
          repeat (first | (refine hP _ _ _ _ _ _ ?_; show P _ _ _ _ _ _) | (refine hP _ _ _ _ _ _ (And.intro (hN _ _ _ rfl) ?_); show P _ _ (aR _ _ :: _) _ _ _))
          have e : (if nI (mmN F a) < nI (mtN F a) then nI (mtN F a) else nI (mmN F a)) = nI (mmN F (a + 1)) := by
            simp only [mmN]
            by_cases hc : mmN F a < mtN F a
            · rw [if_pos hc, if_pos (nI_lt hc (by omega))]
            · rw [if_neg hc, if_neg (nI_nlt (by omega) (by omega))]
          rw [← e] at ih
          exact ih
        · intro b hb ih2
          rw [nI_succ] at ih2
          have o1 := hX.2.2.ow ha hb
          have o2 := hX.2.2.ow hb ha
          have yes : (0 < F.ow a b ∨ 0 < F.ow b a) → P 46 [some (aR 10 f), some (aI (nI (mmN F a))), some (aI (nI a)), some (aI (nI (sN (fun b => if 0 < F.ow a b ∨ 0 < F.ow b a then 1 else 0) b))), some (aI (nI b))] [] S 0 0 := by
            intro hor
            simp only [sN, if_pos hor, nI_succ] at ih2
            repeat (first | (refine hP _ _ _ _ _ _ ?_; show P _ _ _ _ _ _) | (refine hP _ _ _ _ _ _ (And.intro (hN _ _ _ rfl) ?_); show P _ _ (aR _ _ :: _) _ _ _))
            exact ih2
          repeat (first | (refine hP _ _ _ _ _ _ ?_; show P _ _ _ _ _ _) | (refine hP _ _ _ _ _ _ (And.intro (hN _ _ _ rfl) ?_); show P _ _ (aR _ _ :: _) _ _ _))
          rw [hX.2.1.1]
          refine hP _ _ _ _ _ _ (And.intro (fun hc => absurd hc (nI_ge hb (by omega))) (fun _ => ?_))
          repeat (first | (refine hP _ _ _ _ _ _ ?_; show P _ _ _ _ _ _) | (refine hP _ _ _ _ _ _ (And.intro (hN _ _ _ rfl) ?_); show P _ _ (aR _ _ :: _) _ _ _))
          refine hP _ _ _ _ _ _ (q_owing (by omega) hX ha hb ?_)
          repeat (first | (refine hP _ _ _ _ _ _ ?_; show P _ _ _ _ _ _) | (refine hP _ _ _ _ _ _ (And.intro (hN _ _ _ rfl) ?_); show P _ _ (aR _ _ :: _) _ _ _))
          refine hP _ _ _ _ _ _ (gt0 (by omega) (fun hc => ?_) (fun hc => ?_))
          · exact yes (Or.inl hc)
          · repeat (first | (refine hP _ _ _ _ _ _ ?_; show P _ _ _ _ _ _) | (refine hP _ _ _ _ _ _ (And.intro (hN _ _ _ rfl) ?_); show P _ _ (aR _ _ :: _) _ _ _))
            refine hP _ _ _ _ _ _ (q_owing (by omega) hX hb ha ?_)
            repeat (first | (refine hP _ _ _ _ _ _ ?_; show P _ _ _ _ _ _) | (refine hP _ _ _ _ _ _ (And.intro (hN _ _ _ rfl) ?_); show P _ _ (aR _ _ :: _) _ _ _))
            refine hP _ _ _ _ _ _ (le0 (by omega) (fun hc2 => ?_) (fun hc2 => ?_))
            · have hno : ¬ (0 < F.ow a b ∨ 0 < F.ow b a) := fun z => z.elim hc hc2
              simp only [sN, if_neg hno, Nat.add_zero] at ih2
              repeat (first | (refine hP _ _ _ _ _ _ ?_; show P _ _ _ _ _ _) | (refine hP _ _ _ _ _ _ (And.intro (hN _ _ _ rfl) ?_); show P _ _ (aR _ _ :: _) _ _ _))
              exact ih2
            · exact yes (Or.inr hc2)
      repeat (first | (refine hP _ _ _ _ _ _ ?_; show P _ _ _ _ _ _) | (refine hP _ _ _ _ _ _ (And.intro (hN _ _ _ rfl) ?_); show P _ _ (aR _ _ :: _) _ _ _))
      rw [hX.2.1.1]
      refine hP _ _ _ _ _ _ (And.intro (fun hc => absurd hc (nI_ge ha (by omega))) (fun _ => ?_))
      repeat (first | (refine hP _ _ _ _ _ _ ?_; show P _ _ _ _ _ _) | (refine hP _ _ _ _ _ _ (And.intro (hN _ _ _ rfl) ?_); show P _ _ (aR _ _ :: _) _ _ _))
      exact inner 0 (by omega)
  repeat (first | (refine hP _ _ _ _ _ _ ?_; show P _ _ _ _ _ _) | (refine hP _ _ _ _ _ _ (And.intro (hN _ _ _ rfl) ?_); show P _ _ (aR _ _ :: _) _ _ _))
  exact loop 0 (by omega) _ _

