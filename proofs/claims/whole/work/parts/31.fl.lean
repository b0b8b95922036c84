/-! Sets of twos: the best one, danced -/
theorem q_mayAll {tv : TV} {nT d i : Nat} {S : St} {K : KT} {f : Nat} {F : Fl} (hd : 1 ≤ d) (hX : FX tv nT S f F) (hw : wgh tv S f F) (hi : i < 26) (h : K (some (aI (b2 (okS tv F i)))) S) : Call d m_X0_mayAll [aR 10 f, aI (nI (setN i))] S K := by
  refine Call.of (k := 0) hd (fun e he P hP => ?_)
  have hN := hX.1.1
  repeat (first | (refine hP _ _ _ _ _ _ ?_; show P _ _ _ _ _ _) | (refine hP _ _ _ _ _ _ (And.intro (hN _ _ _ rfl) ?_); show P _ _ (aR _ _ :: _) _ _ _))
  rw [hw.1]
  refine hP _ _ _ _ _ _ (And.intro (fun hc => ?_) (fun hc => ?_))
  · have hc' : ¬ (okS tv F i = true) := fun z => hc ((may_iff (okN tv F) hi).mpr (okS_iff.mp z))
    have e1 : okS tv F i = false := by simpa using hc'
    rw [e1] at h
    repeat (first | (refine hP _ _ _ _ _ _ ?_; show P _ _ _ _ _ _) | (refine hP _ _ _ _ _ _ (And.intro (hN _ _ _ rfl) ?_); show P _ _ (aR _ _ :: _) _ _ _))
    refine hP _ _ _ _ _ _ (And.intro (Or.inl rfl) h)
  · have e1 : okS tv F i = true := okS_iff.mpr ((may_iff (okN tv F) hi).mp hc)
    rw [e1] at h
    repeat (first | (refine hP _ _ _ _ _ _ ?_; show P _ _ _ _ _ _) | (refine hP _ _ _ _ _ _ (And.intro (hN _ _ _ rfl) ?_); show P _ _ (aR _ _ :: _) _ _ _))
    refine hP _ _ _ _ _ _ (And.intro (Or.inr rfl) h)
theorem q_paidBy {tv : TV} {nT d i : Nat} {S : St} {K : KT} {f : Nat} {F : Fl} (hd : 1 ≤ d) (hX : FX tv nT S f F) (hw : wgh tv S f F) (hi : i < 26) (hok : okS tv F i = true) (h : K (some (aI (nI (pdN tv F i)))) S) : Call d m_X0_paidBy [aR 10 f, aI (nI (setN i))] S K := by
  refine Call.of (k := 0) hd (fun e he P hP => ?_)
  have hN := hX.1.1
  have loop : ∀ k, k ≤ 10 → P 9 [some (aR 10 f), some (aI (nI (setN i))), some (aI (nI (sN (fun k => cond (sb i k) (spN tv F (prA k) (prB k)) 0) k))), some (aI (nI k))] [aI (nI 10), aI (nI k)] S 0 0 := by
    refine dn ?_ ?_
    · repeat (first | (refine hP _ _ _ _ _ _ ?_; show P _ _ _ _ _ _) | (refine hP _ _ _ _ _ _ (And.intro (hN _ _ _ rfl) ?_); show P _ _ (aR _ _ :: _) _ _ _))
      refine hP _ _ _ _ _ _ (And.intro (fun _ => ?_) (fun hc => absurd (nI_le (Nat.le_refl 10) (by decide)) hc))
      repeat (first | (refine hP _ _ _ _ _ _ ?_; show P _ _ _ _ _ _) | (refine hP _ _ _ _ _ _ (And.intro (hN _ _ _ rfl) ?_); show P _ _ (aR _ _ :: _) _ _ _))
      exact hP _ _ _ _ _ _ (h)
    · intro k hk ih
      repeat (first | (refine hP _ _ _ _ _ _ ?_; show P _ _ _ _ _ _) | (refine hP _ _ _ _ _ _ (And.intro (hN _ _ _ rfl) ?_); show P _ _ (aR _ _ :: _) _ _ _))
      refine hP _ _ _ _ _ _ (And.intro (fun hc => absurd hc (nI_ge (b := 10) hk (by decide))) (fun _ => ?_))
      repeat (first | (refine hP _ _ _ _ _ _ ?_; show P _ _ _ _ _ _) | (refine hP _ _ _ _ _ _ (And.intro (hN _ _ _ rfl) ?_); show P _ _ (aR _ _ :: _) _ _ _))
      rw [nI_succ] at ih
      refine hP _ _ _ _ _ _ (And.intro (fun hc => ?_) (fun hc => ?_))
      · have hs : sb i k = false := by
          have := mt (sb_bit i hi k hk).mpr hc
          simpa using this
        simp only [sN, hs, cond, Nat.add_zero] at ih
        repeat (first | (refine hP _ _ _ _ _ _ ?_; show P _ _ _ _ _ _) | (refine hP _ _ _ _ _ _ (And.intro (hN _ _ _ rfl) ?_); show P _ _ (aR _ _ :: _) _ _ _))
        exact ih
      · have hs : sb i k = true := (sb_bit i hi k hk).mp hc
        have hw2 := hw.2 k hk (okS_iff.mp hok k hk hs)
        simp only [sN, hs, cond, spN] at ih
        repeat (first | (refine hP _ _ _ _ _ _ ?_; show P _ _ _ _ _ _) | (refine hP _ _ _ _ _ _ (And.intro (hN _ _ _ rfl) ?_); show P _ _ (aR _ _ :: _) _ _ _))
        refine hP _ _ _ _ _ _ (Exists.intro (k) (And.intro (And.intro (rfl) (show k < 10 from hk)) ?_))
        rw [hw2.1]
        repeat (first | (refine hP _ _ _ _ _ _ ?_; show P _ _ _ _ _ _) | (refine hP _ _ _ _ _ _ (And.intro (hN _ _ _ rfl) ?_); show P _ _ (aR _ _ :: _) _ _ _))
        refine hP _ _ _ _ _ _ (Exists.intro (k) (And.intro (And.intro (rfl) (show k < 10 from hk)) ?_))
        rw [hw2.2]
        repeat (first | (refine hP _ _ _ _ _ _ ?_; show P _ _ _ _ _ _) | (refine hP _ _ _ _ _ _ (And.intro (hN _ _ _ rfl) ?_); show P _ _ (aR _ _ :: _) _ _ _))
        rw [nI_add, nI_add]
        exact ih
  repeat (first | (refine hP _ _ _ _ _ _ ?_; show P _ _ _ _ _ _) | (refine hP _ _ _ _ _ _ (And.intro (hN _ _ _ rfl) ?_); show P _ _ (aR _ _ :: _) _ _ _))
  exact loop 0 (by omega)
theorem q_bestSet {tv : TV} {nT d : Nat} {S : St} {K : KT} {f : Nat} {F : Fl} (hd : 2 ≤ d) (hX : FX tv nT S f F) (hw : wgh tv S f F) (h : K (some (aI (nI (setN (biN tv F 26))))) S) : Call d m_X0_bestSet [aR 10 f] S K := by
  refine Call.of (k := 1) hd (fun e he P hP => ?_)
  have hN := hX.1.1
  have hz := hX.1.2.2.2
  have loop : ∀ k, k ≤ 26 → ∀ x4, P 11 [some (aR 10 f), some (aI (nI (setN (biN tv F k)))), some (aI (nI (pdN tv F (biN tv F k)))), some (aI (nI k)), x4] [aI (nI 26), aI (nI k)] S 0 0 := by
    refine dn ?_ ?_
    · intro x4
      repeat (first | (refine hP _ _ _ _ _ _ ?_; show P _ _ _ _ _ _) | (refine hP _ _ _ _ _ _ (And.intro (hN _ _ _ rfl) ?_); show P _ _ (aR _ _ :: _) _ _ _))
      refine hP _ _ _ _ _ _ (And.intro (fun _ => ?_) (fun hc => absurd (nI_le (Nat.le_refl 26) (by decide)) hc))
      repeat (first | (refine hP _ _ _ _ _ _ ?_; show P _ _ _ _ _ _) | (refine hP _ _ _ _ _ _ (And.intro (hN _ _ _ rfl) ?_); show P _ _ (aR _ _ :: _) _ _ _))
      exact hP _ _ _ _ _ _ (h)
    · intro k hk ih x4
      have hb := biN_in tv F k (by omega)
      have hp := pdN_le (tv := tv) hX.2.2 hb.2
      repeat (first | (refine hP _ _ _ _ _ _ ?_; show P _ _ _ _ _ _) | (refine hP _ _ _ _ _ _ (And.intro (hN _ _ _ rfl) ?_); show P _ _ (aR _ _ :: _) _ _ _))
      refine hP _ _ _ _ _ _ (And.intro (fun hc => absurd hc (nI_ge (b := 26) hk (by decide))) (fun _ => ?_))
      repeat (first | (refine hP _ _ _ _ _ _ ?_; show P _ _ _ _ _ _) | (refine hP _ _ _ _ _ _ (And.intro (hN _ _ _ rfl) ?_); show P _ _ (aR _ _ :: _) _ _ _))
      refine hP _ _ _ _ _ _ (Exists.intro (k) (And.intro (And.intro (rfl) (show k < 26 from hk)) ?_))
      rw [hz k hk]
      repeat (first | (refine hP _ _ _ _ _ _ ?_; show P _ _ _ _ _ _) | (refine hP _ _ _ _ _ _ (And.intro (hN _ _ _ rfl) ?_); show P _ _ (aR _ _ :: _) _ _ _))
      refine hP _ _ _ _ _ _ (q_mayAll (by omega) hX hw hk ?_)
      repeat (first | (refine hP _ _ _ _ _ _ ?_; show P _ _ _ _ _ _) | (refine hP _ _ _ _ _ _ (And.intro (hN _ _ _ rfl) ?_); show P _ _ (aR _ _ :: _) _ _ _))
      have tail : ∀ v, v ≤ 1980 → (okS tv F k = true → pdN tv F k = v) → (okS tv F k = false → v = 0) → P 44 [some (aR 10 f), some (aI (nI (setN (biN tv F k)))), some (aI (nI (pdN tv F (biN tv F k)))), some (aI (nI k)), some (aI (nI v))] [aI (nI (pdN tv F (biN tv F k))), aI (nI v)] S 0 0 := by
        intro v hv h1 h0
        repeat (first | (refine hP _ _ _ _ _ _ ?_; show P _ _ _ _ _ _) | (refine hP _ _ _ _ _ _ (And.intro (hN _ _ _ rfl) ?_); show P _ _ (aR _ _ :: _) _ _ _))
        have ih := ih (some (aI (nI v)))
        rw [nI_succ] at ih
        refine hP _ _ _ _ _ _ (And.intro (fun hc => ?_) (fun hc => ?_))
        · have hle : v ≤ pdN tv F (biN tv F k) := (nI_leI (by omega) (by omega)).mp hc
          have : ¬ (okS tv F k = true ∧ pdN tv F (biN tv F k) < pdN tv F k) := by
            rintro ⟨z1, z2⟩
            rw [h1 z1] at z2
            omega
          rw [show biN tv F (k + 1) = biN tv F k from if_neg this] at ih
          repeat (first | (refine hP _ _ _ _ _ _ ?_; show P _ _ _ _ _ _) | (refine hP _ _ _ _ _ _ (And.intro (hN _ _ _ rfl) ?_); show P _ _ (aR _ _ :: _) _ _ _))
          exact ih
        · have hlt : pdN tv F (biN tv F k) < v := by
            apply Classical.byContradiction
            intro z
            exact hc (nI_le (by omega) (by omega))
          have hok : okS tv F k = true := by
            cases e1 : okS tv F k with
            | true => rfl
            | false => rw [h0 e1] at hlt; omega
          have hc2 : okS tv F k = true ∧ pdN tv F (biN tv F k) < pdN tv F k := ⟨hok, by rw [h1 hok]; exact hlt⟩
          rw [show biN tv F (k + 1) = k from if_pos hc2, h1 hok] at ih
          repeat (first | (refine hP _ _ _ _ _ _ ?_; show P _ _ _ _ _ _) | (refine hP _ _ _ _ _ _ (And.intro (hN _ _ _ rfl) ?_); show P _ _ (aR _ _ :: _) _ _ _))
          refine hP _ _ _ _ _ _ (Exists.intro (k) (And.intro (And.intro (rfl) (show k < 26 from hk)) ?_))
          rw [hz k hk]
          repeat (first | (refine hP _ _ _ _ _ _ ?_; show P _ _ _ _ _ _) | (refine hP _ _ _ _ _ _ (And.intro (hN _ _ _ rfl) ?_); show P _ _ (aR _ _ :: _) _ _ _))
          exact ih
      refine hP _ _ _ _ _ _ (And.intro (fun hc => ?_) (fun hc => ?_))
      · have e1 := b2_0 hc
        repeat (first | (refine hP _ _ _ _ _ _ ?_; show P _ _ _ _ _ _) | (refine hP _ _ _ _ _ _ (And.intro (hN _ _ _ rfl) ?_); show P _ _ (aR _ _ :: _) _ _ _))
        exact tail 0 (by omega) (fun z => by rw [e1] at z; cases z) (fun _ => rfl)
      · have e1 := b2_1 hc
        repeat (first | (refine hP _ _ _ _ _ _ ?_; show P _ _ _ _ _ _) | (refine hP _ _ _ _ _ _ (And.intro (hN _ _ _ rfl) ?_); show P _ _ (aR _ _ :: _) _ _ _))
        refine hP _ _ _ _ _ _ (Exists.intro (k) (And.intro (And.intro (rfl) (show k < 26 from hk)) ?_))
        rw [hz k hk]
        repeat (first | (refine hP _ _ _ _ _ _ ?_; show P _ _ _ _ _ _) | (refine hP _ _ _ _ _ _ (And.intro (hN _ _ _ rfl) ?_); show P _ _ (aR _ _ :: _) _ _ _))
        refine hP _ _ _ _ _ _ (q_paidBy (by omega) hX hw hk e1 ?_)
        repeat (first | (refine hP _ _ _ _ _ _ ?_; show P _ _ _ _ _ _) | (refine hP _ _ _ _ _ _ (And.intro (hN _ _ _ rfl) ?_); show P _ _ (aR _ _ :: _) _ _ _))
        exact tail (pdN tv F k) (pdN_le hX.2.2 e1) (fun _ => rfl) (fun z => by rw [e1] at z; cases z)
  repeat (first | (refine hP _ _ _ _ _ _ ?_; show P _ _ _ _ _ _) | (refine hP _ _ _ _ _ _ (And.intro (hN _ _ _ rfl) ?_); show P _ _ (aR _ _ :: _) _ _ _))
  have := loop 0 (by omega) none
  rw [show pdN tv F (biN tv F 0) = 0 from pdN_0 tv F] at this
  exact this
/-- a set has danced -/
def dsN (tv : TV) (F : Fl) (i : Nat) : Nat → Fl
  | 0 => F
  | k + 1 => if sb i k = true then slN (dsN tv F i k) (prA k) (prB k) (pyN tv F (prA k) (F.ow (prA k) (prB k))) (pyN tv F (prB k) (F.ow (prB k) (prA k))) else dsN tv F i k
theorem dsN_n (tv : TV) (F : Fl) (i : Nat) : ∀ k, (dsN tv F i k).n = F.n ∧ (dsN tv F i k).rd = F.rd ∧ (dsN tv F i k).ni = F.ni ∧ (dsN tv F i k).ru = F.ru ∧ (dsN tv F i k).ki = F.ki ∧ (dsN tv F i k).nu = F.nu
  | 0 => ⟨rfl, rfl, rfl, rfl, rfl, rfl⟩
  | k + 1 => by
    simp only [dsN]
    split
    · exact dsN_n tv F i k
    · exact dsN_n tv F i k
/-- whom no two so far holds -/
theorem dsN_out (tv : TV) (F : Fl) (i : Nat) : ∀ k, ∀ x, (∀ j, j < k → sb i j = true → ¬ prA j = x ∧ ¬ prB j = x) → (∀ y, (dsN tv F i k).ow y x = F.ow y x ∧ (dsN tv F i k).ow x y = F.ow x y) ∧ (dsN tv F i k).dn x = F.dn x
  | 0, x, _ => ⟨fun y => ⟨rfl, rfl⟩, rfl⟩
  | k + 1, x, h => by
    have ih := dsN_out tv F i k x (fun j hj => h j (by omega))
    simp only [dsN]
    split
    · rename_i hs
      have hx := h k (by omega) hs
      have h1 : ¬ x = prA k := fun z => hx.1 z.symm
      have h2 : ¬ x = prB k := fun z => hx.2 z.symm
      refine ⟨fun y => ⟨?_, ?_⟩, ?_⟩
      · show uN2 (uN2 (dsN tv F i k).ow _ _ _) _ _ _ y x = _
        simp only [uN2, h1, h2, and_false, if_false]
        exact (ih.1 y).1
      · show uN2 (uN2 (dsN tv F i k).ow _ _ _) _ _ _ x y = _
        simp only [uN2, h1, h2, false_and, if_false]
        exact (ih.1 y).2
      · show uN (uN (dsN tv F i k).dn _ _) _ _ x = _
        simp only [uN, h1, h2, if_false]
        exact ih.2
    · exact ih
theorem dsN_at {tv : TV} {F : Fl} {i k : Nat} (hi : i < 26) (hk : k < 10) (hs : sb i k = true) (x : Nat) (hx : x = prA k ∨ x = prB k) : (∀ y, (dsN tv F i k).ow y x = F.ow y x ∧ (dsN tv F i k).ow x y = F.ow x y) ∧ (dsN tv F i k).dn x = F.dn x := by
  refine dsN_out tv F i k x (fun j hj hsj => ?_)
  have := sb_apart i hi k hk j (by omega) hs hsj (by omega)
  rcases hx with rfl | rfl
  · exact ⟨this.1, this.2.2.1⟩
  · exact ⟨this.2.1, this.2.2.2⟩
def wD (f : Nat) : WW := fun j g k => j = 4 ∨ j = 5 ∨ (g = f ∧ (j = 13 ∨ j = 14 ∨ (j = 10 ∧ k = 2)))
theorem wD_ok (f : Nat) : okW (wD f) := by
  intro j g k hj
  simp only [wD] at hj
  omega
def dsF (tv : TV) (F : Fl) (i : Nat) : Fl := (dsN tv F i 10).sR (F.rd + 1)
theorem q_danceSet {tv : TV} {nT d i : Nat} {S : St} {K : KT} {f g : Nat} {F : Fl} (hd : 3 ≤ d) (hX : FX tv nT S f F) (hw : wgh tv S g F) (hi : i < 26) (hok : okS tv F i = true) (h : ∀ S', Ag (wD f) S S' → FX tv nT S' f (dsF tv F i) → K none S') : Call d m_X0_danceSet [aR 10 f, aI (nI (setN i)), aR 10 g] S K := by
  refine Call.of (k := 2) hd (fun e he P hP => ?_)
  have hN := hX.1.1
  have loop : ∀ k, k ≤ 10 → ∀ S1, Ag (wD f) S S1 → FX tv nT S1 f (dsN tv F i k) → P 7 [some (aR 10 f), some (aI (nI (setN i))), some (aR 10 g), some (aI (nI k))] [aI (nI 10), aI (nI k)] S1 0 0 := by
    refine dn ?_ ?_
    · intro S1 g1 hX1
      have hN := hX1.1.1
      repeat (first | (refine hP _ _ _ _ _ _ ?_; show P _ _ _ _ _ _) | (refine hP _ _ _ _ _ _ (And.intro (hN _ _ _ rfl) ?_); show P _ _ (aR _ _ :: _) _ _ _))
      refine hP _ _ _ _ _ _ (And.intro (fun _ => ?_) (fun hc => absurd (nI_le (Nat.le_refl 10) (by decide)) hc))
      repeat (first | (refine hP _ _ _ _ _ _ ?_; show P _ _ _ _ _ _) | (refine hP _ _ _ _ _ _ (And.intro (hN _ _ _ rfl) ?_); show P _ _ (aR _ _ :: _) _ _ _))
      have e2 : S1.1 10 f 2 + 1 = nI (F.rd + 1) := by rw [hX1.2.1.2.1, nI_1, (dsN_n tv F i 10).2.1]
      show P _ _ _ (ivSet S1 10 f 2 (S1.1 10 f 2 + 1)) _ _
      rw [e2]
      have hX2 := hX1.sR (F.rd + 1)
      repeat (first | (refine hP _ _ _ _ _ _ ?_; show P _ _ _ _ _ _) | (refine hP _ _ _ _ _ _ (And.intro (hN _ _ _ rfl) ?_); show P _ _ (aR _ _ :: _) _ _ _))
      exact hP _ _ _ _ _ _ (h _ (g1.tr (Ag.iv (by simp [wD]))) hX2)
    · intro k hk ih S1 g1 hX1
      have hN := hX1.1.1
      obtain ⟨t1, t2⟩ := hX1.1.2.2.1 k hk
      obtain ⟨p1, p2⟩ := pr_lt k hk
      have hn5 := hX1.2.2.1
      repeat (first | (refine hP _ _ _ _ _ _ ?_; show P _ _ _ _ _ _) | (refine hP _ _ _ _ _ _ (And.intro (hN _ _ _ rfl) ?_); show P _ _ (aR _ _ :: _) _ _ _))
      refine hP _ _ _ _ _ _ (And.intro (fun hc => absurd hc (nI_ge (b := 10) hk (by decide))) (fun _ => ?_))
      repeat (first | (refine hP _ _ _ _ _ _ ?_; show P _ _ _ _ _ _) | (refine hP _ _ _ _ _ _ (And.intro (hN _ _ _ rfl) ?_); show P _ _ (aR _ _ :: _) _ _ _))
      refine hP _ _ _ _ _ _ (And.intro (fun hc => ?_) (fun hc => ?_))
      · have hs : ¬ (sb i k = true) := fun z => hc ((sb_bit i hi k hk).mpr z)
        have he : dsN tv F i (k + 1) = dsN tv F i k := by simp only [dsN, if_neg hs]
        repeat (first | (refine hP _ _ _ _ _ _ ?_; show P _ _ _ _ _ _) | (refine hP _ _ _ _ _ _ (And.intro (hN _ _ _ rfl) ?_); show P _ _ (aR _ _ :: _) _ _ _))
        have := ih S1 g1 (by rw [he]; exact hX1)
        rw [nI_succ] at this
        exact this
      · have hs : sb i k = true := (sb_bit i hi k hk).mp hc
        have hokk := okS_iff.mp hok k hk hs
        have hlt := okN_lt hokk
        have hw2 := hw.2 k hk hokk
        have he : dsN tv F i (k + 1) = slN (dsN tv F i k) (prA k) (prB k) (pyN tv F (prA k) (F.ow (prA k) (prB k))) (pyN tv F (prB k) (F.ow (prB k) (prA k))) := by simp only [dsN, if_pos hs]
        have r1 : S1.1 15 g k = nI (pyN tv F (prA k) (F.ow (prA k) (prB k))) := by rw [g1.1 15 g k (by simp [wD])]; exact hw2.1
        have r2 : S1.1 16 g k = nI (pyN tv F (prB k) (F.ow (prB k) (prA k))) := by rw [g1.1 16 g k (by simp [wD])]; exact hw2.2
        have a1 := (dsN_at (tv := tv) (F := F) hi hk hs (prA k) (Or.inl rfl)).1 (prB k)
        have nk := (dsN_n tv F i k).1
        have o1 := hX1.2.2.ow (a := prA k) (b := prB k) (by omega) (by omega)
        have o2 := hX1.2.2.ow (a := prB k) (b := prA k) (by omega) (by omega)
        have l1 := pyN_le tv F (prA k) (o := F.ow (prA k) (prB k)) (by rw [← a1.2]; omega)
        have l2 := pyN_le tv F (prB k) (o := F.ow (prB k) (prA k)) (by rw [← a1.1]; omega)
        repeat (first | (refine hP _ _ _ _ _ _ ?_; show P _ _ _ _ _ _) | (refine hP _ _ _ _ _ _ (And.intro (hN _ _ _ rfl) ?_); show P _ _ (aR _ _ :: _) _ _ _))
        refine hP _ _ _ _ _ _ (Exists.intro (k) (And.intro (And.intro (rfl) (show k < 10 from hk)) ?_))
        rw [t1]
        repeat (first | (refine hP _ _ _ _ _ _ ?_; show P _ _ _ _ _ _) | (refine hP _ _ _ _ _ _ (And.intro (hN _ _ _ rfl) ?_); show P _ _ (aR _ _ :: _) _ _ _))
        refine hP _ _ _ _ _ _ (Exists.intro (k) (And.intro (And.intro (rfl) (show k < 10 from hk)) ?_))
        rw [t2]
        repeat (first | (refine hP _ _ _ _ _ _ ?_; show P _ _ _ _ _ _) | (refine hP _ _ _ _ _ _ (And.intro (hN _ _ _ rfl) ?_); show P _ _ (aR _ _ :: _) _ _ _))
        refine hP _ _ _ _ _ _ (Exists.intro (k) (And.intro (And.intro (rfl) (show k < 10 from hk)) ?_))
        rw [r1]
        repeat (first | (refine hP _ _ _ _ _ _ ?_; show P _ _ _ _ _ _) | (refine hP _ _ _ _ _ _ (And.intro (hN _ _ _ rfl) ?_); show P _ _ (aR _ _ :: _) _ _ _))
        refine hP _ _ _ _ _ _ (Exists.intro (k) (And.intro (And.intro (rfl) (show k < 10 from hk)) ?_))
        rw [r2]
        repeat (first | (refine hP _ _ _ _ _ _ ?_; show P _ _ _ _ _ _) | (refine hP _ _ _ _ _ _ (And.intro (hN _ _ _ rfl) ?_); show P _ _ (aR _ _ :: _) _ _ _))
        refine hP _ _ _ _ _ _ (q_settle (by omega) hX1 (by omega) (by omega) (by omega) (by rw [a1.2]; exact l1) (by rw [a1.1]; exact l2) (fun S3 h3 hX3 => ?_))
        repeat (first | (refine hP _ _ _ _ _ _ ?_; show P _ _ _ _ _ _) | (refine hP _ _ _ _ _ _ (And.intro (hN _ _ _ rfl) ?_); show P _ _ (aR _ _ :: _) _ _ _))
        have := ih S3 (g1.tr (h3.mono (fun j g k hj => by simp only [wS] at hj; simp only [wD]; omega))) (by rw [he]; exact hX3)
        rw [nI_succ] at this
        exact this
  repeat (first | (refine hP _ _ _ _ _ _ ?_; show P _ _ _ _ _ _) | (refine hP _ _ _ _ _ _ (And.intro (hN _ _ _ rfl) ?_); show P _ _ (aR _ _ :: _) _ _ _))
  exact loop 0 (by omega) _ (Ag.rf _ _) hX
