/-! image, back -/
def wIm : WW := fun j g k => (j = 0 ∧ k = 6) ∨ wTk 1 j g k
def mIm : WW := fun j _ k => j = 53 ∨ j = 54 ∨ (j = 40 ∧ 37 ≤ k ∧ k ≤ 40)
theorem n_image {d : Nat} {S : St} {K : KT} {F : Fl} (hd : 1 ≤ d) (hN : NN S) (hn5 : F.n ≤ 5) (hM : HM S F) (h : ∀ S', Ag mIm S S' → IMm S' (some F) → K (some (aI (nI F.n))) S') : Call d m_X6_image [aR 40 0] S K := by
  refine Call.of (k := 0) hd (fun e he P hP => ?_)
  have hN0 := hN
  have loop2 : ∀ S0, Ag mIm S S0 → (∀ q, q < 25 → S0.1 53 0 q = S.1 46 0 q) → ∀ p, p ≤ 10 → ∀ S1, Ag (fun j g k => j = 54) S0 S1 → (∀ q, q < p → S1.1 54 0 q = S.1 45 0 q) → P 31 [some (aR 40 0), some (aI (nI p))] [aI 10, aI (nI p)] S1 0 0 := by
    intro S0 g0 a0
    refine dn ?_ ?_
    · intro S1 g1 a1
      have hN := (hN0.up g0).up g1
      obtain ⟨b1, b2', b3, b4, b5, b6⟩ := hM
      refine hP _ _ _ _ _ _ (And.intro (fun _ => ?_) (fun hc => absurd (nI_le (Nat.le_refl 10) (by decide)) hc))
      have g2 : Ag mIm S S1 := g0.tr (g1.mono (fun j g k z => by simp only [mIm]; omega))
      have e1 : S1.1 40 0 12 = nI F.n := by rw [g2.1 40 0 12 (by simp [mIm])]; exact b1
      have e2 : (ivSet S1 40 0 37 (nI F.n)).1 40 0 7 = nI F.rd := by rw [iv_ne (by omega), g2.1 40 0 7 (by simp [mIm])]; exact b2'
      have e3 : (ivSet (ivSet S1 40 0 37 (nI F.n)) 40 0 38 (nI F.rd)).1 40 0 8 = nI F.ni := by rw [iv_ne (by omega), iv_ne (by omega), g2.1 40 0 8 (by simp [mIm])]; exact b3
      have e4 : (ivSet (ivSet (ivSet S1 40 0 37 (nI F.n)) 40 0 38 (nI F.rd)) 40 0 39 (nI F.ni)).1 40 0 4 = nI F.ru := by rw [iv_ne (by omega), iv_ne (by omega), iv_ne (by omega), g2.1 40 0 4 (by simp [mIm])]; exact b4
      have e5 : (ivSet (ivSet (ivSet (ivSet S1 40 0 37 (nI F.n)) 40 0 38 (nI F.rd)) 40 0 39 (nI F.ni)) 40 0 40 (nI F.ru)).1 40 0 12 = nI F.n := by rw [iv_ne (by omega), iv_ne (by omega), iv_ne (by omega), iv_ne (by omega)]; exact e1
      repeat (first | (refine hP _ _ _ _ _ _ ?_; show P _ _ _ _ _ _) | (refine hP _ _ _ _ _ _ (And.intro (hN _ _ _ rfl) ?_); show P _ _ (aR _ _ :: _) _ _ _))
      rw [e1]
      repeat (first | (refine hP _ _ _ _ _ _ ?_; show P _ _ _ _ _ _) | (refine hP _ _ _ _ _ _ (And.intro (hN _ _ _ rfl) ?_); show P _ _ (aR _ _ :: _) _ _ _))
      rw [e2]
      repeat (first | (refine hP _ _ _ _ _ _ ?_; show P _ _ _ _ _ _) | (refine hP _ _ _ _ _ _ (And.intro (hN _ _ _ rfl) ?_); show P _ _ (aR _ _ :: _) _ _ _))
      rw [e3]
      repeat (first | (refine hP _ _ _ _ _ _ ?_; show P _ _ _ _ _ _) | (refine hP _ _ _ _ _ _ (And.intro (hN _ _ _ rfl) ?_); show P _ _ (aR _ _ :: _) _ _ _))
      rw [e4]
      repeat (first | (refine hP _ _ _ _ _ _ ?_; show P _ _ _ _ _ _) | (refine hP _ _ _ _ _ _ (And.intro (hN _ _ _ rfl) ?_); show P _ _ (aR _ _ :: _) _ _ _))
      rw [e5]
      refine hP _ _ _ _ _ _ (h _ (g2.tr ((((Ag.iv (by simp [mIm])).tr (Ag.iv (by simp [mIm]))).tr (Ag.iv (by simp [mIm]))).tr (Ag.iv (by simp [mIm])))) ⟨?_, ?_, ?_, iv_at, fun a ha => ⟨?_, ?_⟩, fun a b ha hb => ?_⟩)
      · rw [iv_ne (by omega), iv_ne (by omega), iv_ne (by omega), iv_at]
      · rw [iv_ne (by omega), iv_ne (by omega), iv_at]
      · rw [iv_ne (by omega), iv_at]
      · rw [iv_ne (by omega), iv_ne (by omega), iv_ne (by omega), iv_ne (by omega), a1 _ (by omega)]
        exact (b5 a ha).2.1
      · rw [iv_ne (by omega), iv_ne (by omega), iv_ne (by omega), iv_ne (by omega), a1 _ (by omega)]
        exact (b5 a ha).2.2
      · rw [iv_ne (by omega), iv_ne (by omega), iv_ne (by omega), iv_ne (by omega), g1.1 53 0 _ (by simp), a0 _ (by omega)]
        exact b6 a b ha hb
    · intro p hp ih S1 g1 a1
      have hN := (hN0.up g0).up g1
      rw [nI_succ p] at ih
      refine hP _ _ _ _ _ _ (And.intro (fun hc => absurd hc (nI_ge (b := 10) hp (by decide))) (fun _ => ?_))
      repeat (first | (refine hP _ _ _ _ _ _ ?_; show P _ _ _ _ _ _) | (refine hP _ _ _ _ _ _ (And.intro (hN _ _ _ rfl) ?_); show P _ _ (aR _ _ :: _) _ _ _))
      refine hP _ _ _ _ _ _ (Exists.intro (p) (And.intro (And.intro (rfl) (hp)) ?_))
      repeat (first | (refine hP _ _ _ _ _ _ ?_; show P _ _ _ _ _ _) | (refine hP _ _ _ _ _ _ (And.intro (hN _ _ _ rfl) ?_); show P _ _ (aR _ _ :: _) _ _ _))
      refine hP _ _ _ _ _ _ (Exists.intro (p) (And.intro (And.intro (rfl) (hp)) ?_))
      show P _ _ _ (ivSet S1 54 0 p (S1.1 45 0 p)) _ _
      have := ih (ivSet S1 54 0 p (S1.1 45 0 p)) (g1.tr (Ag.iv rfl)) (fun q hq => by
        by_cases e : q = p
        · rw [e, iv_at, g1.1 45 0 p (by simp), g0.1 45 0 p (by simp [mIm])]
        · rw [iv_ne (by omega)]
          exact a1 q (by omega))
      repeat (first | (refine hP _ _ _ _ _ _ ?_; show P _ _ _ _ _ _) | (refine hP _ _ _ _ _ _ (And.intro (hN _ _ _ rfl) ?_); show P _ _ (aR _ _ :: _) _ _ _))
      exact this
  have loop1 : ∀ p, p ≤ 25 → ∀ S1, Ag (fun j g k => j = 53) S S1 → (∀ q, q < p → S1.1 53 0 q = S.1 46 0 q) → P 5 [some (aR 40 0), some (aI (nI p))] [aI 25, aI (nI p)] S1 0 0 := by
    refine dn ?_ ?_
    · intro S1 g1 a1
      have hN := hN0.up g1
      have := loop2 S1 (g1.mono (fun j g k z => by simp only [mIm]; omega)) a1 0 (by omega) S1 (Ag.rf _ _) (fun q hq => by omega)
      refine hP _ _ _ _ _ _ (And.intro (fun _ => ?_) (fun hc => absurd (nI_le (Nat.le_refl 25) (by decide)) hc))
      repeat (first | (refine hP _ _ _ _ _ _ ?_; show P _ _ _ _ _ _) | (refine hP _ _ _ _ _ _ (And.intro (hN _ _ _ rfl) ?_); show P _ _ (aR _ _ :: _) _ _ _))
      exact this
    · intro p hp ih S1 g1 a1
      have hN := hN0.up g1
      rw [nI_succ p] at ih
      refine hP _ _ _ _ _ _ (And.intro (fun hc => absurd hc (nI_ge (b := 25) hp (by decide))) (fun _ => ?_))
      repeat (first | (refine hP _ _ _ _ _ _ ?_; show P _ _ _ _ _ _) | (refine hP _ _ _ _ _ _ (And.intro (hN _ _ _ rfl) ?_); show P _ _ (aR _ _ :: _) _ _ _))
      refine hP _ _ _ _ _ _ (Exists.intro (p) (And.intro (And.intro (rfl) (hp)) ?_))
      repeat (first | (refine hP _ _ _ _ _ _ ?_; show P _ _ _ _ _ _) | (refine hP _ _ _ _ _ _ (And.intro (hN _ _ _ rfl) ?_); show P _ _ (aR _ _ :: _) _ _ _))
      refine hP _ _ _ _ _ _ (Exists.intro (p) (And.intro (And.intro (rfl) (hp)) ?_))
      show P _ _ _ (ivSet S1 53 0 p (S1.1 46 0 p)) _ _
      have := ih (ivSet S1 53 0 p (S1.1 46 0 p)) (g1.tr (Ag.iv rfl)) (fun q hq => by
        by_cases e : q = p
        · rw [e, iv_at, g1.1 46 0 p (by simp)]
        · rw [iv_ne (by omega)]
          exact a1 q (by omega))
      repeat (first | (refine hP _ _ _ _ _ _ ?_; show P _ _ _ _ _ _) | (refine hP _ _ _ _ _ _ (And.intro (hN _ _ _ rfl) ?_); show P _ _ (aR _ _ :: _) _ _ _))
      exact this
  repeat (first | (refine hP _ _ _ _ _ _ ?_; show P _ _ _ _ _ _) | (refine hP _ _ _ _ _ _ (And.intro (hN _ _ _ rfl) ?_); show P _ _ (aR _ _ :: _) _ _ _))
  exact loop1 0 (by omega) S (Ag.rf _ _) (fun q hq => by omega)
theorem PV.im {F : Fl} {I : Option Fl} {nT : Nat} (h : PV F I nT) : PV F (some F) nT :=
  ⟨h.1, h.2.1, h.2.2.1, fun G hG => by
    simp only [Option.some.injEq] at hG
    subst hG
    exact ⟨h.1, h.2.1, h.2.2.1, Nat.le_refl _, fun _ _ => rfl⟩⟩
theorem op_image : OpA m_X5_image m_X6_image [] isI := by
  intro d S K hd hT hK
  obtain ⟨F, I, sh, T, nT, tb, hT⟩ := hT
  have hX := hT.fx
  have hn5 := hX.2.2.1
  refine Call.of (k := 199) hd (fun e he P hP => ?_)
  have hN := hX.1.1
  repeat (first | (refine hP _ _ _ _ _ _ ?_; show P _ _ _ _ _ _) | (refine hP _ _ _ _ _ _ (And.intro (hN _ _ _ rfl) ?_); show P _ _ (aR _ _ :: _) _ _ _))
  refine hP _ _ _ _ _ _ (q_takeFrom (by omega) hN (by decide) (fun S1 g1 ht => ?_))
  have hN := hN.up g1
  have e1 : (ivSet S1 0 0 6 1).1 10 1 1 = nI F.n := by rw [iv_ne (by omega), ht.1 1 (by omega) (by omega)]; exact hX.2.1.1
  have g2 : Ag wIm S (ivSet S1 0 0 6 1) := (g1.mono (fun j g k z => Or.inr z)).tr (Ag.iv (Or.inl ⟨rfl, rfl⟩))
  have i2 : IMc (ivSet S1 0 0 6 1) (some F) := ⟨iv_at, (hX.2.1.tk hn5 ht).up (W := fun j g k => j = 0) (Ag.iv rfl) (fun j k z => by omega), (zB.tk hT.2.2.2.1.2.2.2.1 ht).up (W := fun j g k => j = 0) (Ag.iv rfl) (fun j k z => by omega)⟩
  repeat (first | (refine hP _ _ _ _ _ _ ?_; show P _ _ _ _ _ _) | (refine hP _ _ _ _ _ _ (And.intro (hN _ _ _ rfl) ?_); show P _ _ (aR _ _ :: _) _ _ _))
  refine hP _ _ _ _ _ _ (And.intro (Or.inr rfl) ?_)
  repeat (first | (refine hP _ _ _ _ _ _ ?_; show P _ _ _ _ _ _) | (refine hP _ _ _ _ _ _ (And.intro (hN _ _ _ rfl) ?_); show P _ _ (aR _ _ :: _) _ _ _))
  rw [e1]
  refine hP _ _ _ _ _ _ (hK _ _ ⟨_, rfl⟩ (by rw [g2.2]; omega) (fun d' K' hd' hK' => ?_))
  generalize ivSet S1 0 0 6 1 = S2 at g2 i2 ⊢
  have hM := (mx_of (hT.1.up g2) hT.2.1.1 (hT.2.2.2.2.ac g2 (fun j g k z => by simp only [wIm, wTk] at z; omega)))
  refine n_image (by omega) hM.1.1 hn5 hM.2.1 (fun S3 g3 i3 => hK' S3 ⟨F, some F, sh, T, nT, tb, (hT.1.up g2).up g3, hT.2.1.im, by rw [g3.2, g2.2]; exact hT.2.2.1, ?_, ?_⟩)
  · obtain ⟨c1, c2, c3, c4, c5, c6, c7⟩ := hT.2.2.2.1
    have h1 := g2
    have : CR S2 F (some F) sh T nT tb := ⟨c1.ag h1 (fun j g k z => by simp only [wIm, wTk] at z; omega), c2.up h1 (fun j g k z => by simp only [wIm, wTk] at z; omega), c3.up h1 (fun j k z => by simp only [wIm, wTk] at z; omega), c4.up h1 (fun j k z => by simp only [wIm, wTk] at z; omega), i2, c6.up h1 (fun j g k z => by simp only [wIm, wTk] at z; omega), c7.up h1 (fun k => by simp [wIm, wTk])⟩
    exact this.mo (g3.mono (fun j g k z => by simp only [mIm] at z; simp only [wMo]; omega))
  · obtain ⟨m1, m2, m3, m4, m5, m6⟩ := hT.2.2.2.2.ac g2 (fun j g k z => by simp only [wIm, wTk] at z; omega)
    exact ⟨m1.up (fun j g k a b c => g3.1 j g k (by simp only [mIm]; omega)), fun k hk => by rw [g3.1 47 0 k (by simp [mIm])]; exact m2 k hk, m3.up g3 (fun j g k z => by simp only [mIm] at z; omega), i3, m5.up (fun j g k a b => g3.1 j g k (by simp only [mIm]; omega)), m6.up (fun j g k a => g3.1 j g k (by simp only [mIm]; omega))⟩
/-- back() of the model -/
def mBk : WW := fun j _ k => j = 45 ∨ j = 46 ∨ (j = 40 ∧ (k = 12 ∨ k = 7 ∨ k = 8 ∨ k = 4))
theorem n_back0 {d : Nat} {S : St} {K : KT} (hd : 1 ≤ d) (hN : NN S) (hI : IMm S none) (h : K (some (aI (-3))) S) : Call d m_X6_back [aR 40 0] S K := by
  refine Call.of (k := 0) hd (fun e he P hP => ?_)
  have hI : S.1 40 0 37 = -1 := hI
  repeat (first | (refine hP _ _ _ _ _ _ ?_; show P _ _ _ _ _ _) | (refine hP _ _ _ _ _ _ (And.intro (hN _ _ _ rfl) ?_); show P _ _ (aR _ _ :: _) _ _ _))
  rw [hI]
  refine hP _ _ _ _ _ _ (And.intro (fun hc => absurd hc (fun z => z rfl)) (fun _ => ?_))
  repeat (first | (refine hP _ _ _ _ _ _ ?_; show P _ _ _ _ _ _) | (refine hP _ _ _ _ _ _ (And.intro (hN _ _ _ rfl) ?_); show P _ _ (aR _ _ :: _) _ _ _))
  exact hP _ _ _ _ _ _ (h)
theorem n_back {d : Nat} {S : St} {K : KT} {F G : Fl} (hd : 1 ≤ d) (hN : NN S) (hn5 : G.n ≤ 5) (hI : IMm S (some G)) (hM : HM S F) (hn : G.n ≤ F.n) (hk : ∀ a, a < G.n → G.ki a = F.ki a) (h : ∀ S', Ag mBk S S' → HM S' G → K (some (aI (nI G.n))) S') : Call d m_X6_back [aR 40 0] S K := by
  refine Call.of (k := 0) hd (fun e he P hP => ?_)
  have hN0 := hN
  obtain ⟨i1, i2, i3, i4, i5, i6⟩ := hI
  have loop2 : ∀ S0, Ag mBk S S0 → (∀ q, q < 25 → S0.1 46 0 q = S.1 53 0 q) → ∀ p, p ≤ 10 → ∀ S1, Ag (fun j g k => j = 45) S0 S1 → (∀ q, q < p → S1.1 45 0 q = S.1 54 0 q) → P 42 [some (aR 40 0), some (aI (nI p))] [aI 10, aI (nI p)] S1 0 0 := by
    intro S0 g0 a0
    refine dn ?_ ?_
    · intro S1 g1 a1
      have hN := (hN0.up g0).up g1
      refine hP _ _ _ _ _ _ (And.intro (fun _ => ?_) (fun hc => absurd (nI_le (Nat.le_refl 10) (by decide)) hc))
      have g2 : Ag mBk S S1 := g0.tr (g1.mono (fun j g k z => by simp only [mBk]; omega))
      have e1 : S1.1 40 0 37 = nI G.n := by rw [g2.1 40 0 37 (by simp [mBk])]; exact i1
      have e2 : (ivSet S1 40 0 12 (nI G.n)).1 40 0 38 = nI G.rd := by rw [iv_ne (by omega), g2.1 40 0 38 (by simp [mBk])]; exact i2
      have e3 : (ivSet (ivSet S1 40 0 12 (nI G.n)) 40 0 7 (nI G.rd)).1 40 0 39 = nI G.ni := by rw [iv_ne (by omega), iv_ne (by omega), g2.1 40 0 39 (by simp [mBk])]; exact i3
      have e4 : (ivSet (ivSet (ivSet S1 40 0 12 (nI G.n)) 40 0 7 (nI G.rd)) 40 0 8 (nI G.ni)).1 40 0 40 = nI G.ru := by rw [iv_ne (by omega), iv_ne (by omega), iv_ne (by omega), g2.1 40 0 40 (by simp [mBk])]; exact i4
      have e5 : (ivSet (ivSet (ivSet (ivSet S1 40 0 12 (nI G.n)) 40 0 7 (nI G.rd)) 40 0 8 (nI G.ni)) 40 0 4 (nI G.ru)).1 40 0 12 = nI G.n := by rw [iv_ne (by omega), iv_ne (by omega), iv_ne (by omega), iv_at]
      repeat (first | (refine hP _ _ _ _ _ _ ?_; show P _ _ _ _ _ _) | (refine hP _ _ _ _ _ _ (And.intro (hN _ _ _ rfl) ?_); show P _ _ (aR _ _ :: _) _ _ _))
      rw [e1]
      repeat (first | (refine hP _ _ _ _ _ _ ?_; show P _ _ _ _ _ _) | (refine hP _ _ _ _ _ _ (And.intro (hN _ _ _ rfl) ?_); show P _ _ (aR _ _ :: _) _ _ _))
      rw [e2]
      repeat (first | (refine hP _ _ _ _ _ _ ?_; show P _ _ _ _ _ _) | (refine hP _ _ _ _ _ _ (And.intro (hN _ _ _ rfl) ?_); show P _ _ (aR _ _ :: _) _ _ _))
      rw [e3]
      repeat (first | (refine hP _ _ _ _ _ _ ?_; show P _ _ _ _ _ _) | (refine hP _ _ _ _ _ _ (And.intro (hN _ _ _ rfl) ?_); show P _ _ (aR _ _ :: _) _ _ _))
      rw [e4]
      repeat (first | (refine hP _ _ _ _ _ _ ?_; show P _ _ _ _ _ _) | (refine hP _ _ _ _ _ _ (And.intro (hN _ _ _ rfl) ?_); show P _ _ (aR _ _ :: _) _ _ _))
      rw [e5]
      refine hP _ _ _ _ _ _ (h _ (g2.tr ((((Ag.iv (by simp [mBk])).tr (Ag.iv (by simp [mBk]))).tr (Ag.iv (by simp [mBk]))).tr (Ag.iv (by simp [mBk])))) ⟨e5, ?_, ?_, iv_at, fun a ha => ⟨?_, ?_, ?_⟩, fun a b ha hb => ?_⟩)
      · rw [iv_ne (by omega), iv_ne (by omega), iv_at]
      · rw [iv_ne (by omega), iv_at]
      · rw [iv_ne (by omega), iv_ne (by omega), iv_ne (by omega), iv_ne (by omega), g2.1 44 0 _ (by simp [mBk]), hk a ha]
        exact (hM.2.2.2.2.1 a (by omega)).1
      · rw [iv_ne (by omega), iv_ne (by omega), iv_ne (by omega), iv_ne (by omega), a1 _ (by omega)]
        exact (i5 a ha).1
      · rw [iv_ne (by omega), iv_ne (by omega), iv_ne (by omega), iv_ne (by omega), a1 _ (by omega)]
        exact (i5 a ha).2
      · rw [iv_ne (by omega), iv_ne (by omega), iv_ne (by omega), iv_ne (by omega), g1.1 46 0 _ (by simp), a0 _ (by omega)]
        exact i6 a b ha hb
    · intro p hp ih S1 g1 a1
      have hN := (hN0.up g0).up g1
      rw [nI_succ p] at ih
      refine hP _ _ _ _ _ _ (And.intro (fun hc => absurd hc (nI_ge (b := 10) hp (by decide))) (fun _ => ?_))
      repeat (first | (refine hP _ _ _ _ _ _ ?_; show P _ _ _ _ _ _) | (refine hP _ _ _ _ _ _ (And.intro (hN _ _ _ rfl) ?_); show P _ _ (aR _ _ :: _) _ _ _))
      refine hP _ _ _ _ _ _ (Exists.intro (p) (And.intro (And.intro (rfl) (hp)) ?_))
      repeat (first | (refine hP _ _ _ _ _ _ ?_; show P _ _ _ _ _ _) | (refine hP _ _ _ _ _ _ (And.intro (hN _ _ _ rfl) ?_); show P _ _ (aR _ _ :: _) _ _ _))
      refine hP _ _ _ _ _ _ (Exists.intro (p) (And.intro (And.intro (rfl) (hp)) ?_))
      show P _ _ _ (ivSet S1 45 0 p (S1.1 54 0 p)) _ _
      have := ih (ivSet S1 45 0 p (S1.1 54 0 p)) (g1.tr (Ag.iv rfl)) (fun q hq => by
        by_cases e : q = p
        · rw [e, iv_at, g1.1 54 0 p (by simp), g0.1 54 0 p (by simp [mBk])]
        · rw [iv_ne (by omega)]
          exact a1 q (by omega))
      repeat (first | (refine hP _ _ _ _ _ _ ?_; show P _ _ _ _ _ _) | (refine hP _ _ _ _ _ _ (And.intro (hN _ _ _ rfl) ?_); show P _ _ (aR _ _ :: _) _ _ _))
      exact this
  have loop1 : ∀ p, p ≤ 25 → ∀ S1, Ag (fun j g k => j = 46) S S1 → (∀ q, q < p → S1.1 46 0 q = S.1 53 0 q) → P 16 [some (aR 40 0), some (aI (nI p))] [aI 25, aI (nI p)] S1 0 0 := by
    refine dn ?_ ?_
    · intro S1 g1 a1
      have hN := hN0.up g1
      have := loop2 S1 (g1.mono (fun j g k z => by simp only [mBk]; omega)) a1 0 (by omega) S1 (Ag.rf _ _) (fun q hq => by omega)
      refine hP _ _ _ _ _ _ (And.intro (fun _ => ?_) (fun hc => absurd (nI_le (Nat.le_refl 25) (by decide)) hc))
      repeat (first | (refine hP _ _ _ _ _ _ ?_; show P _ _ _ _ _ _) | (refine hP _ _ _ _ _ _ (And.intro (hN _ _ _ rfl) ?_); show P _ _ (aR _ _ :: _) _ _ _))
      exact this
    · intro p hp ih S1 g1 a1
      have hN := hN0.up g1
      rw [nI_succ p] at ih
      refine hP _ _ _ _ _ _ (And.intro (fun hc => absurd hc (nI_ge (b := 25) hp (by decide))) (fun _ => ?_))
      repeat (first | (refine hP _ _ _ _ _ _ ?_; show P _ _ _ _ _ _) | (refine hP _ _ _ _ _ _ (And.intro (hN _ _ _ rfl) ?_); show P _ _ (aR _ _ :: _) _ _ _))
      refine hP _ _ _ _ _ _ (Exists.intro (p) (And.intro (And.intro (rfl) (hp)) ?_))
      repeat (first | (refine hP _ _ _ _ _ _ ?_; show P _ _ _ _ _ _) | (refine hP _ _ _ _ _ _ (And.intro (hN _ _ _ rfl) ?_); show P _ _ (aR _ _ :: _) _ _ _))
      refine hP _ _ _ _ _ _ (Exists.intro (p) (And.intro (And.intro (rfl) (hp)) ?_))
      show P _ _ _ (ivSet S1 46 0 p (S1.1 53 0 p)) _ _
      have := ih (ivSet S1 46 0 p (S1.1 53 0 p)) (g1.tr (Ag.iv rfl)) (fun q hq => by
        by_cases e : q = p
        · rw [e, iv_at, g1.1 53 0 p (by simp)]
        · rw [iv_ne (by omega)]
          exact a1 q (by omega))
      repeat (first | (refine hP _ _ _ _ _ _ ?_; show P _ _ _ _ _ _) | (refine hP _ _ _ _ _ _ (And.intro (hN _ _ _ rfl) ?_); show P _ _ (aR _ _ :: _) _ _ _))
      exact this
  repeat (first | (refine hP _ _ _ _ _ _ ?_; show P _ _ _ _ _ _) | (refine hP _ _ _ _ _ _ (And.intro (hN _ _ _ rfl) ?_); show P _ _ (aR _ _ :: _) _ _ _))
  rw [i1]
  have hne : ¬ nI G.n = -1 := fun z => by
    have := congrArg Int32.toInt z
    rw [nI_toInt (by omega)] at this
    have e : (-1 : Int32).toInt = -1 := by decide
    omega
  refine hP _ _ _ _ _ _ (And.intro (fun _ => ?_) (fun hc => absurd hc hne))
  repeat (first | (refine hP _ _ _ _ _ _ ?_; show P _ _ _ _ _ _) | (refine hP _ _ _ _ _ _ (And.intro (hN _ _ _ rfl) ?_); show P _ _ (aR _ _ :: _) _ _ _))
  exact loop1 0 (by omega) S (Ag.rf _ _) (fun q hq => by omega)
theorem PV.bk {F G : Fl} {nT : Nat} (h : PV F (some G) nT) : PV G (some G) nT := by
  obtain ⟨a1, a2, a3, a4, a5⟩ := h.2.2.2 G rfl
  refine ⟨a1, a2, a3, fun H hH => ?_⟩
  simp only [Option.some.injEq] at hH
  subst hH
  exact ⟨a1, a2, a3, Nat.le_refl _, fun _ _ => rfl⟩
theorem op_back : OpA m_X5_back m_X6_back [] isI := by
  intro d S K hd hT hK
  obtain ⟨F, I, sh, T, nT, tb, hT⟩ := hT
  have hX := hT.fx
  refine Call.of (k := 199) hd (fun e he P hP => ?_)
  have hN := hX.1.1
  cases I with
  | none =>
    have i1 : S.1 0 0 6 = 0 := hT.2.2.2.1.2.2.2.2.1
    have fin := hK S (aI (-3)) ⟨_, rfl⟩ (by omega) (fun d' K' hd' hK' => n_back0 (by omega) hN hT.2.2.2.2.2.2.2.1 (hK' S ⟨F, none, sh, T, nT, tb, hT⟩))
    repeat (first | (refine hP _ _ _ _ _ _ ?_; show P _ _ _ _ _ _) | (refine hP _ _ _ _ _ _ (And.intro (hN _ _ _ rfl) ?_); show P _ _ (aR _ _ :: _) _ _ _))
    rw [i1]
    refine hP _ _ _ _ _ _ (And.intro (fun hc => absurd hc (fun z => z rfl)) (fun _ => ?_))
    repeat (first | (refine hP _ _ _ _ _ _ ?_; show P _ _ _ _ _ _) | (refine hP _ _ _ _ _ _ (And.intro (hN _ _ _ rfl) ?_); show P _ _ (aR _ _ :: _) _ _ _))
    exact hP _ _ _ _ _ _ (fin)
  | some G =>
    obtain ⟨i1, i2, i3⟩ : IMc S (some G) := hT.2.2.2.1.2.2.2.2.1
    obtain ⟨p1, p2, p3, p4, p5⟩ := hT.2.1.2.2.2 G rfl
    repeat (first | (refine hP _ _ _ _ _ _ ?_; show P _ _ _ _ _ _) | (refine hP _ _ _ _ _ _ (And.intro (hN _ _ _ rfl) ?_); show P _ _ (aR _ _ :: _) _ _ _))
    rw [i1]
    refine hP _ _ _ _ _ _ (And.intro (fun _ => ?_) (fun hc => absurd hc (by decide)))
    repeat (first | (refine hP _ _ _ _ _ _ ?_; show P _ _ _ _ _ _) | (refine hP _ _ _ _ _ _ (And.intro (hN _ _ _ rfl) ?_); show P _ _ (aR _ _ :: _) _ _ _))
    refine hP _ _ _ _ _ _ (q_takeFrom (by omega) hN (by decide) (fun S1 g1 ht => ?_))
    have hN := hN.up g1
    have hF := i2.tk p1.1 ht
    have hz := zB.tk i3 ht
    have g1' : Ag wFl S S1 := g1.mono (fun j g k z => by simp only [wTk] at z; simp only [wFl]; omega)
    repeat (first | (refine hP _ _ _ _ _ _ ?_; show P _ _ _ _ _ _) | (refine hP _ _ _ _ _ _ (And.intro (hN _ _ _ rfl) ?_); show P _ _ (aR _ _ :: _) _ _ _))
    rw [hF.1]
    refine hP _ _ _ _ _ _ (hK _ _ ⟨_, rfl⟩ (by rw [g1.2]; omega) (fun d' K' hd' hK' => ?_))
    have hM := hT.m2 g1'
    have hI : IMm S1 (some G) := hT.2.2.2.2.2.2.2.1.up (fun j g k a => g1.1 j g k (by simp only [wTk]; omega))
    refine n_back (by omega) hM.1.1 p1.1 hI hM.2.1 p4 p5 (fun S2 g2 hM2 => hK' S2 ⟨G, some G, sh, T, nT, tb, ?_⟩)
    exact hT.fl2 g1' hF hz (g2.mono (fun j g k z => by simp only [mBk] at z; simp only [mFl]; omega)) hM2 hT.2.1.bk
