/-! film -/
theorem byN_id : ∀ p, p < 128 → (nI p).toInt8.toInt32 = nI p := by decide
theorem wSH_ok : okW wSH := by
  intro j g k hj
  simp only [wSH] at hj
  omega
theorem wSH_F (f : Nat) : okF wSH f := by
  intro j k hj
  simp only [wSH] at hj
  omega
theorem mSH_ok : okM mSH := by
  intro j g k hj
  simp only [mSH] at hj
  omega
theorem mSH_G : okG mSH := by
  intro j g k hj
  simp only [mSH] at hj
  omega
theorem c_film {tv : TV} {nT d g a b n : Nat} {S : St} {K : KT} {F : Fl} (hd : 100 ≤ d) (hX : FX tv nT S 0 F) (hg : g < 4) (ha : a < F.n) (hb : b < F.n) (hab : ¬ a = b) (hn : n ≤ 30) (hp : ∀ o, o ≤ 30 → pyN tv F a o ≤ o) (h : ∀ S', Ag (fun j i k => j = 4 ∨ j = 5 ∨ (i = g ∧ (j = 20 ∨ j = 21))) S S' → S'.1 20 g 0 = 0 → S'.1 20 g 1 = nI n → (∀ k, k < n → S'.1 21 g k = nI (pyN tv F a k)) → K (some (aI (nI (sN (pyN tv F a) n)))) S') : Call d m_X5_film [aR 0 0, aI (nI g), aI (nI a), aI (nI b), aI (nI n)] S K := by
  refine Call.of (k := 99) hd (fun e he P hP => ?_)
  have hN := hX.1.1
  have hn5 := hX.2.2.1
  repeat (first | (refine hP _ _ _ _ _ _ ?_; show P _ _ _ _ _ _) | (refine hP _ _ _ _ _ _ (And.intro (hN _ _ _ rfl) ?_); show P _ _ (aR _ _ :: _) _ _ _))
  refine hP _ _ _ _ _ _ (c_isSheet (by omega) ?_)
  rw [isD_N (by omega) (by omega), decide_eq_true hg]
  repeat (first | (refine hP _ _ _ _ _ _ ?_; show P _ _ _ _ _ _) | (refine hP _ _ _ _ _ _ (And.intro (hN _ _ _ rfl) ?_); show P _ _ (aR _ _ :: _) _ _ _) | refine hP _ _ _ _ _ _ (And.intro (fun _ => ?_) (fun hc => absurd hc (by decide))) | refine hP _ _ _ _ _ _ (And.intro (fun hc => absurd hc (by decide)) (fun _ => ?_)))
  refine hP _ _ _ _ _ _ (c_isTwo (by omega) hN hX.2.1.1 hn5 ?_)
  rw [isT_n hn5 (by omega) (by omega), decide_eq_true ha, decide_eq_true hb, decide_eq_true hab]
  repeat (first | (refine hP _ _ _ _ _ _ ?_; show P _ _ _ _ _ _) | (refine hP _ _ _ _ _ _ (And.intro (hN _ _ _ rfl) ?_); show P _ _ (aR _ _ :: _) _ _ _) | refine hP _ _ _ _ _ _ (And.intro (fun _ => ?_) (fun hc => absurd hc (by decide))) | refine hP _ _ _ _ _ _ (And.intro (fun hc => absurd hc (by decide)) (fun _ => ?_)))
  refine hP _ _ _ _ _ _ (And.intro (fun hc => absurd hc (nI_pos (by omega))) (fun _ => ?_))
  repeat (first | (refine hP _ _ _ _ _ _ ?_; show P _ _ _ _ _ _) | (refine hP _ _ _ _ _ _ (And.intro (hN _ _ _ rfl) ?_); show P _ _ (aR _ _ :: _) _ _ _))
  refine hP _ _ _ _ _ _ (And.intro (fun _ => ?_) (fun hc => absurd (nI_le (a := n) (b := 30) hn (by omega)) hc))
  repeat (first | (refine hP _ _ _ _ _ _ ?_; show P _ _ _ _ _ _) | (refine hP _ _ _ _ _ _ (And.intro (hN _ _ _ rfl) ?_); show P _ _ (aR _ _ :: _) _ _ _))
  refine hP _ _ _ _ _ _ (Exists.intro (g) (And.intro (And.intro (rfl) (show g < 4 from hg)) ?_))
  refine And.intro (hN _ _ _ (nn18 hg)) ?_
  show P _ _ (aR 20 g :: _) _ _ _
  repeat (first | (refine hP _ _ _ _ _ _ ?_; show P _ _ _ _ _ _) | (refine hP _ _ _ _ _ _ (And.intro (hN _ _ _ rfl) ?_); show P _ _ (aR _ _ :: _) _ _ _))
  refine hP _ _ _ _ _ _ (c_become (by omega) hN (fun S0 g0 a1 a2 a3 => ?_))
  have g0 : Ag (fun j i k => j = 4 ∨ j = 5 ∨ (i = g ∧ (j = 20 ∨ j = 21))) S S0 := g0.mono (fun j i k z => Or.inr (Or.inr z))
  have wsh : ∀ j i k, (fun j i _ => j = 4 ∨ j = 5 ∨ (i = g ∧ (j = 20 ∨ j = 21)) : WW) j i k → wSH j i k := fun j i k z => by
    simp only [wSH]
    omega
  have loop : ∀ p, p ≤ n → ∀ S1 x8, Ag (fun j i k => j = 4 ∨ j = 5 ∨ (i = g ∧ j = 21)) S0 S1 → (∀ k, k < p → S1.1 21 g k = nI (pyN tv F a k)) → P 57 [some (aR 0 0), some (aI (nI g)), some (aI (nI a)), some (aI (nI b)), some (aI (nI n)), some (aR 20 g), some (aI (nI (sN (pyN tv F a) p))), some (aI (nI p)), x8] [aI (nI n), aI (nI p)] S1 0 0 := by
    refine dn ?_ ?_
    · intro S1 x8 g1 c1
      refine hP _ _ _ _ _ _ (And.intro (fun _ => ?_) (fun hc => absurd (nI_le (Nat.le_refl n) (by omega)) hc))
      repeat (first | (refine hP _ _ _ _ _ _ ?_; show P _ _ _ _ _ _) | (refine hP _ _ _ _ _ _ (And.intro (hN _ _ _ rfl) ?_); show P _ _ (aR _ _ :: _) _ _ _))
      exact hP _ _ _ _ _ _ (h S1 (g0.tr (g1.mono (fun j i k z => by omega))) (by rw [g1.1 20 g 0 (by simp)]; exact a1) (by rw [g1.1 20 g 1 (by simp)]; exact a2) c1)
    · intro p hpn ih S1 x8 g1 c1
      have hX1 := (hX.up (g0.mono wsh) wSH_ok (wSH_F 0)).up (g1.mono (fun j i k z => by simp only [wSH]; omega)) wSH_ok (wSH_F 0)
      have hN := hX1.1.1
      have hpy := hp p (by omega)
      rw [nI_succ p] at ih
      refine hP _ _ _ _ _ _ (And.intro (fun hc => absurd hc (nI_ge hpn (by omega))) (fun _ => ?_))
      repeat (first | (refine hP _ _ _ _ _ _ ?_; show P _ _ _ _ _ _) | (refine hP _ _ _ _ _ _ (And.intro (hN _ _ _ rfl) ?_); show P _ _ (aR _ _ :: _) _ _ _))
      refine hP _ _ _ _ _ _ (q_pays (by omega) hX1 ha (fun S2 g2 => ?_))
      have hN := hX1.1.1.up g2
      have e20 : S2.1 20 g 0 = nI 1 - 1 := by
        rw [g2.1 20 g 0 (by simp [w0]), g1.1 20 g 0 (by simp)]
        exact a1
      repeat (first | (refine hP _ _ _ _ _ _ ?_; show P _ _ _ _ _ _) | (refine hP _ _ _ _ _ _ (And.intro (hN _ _ _ rfl) ?_); show P _ _ (aR _ _ :: _) _ _ _))
      refine hP _ _ _ _ _ _ (c_put (s := 1) (by omega) hN e20 (by omega) (by omega) (by omega) ?_)
      have ev : nrw 1 (nI (pyN tv F a p)) = nI (pyN tv F a p) := byN_id _ (by omega)
      rw [ev]
      have := ih (ivSet S2 21 g p (nI (pyN tv F a p))) (some (aI (nI (pyN tv F a p)))) ((g1.tr (g2.mono (fun j i k z => by simp only [w0] at z; omega))).tr (Ag.iv (Or.inr (Or.inr ⟨rfl, rfl⟩)))) (fun k hk => by
        by_cases e : k = p
        · rw [e, iv_at]
        · rw [iv_ne (by omega), g2.1 21 g k (by simp [w0])]
          exact c1 k (by omega))
      rw [show sN (pyN tv F a) (p + 1) = sN (pyN tv F a) p + pyN tv F a p from rfl, ← nI_add] at this
      repeat (first | (refine hP _ _ _ _ _ _ ?_; show P _ _ _ _ _ _) | (refine hP _ _ _ _ _ _ (And.intro (hN _ _ _ rfl) ?_); show P _ _ (aR _ _ :: _) _ _ _))
      exact this
  repeat (first | (refine hP _ _ _ _ _ _ ?_; show P _ _ _ _ _ _) | (refine hP _ _ _ _ _ _ (And.intro (hN _ _ _ rfl) ?_); show P _ _ (aR _ _ :: _) _ _ _))
  exact loop 0 (by omega) S0 none (Ag.rf _ _) (fun k hk => by omega)
theorem n_film {tv : TV} {nT d g a b n : Nat} {S : St} {K : KT} {F : Fl} (hd : 150 ≤ d) (hX : MX tv nT S F) (hg : g < 4) (ha : a < F.n) (hb : b < F.n) (hab : ¬ a = b) (hn : n ≤ 30) (h : ∀ S', Ag (fun j i k => m0 j i k ∨ mS1 g j i k) S S' → S'.1 55 0 g = 1 → S'.1 56 0 g = 0 → S'.1 57 0 g = nI n → (∀ k, k < n → S'.1 58 0 (40 * g + k) = nI (pyN tv F a k)) → K (some (aI (nI (sN (pyN tv F a) n)))) S') : Call d m_X6_film [aR 40 0, aI (nI g), aI (nI a), aI (nI b), aI (nI n)] S K := by
  refine Call.of (k := 149) hd (fun e he P hP => ?_)
  have hN := hX.1.1
  have hn5 := hX.2.2.1
  repeat (first | (refine hP _ _ _ _ _ _ ?_; show P _ _ _ _ _ _) | (refine hP _ _ _ _ _ _ (And.intro (hN _ _ _ rfl) ?_); show P _ _ (aR _ _ :: _) _ _ _))
  refine hP _ _ _ _ _ _ (n_isSheet (by omega) ?_)
  rw [isD_N (by omega) (by omega), decide_eq_true hg]
  repeat (first | (refine hP _ _ _ _ _ _ ?_; show P _ _ _ _ _ _) | (refine hP _ _ _ _ _ _ (And.intro (hN _ _ _ rfl) ?_); show P _ _ (aR _ _ :: _) _ _ _) | refine hP _ _ _ _ _ _ (And.intro (fun _ => ?_) (fun hc => absurd hc (by decide))) | refine hP _ _ _ _ _ _ (And.intro (fun hc => absurd hc (by decide)) (fun _ => ?_)))
  refine hP _ _ _ _ _ _ (n_areTwo (by omega) hX.2.1.1 hn5 ?_)
  rw [isT_n hn5 (by omega) (by omega), decide_eq_true ha, decide_eq_true hb, decide_eq_true hab]
  repeat (first | (refine hP _ _ _ _ _ _ ?_; show P _ _ _ _ _ _) | (refine hP _ _ _ _ _ _ (And.intro (hN _ _ _ rfl) ?_); show P _ _ (aR _ _ :: _) _ _ _) | refine hP _ _ _ _ _ _ (And.intro (fun _ => ?_) (fun hc => absurd hc (by decide))) | refine hP _ _ _ _ _ _ (And.intro (fun hc => absurd hc (by decide)) (fun _ => ?_)))
  refine hP _ _ _ _ _ _ (n_in0 (m := 30) (by omega) (by omega) ?_)
  rw [isD_N (by omega) (by omega), decide_eq_true (by omega)]
  repeat (first | (refine hP _ _ _ _ _ _ ?_; show P _ _ _ _ _ _) | (refine hP _ _ _ _ _ _ (And.intro (hN _ _ _ rfl) ?_); show P _ _ (aR _ _ :: _) _ _ _) | refine hP _ _ _ _ _ _ (And.intro (fun _ => ?_) (fun hc => absurd hc (by decide))) | refine hP _ _ _ _ _ _ (And.intro (fun hc => absurd hc (by decide)) (fun _ => ?_)))
  refine hP _ _ _ _ _ _ (n_sheetx (u := 0) (by omega) hN hg (by omega) (by omega) (fun S0 g0 a1 a2 a3 a4 => ?_))
  have sub : ∀ j i k, (fun j i k => m0 j i k ∨ mS1 g j i k : WW) j i k → mSH j i k := fun j i k z => by
    simp only [m0, mS1] at z
    simp only [mSH]
    omega
  have g0 : Ag (fun j i k => m0 j i k ∨ mS1 g j i k) S S0 := g0.mono (fun j i k z => Or.inr z)
  have loop : ∀ p, p ≤ n → ∀ S1, Ag (fun j _ i => m0 j 0 i ∨ (j = 58 ∧ 40 * g ≤ i ∧ i < 40 * g + 40)) S0 S1 → (∀ k, k < p → S1.1 58 0 (40 * g + k) = nI (pyN tv F a k)) → P 51 [some (aR 40 0), some (aI (nI g)), some (aI (nI a)), some (aI (nI b)), some (aI (nI n)), some (aI (nI (sN (pyN tv F a) p))), some (aI (nI p))] [aI (nI n), aI (nI p)] S1 0 0 := by
    refine dn ?_ ?_
    · intro S1 g1 c1
      refine hP _ _ _ _ _ _ (And.intro (fun _ => ?_) (fun hc => absurd (nI_le (Nat.le_refl n) (by omega)) hc))
      repeat (first | (refine hP _ _ _ _ _ _ ?_; show P _ _ _ _ _ _) | (refine hP _ _ _ _ _ _ (And.intro (hN _ _ _ rfl) ?_); show P _ _ (aR _ _ :: _) _ _ _))
      exact hP _ _ _ _ _ _ (h S1 (g0.tr (g1.mono (fun j i k z => by simp only [m0] at z; simp only [m0, mS1]; omega))) (by rw [g1.1 55 0 g (by simp [m0])]; exact a1) (by rw [g1.1 56 0 g (by simp [m0])]; exact a2) (by rw [g1.1 57 0 g (by simp [m0])]; exact a3) c1)
    · intro p hpn ih S1 g1 c1
      have hX1 := (hX.up (g0.mono sub) mSH_ok mSH_G).up (g1.mono (fun j i k z => by simp only [m0] at z; simp only [mSH]; omega)) mSH_ok mSH_G
      have hN := hX1.1.1
      rw [nI_succ p] at ih
      refine hP _ _ _ _ _ _ (And.intro (fun hc => absurd hc (nI_ge hpn (by omega))) (fun _ => ?_))
      repeat (first | (refine hP _ _ _ _ _ _ ?_; show P _ _ _ _ _ _) | (refine hP _ _ _ _ _ _ (And.intro (hN _ _ _ rfl) ?_); show P _ _ (aR _ _ :: _) _ _ _))
      refine hP _ _ _ _ _ _ (n_paysOf (by omega) hX1 ha (by omega) (fun S2 g2 => ?_))
      have hX2 := hX1.sc g2
      have hN := hX2.1.1
      repeat (first | (refine hP _ _ _ _ _ _ ?_; show P _ _ _ _ _ _) | (refine hP _ _ _ _ _ _ (And.intro (hN _ _ _ rfl) ?_); show P _ _ (aR _ _ :: _) _ _ _))
      refine hP _ _ _ _ _ _ (Exists.intro (40 * g + p) (And.intro (And.intro (jx40 g p) (by show 40 * g + p < 160; omega)) ?_))
      show P _ _ _ (ivSet S2 58 0 (40 * g + p) (nI (pyN tv F a p))) _ _
      have hX3 := hX2.up (W := mSH) (Ag.iv (j := 58) (g := 0) (k := 40 * g + p) (v := nI (pyN tv F a p)) (Or.inr ⟨by omega, by omega⟩)) mSH_ok mSH_G
      have hN := hX3.1.1
      repeat (first | (refine hP _ _ _ _ _ _ ?_; show P _ _ _ _ _ _) | (refine hP _ _ _ _ _ _ (And.intro (hN _ _ _ rfl) ?_); show P _ _ (aR _ _ :: _) _ _ _))
      refine hP _ _ _ _ _ _ (n_paysOf (by omega) hX3 ha (by omega) (fun S4 g4 => ?_))
      have hN := hX3.1.1.up g4
      have := ih S4 (((g1.tr (g2.mono (fun j i k z => by simp only [m0] at z; simp only [m0]; omega))).tr (Ag.iv (j := 58) (g := 0) (k := 40 * g + p) (v := nI (pyN tv F a p)) (Or.inr ⟨rfl, by omega, by omega⟩))).tr (g4.mono (fun j i k z => by simp only [m0] at z; simp only [m0]; omega))) (fun k hk => by
        rw [g4.1 58 0 _ (by simp [m0])]
        by_cases e : k = p
        · rw [e, iv_at]
        · rw [iv_ne (by omega), g2.1 58 0 _ (by simp [m0])]
          exact c1 k (by omega))
      rw [show sN (pyN tv F a) (p + 1) = sN (pyN tv F a) p + pyN tv F a p from rfl, ← nI_add] at this
      repeat (first | (refine hP _ _ _ _ _ _ ?_; show P _ _ _ _ _ _) | (refine hP _ _ _ _ _ _ (And.intro (hN _ _ _ rfl) ?_); show P _ _ (aR _ _ :: _) _ _ _))
      exact this
  have hN := (hX.1.1.up g0)
  repeat (first | (refine hP _ _ _ _ _ _ ?_; show P _ _ _ _ _ _) | (refine hP _ _ _ _ _ _ (And.intro (hN _ _ _ rfl) ?_); show P _ _ (aR _ _ :: _) _ _ _))
  exact loop 0 (by omega) S0 (Ag.rf _ _) (fun k hk => by omega)
theorem op_film (x y z n : Int32) : OpA m_X5_film m_X6_film [aI x, aI y, aI z, aI n] isI := by
  intro d S K hd hT hK
  obtain ⟨F, I, sh, T, nT, tb, hT⟩ := hT
  have hX := hT.fx
  have hM := hT.m1 (Ag.rf wTH S)
  have hn5 := hX.2.2.1
  have hN0 := hX.1.1
  have hc0 := hT.2.2.2.1.2.2.2.2.2.1
  have hm0 := hT.2.2.2.2.2.2.2.2.1
  have hcl : ∀ i, i < 4 → (sh i).2.1 ≤ 40 := fun i hi => (hc0 i hi).2.2.2.1
  have hTT : TTx S := ⟨F, I, sh, T, nT, tb, hT⟩
  have bad : (isD 4 x = false ∨ (isD 4 x = true ∧ isT F.n y z = false) ∨ (isD 4 x = true ∧ isT F.n y z = true ∧ isD 31 n = false)) → Call d m_X5_film [aR 0 0, aI x, aI y, aI z, aI n] S K := by
    intro hb
    have fin := hK S (aI (-2)) ⟨_, rfl⟩ (by omega) (fun d' K' hd' hK' => by
      have hK' := hK' S hTT
      refine Call.of (k := 199) hd' (fun e he P hP => ?_)
      have hN := hN0
      repeat (first | (refine hP _ _ _ _ _ _ ?_; show P _ _ _ _ _ _) | (refine hP _ _ _ _ _ _ (And.intro (hN _ _ _ rfl) ?_); show P _ _ (aR _ _ :: _) _ _ _))
      refine hP _ _ _ _ _ _ (n_isSheet (by omega) ?_)
      rcases hb with w | ⟨w1, w⟩ | ⟨w1, w2, w⟩
      · rw [w]
        repeat (first | (refine hP _ _ _ _ _ _ ?_; show P _ _ _ _ _ _) | (refine hP _ _ _ _ _ _ (And.intro (hN _ _ _ rfl) ?_); show P _ _ (aR _ _ :: _) _ _ _) | refine hP _ _ _ _ _ _ (And.intro (fun _ => ?_) (fun hc => absurd hc (by decide))) | refine hP _ _ _ _ _ _ (And.intro (fun hc => absurd hc (by decide)) (fun _ => ?_)))
        exact hP _ _ _ _ _ _ (hK')
      · rw [w1]
        repeat (first | (refine hP _ _ _ _ _ _ ?_; show P _ _ _ _ _ _) | (refine hP _ _ _ _ _ _ (And.intro (hN _ _ _ rfl) ?_); show P _ _ (aR _ _ :: _) _ _ _) | refine hP _ _ _ _ _ _ (And.intro (fun _ => ?_) (fun hc => absurd hc (by decide))) | refine hP _ _ _ _ _ _ (And.intro (fun hc => absurd hc (by decide)) (fun _ => ?_)))
        refine hP _ _ _ _ _ _ (n_areTwo (by omega) hM.2.1.1 hn5 ?_)
        rw [w]
        repeat (first | (refine hP _ _ _ _ _ _ ?_; show P _ _ _ _ _ _) | (refine hP _ _ _ _ _ _ (And.intro (hN _ _ _ rfl) ?_); show P _ _ (aR _ _ :: _) _ _ _) | refine hP _ _ _ _ _ _ (And.intro (fun _ => ?_) (fun hc => absurd hc (by decide))) | refine hP _ _ _ _ _ _ (And.intro (fun hc => absurd hc (by decide)) (fun _ => ?_)))
        exact hP _ _ _ _ _ _ (hK')
      · rw [w1]
        repeat (first | (refine hP _ _ _ _ _ _ ?_; show P _ _ _ _ _ _) | (refine hP _ _ _ _ _ _ (And.intro (hN _ _ _ rfl) ?_); show P _ _ (aR _ _ :: _) _ _ _) | refine hP _ _ _ _ _ _ (And.intro (fun _ => ?_) (fun hc => absurd hc (by decide))) | refine hP _ _ _ _ _ _ (And.intro (fun hc => absurd hc (by decide)) (fun _ => ?_)))
        refine hP _ _ _ _ _ _ (n_areTwo (by omega) hM.2.1.1 hn5 ?_)
        rw [w2]
        repeat (first | (refine hP _ _ _ _ _ _ ?_; show P _ _ _ _ _ _) | (refine hP _ _ _ _ _ _ (And.intro (hN _ _ _ rfl) ?_); show P _ _ (aR _ _ :: _) _ _ _) | refine hP _ _ _ _ _ _ (And.intro (fun _ => ?_) (fun hc => absurd hc (by decide))) | refine hP _ _ _ _ _ _ (And.intro (fun hc => absurd hc (by decide)) (fun _ => ?_)))
        refine hP _ _ _ _ _ _ (n_in0 (m := 30) (by omega) (by omega) ?_)
        rw [w]
        repeat (first | (refine hP _ _ _ _ _ _ ?_; show P _ _ _ _ _ _) | (refine hP _ _ _ _ _ _ (And.intro (hN _ _ _ rfl) ?_); show P _ _ (aR _ _ :: _) _ _ _) | refine hP _ _ _ _ _ _ (And.intro (fun _ => ?_) (fun hc => absurd hc (by decide))) | refine hP _ _ _ _ _ _ (And.intro (fun hc => absurd hc (by decide)) (fun _ => ?_)))
        exact hP _ _ _ _ _ _ (hK'))
    refine Call.of (k := 199) hd (fun e he P hP => ?_)
    have hN := hN0
    repeat (first | (refine hP _ _ _ _ _ _ ?_; show P _ _ _ _ _ _) | (refine hP _ _ _ _ _ _ (And.intro (hN _ _ _ rfl) ?_); show P _ _ (aR _ _ :: _) _ _ _))
    refine hP _ _ _ _ _ _ (c_isSheet (by omega) ?_)
    rcases hb with w | ⟨w1, w⟩ | ⟨w1, w2, w⟩
    · rw [w]
      repeat (first | (refine hP _ _ _ _ _ _ ?_; show P _ _ _ _ _ _) | (refine hP _ _ _ _ _ _ (And.intro (hN _ _ _ rfl) ?_); show P _ _ (aR _ _ :: _) _ _ _) | refine hP _ _ _ _ _ _ (And.intro (fun _ => ?_) (fun hc => absurd hc (by decide))) | refine hP _ _ _ _ _ _ (And.intro (fun hc => absurd hc (by decide)) (fun _ => ?_)))
      exact hP _ _ _ _ _ _ (fin)
    · rw [w1]
      repeat (first | (refine hP _ _ _ _ _ _ ?_; show P _ _ _ _ _ _) | (refine hP _ _ _ _ _ _ (And.intro (hN _ _ _ rfl) ?_); show P _ _ (aR _ _ :: _) _ _ _) | refine hP _ _ _ _ _ _ (And.intro (fun _ => ?_) (fun hc => absurd hc (by decide))) | refine hP _ _ _ _ _ _ (And.intro (fun hc => absurd hc (by decide)) (fun _ => ?_)))
      refine hP _ _ _ _ _ _ (c_isTwo (by omega) hN hX.2.1.1 hn5 ?_)
      rw [w]
      repeat (first | (refine hP _ _ _ _ _ _ ?_; show P _ _ _ _ _ _) | (refine hP _ _ _ _ _ _ (And.intro (hN _ _ _ rfl) ?_); show P _ _ (aR _ _ :: _) _ _ _) | refine hP _ _ _ _ _ _ (And.intro (fun _ => ?_) (fun hc => absurd hc (by decide))) | refine hP _ _ _ _ _ _ (And.intro (fun hc => absurd hc (by decide)) (fun _ => ?_)))
      exact hP _ _ _ _ _ _ (fin)
    · rw [w1]
      repeat (first | (refine hP _ _ _ _ _ _ ?_; show P _ _ _ _ _ _) | (refine hP _ _ _ _ _ _ (And.intro (hN _ _ _ rfl) ?_); show P _ _ (aR _ _ :: _) _ _ _) | refine hP _ _ _ _ _ _ (And.intro (fun _ => ?_) (fun hc => absurd hc (by decide))) | refine hP _ _ _ _ _ _ (And.intro (fun hc => absurd hc (by decide)) (fun _ => ?_)))
      refine hP _ _ _ _ _ _ (c_isTwo (by omega) hN hX.2.1.1 hn5 ?_)
      rw [w2]
      repeat (first | (refine hP _ _ _ _ _ _ ?_; show P _ _ _ _ _ _) | (refine hP _ _ _ _ _ _ (And.intro (hN _ _ _ rfl) ?_); show P _ _ (aR _ _ :: _) _ _ _) | refine hP _ _ _ _ _ _ (And.intro (fun _ => ?_) (fun hc => absurd hc (by decide))) | refine hP _ _ _ _ _ _ (And.intro (fun hc => absurd hc (by decide)) (fun _ => ?_)))
      rcases rng (x := n) (n := 31) (by omega) with ⟨hf, h0 | ⟨h0, h1⟩⟩ | ⟨u, hu, hf, rfl⟩
      · refine hP _ _ _ _ _ _ (And.intro (fun _ => ?_) (fun hc => absurd h0 hc))
        repeat (first | (refine hP _ _ _ _ _ _ ?_; show P _ _ _ _ _ _) | (refine hP _ _ _ _ _ _ (And.intro (hN _ _ _ rfl) ?_); show P _ _ (aR _ _ :: _) _ _ _))
        exact hP _ _ _ _ _ _ (fin)
      · refine hP _ _ _ _ _ _ (And.intro (fun hc => absurd hc h0) (fun _ => ?_))
        repeat (first | (refine hP _ _ _ _ _ _ ?_; show P _ _ _ _ _ _) | (refine hP _ _ _ _ _ _ (And.intro (hN _ _ _ rfl) ?_); show P _ _ (aR _ _ :: _) _ _ _))
        refine hP _ _ _ _ _ _ (And.intro (fun hc => absurd (Int32.le_trans h1 hc) (nI_ge (a := 30) (b := 31) (by decide) (by decide))) (fun _ => ?_))
        repeat (first | (refine hP _ _ _ _ _ _ ?_; show P _ _ _ _ _ _) | (refine hP _ _ _ _ _ _ (And.intro (hN _ _ _ rfl) ?_); show P _ _ (aR _ _ :: _) _ _ _))
        exact hP _ _ _ _ _ _ (fin)
      · rw [hf] at w
        cases w
  cases h1 : isD 4 x with
  | false => exact bad (Or.inl h1)
  | true =>
    cases h2 : isT F.n y z with
    | false => exact bad (Or.inr (Or.inl ⟨h1, h2⟩))
    | true =>
      cases h3 : isD 31 n with
      | false => exact bad (Or.inr (Or.inr ⟨h1, h2, h3⟩))
      | true =>
        obtain ⟨g, hg, -, rfl⟩ := isD_of h1
        obtain ⟨a, b, ha, hb, hab, rfl, rfl⟩ := isT_of h2
        obtain ⟨m, hm, -, rfl⟩ := isD_of h3
        refine c_film (by omega) hX hg ha hb hab (by omega) (fun o ho => pyN_le _ _ _ (by omega)) (fun S1 g1 a1 a2 a3 => hK S1 _ ⟨_, rfl⟩ (by rw [g1.2]; omega) (fun d' K' hd' hK' => ?_))
        have g1w : Ag wSH S S1 := g1.mono (fun j i k z => by simp only [wSH]; omega)
        have hc1 : SHc S1 (upS sh g (1, m, fun k => nI (pyN (tvG tb) F a k))) := hc0.set g1 (fun j i k z e => by omega) ⟨a1.trans (show (0 : Int32) = nI 1 - 1 by decide), by show 1 ≤ 3; omega, a2, by show m ≤ 40; omega, a3⟩
        have hm1 : SHm S1 sh := hm0.up (fun j i k q1 q2 => g1.1 j i k (by omega))
        have hM1 := mx_of (hT.1.up g1w) hT.2.1.1 (hT.2.2.2.2.ac g1w (fun j g k z => by simp only [wSH] at z; omega))
        exact n_film (by omega) hM1 hg ha hb hab (by omega) (fun S2 g2 b1 b2' b3 b4 => hK' S2 ⟨_, _, _, _, _, _, hT.sh2 g1w hc1 (g2.mono (fun j i k z => by simp only [m0, mS1] at z; simp only [mSH]; omega)) (hm1.set hcl g2 (fun j i k z => by simp only [m0, mS1] at z; omega) ⟨by rw [if_neg (show ¬ (1 : Nat) = 0 by decide)]; exact b1, fun _ => ⟨b2'.trans (show (0 : Int32) = nI 1 - 1 by decide), b3, b4⟩⟩)⟩)
