/-! tells: the call -/
theorem c_tellsx {tv : TV} {nT d g a o sz s wh : Nat} {S : St} {K : KT} {F : Fl} {v : Nat → Int32} (hd : 150 ≤ d) (hX : FX tv nT S 0 F) (hg : g < 4) (ha : a < F.n) (ho : o < F.n) (hao : ¬ a = o) (hwh : wh ≤ 8) (hs : S.1 20 g 0 = nI s - 1) (hs1 : 1 ≤ s) (hs3 : s ≤ 3) (hsz : S.1 20 g 1 = nI sz) (hs30 : sz ≤ 30) (hv : ∀ k, k < sz → S.1 21 g k = v k) (hcn : S.1 1 0 1 = nI nT) (h : ∀ S', Ag wTH S S' → K (some (aI (teI tv nT F sz v a o wh))) S') : Call d m_X5_tells [aR 0 0, aI (nI g), aI (nI a), aI (nI o), aI (nI wh)] S K := by
  refine Call.of (k := 149) hd (fun e he P hP => ?_)
  have hN := hX.1.1
  have hn5 := hX.2.2.1
  have hT2 : isT F.n (nI a) (nI o) = true := by
    rw [isT_n hn5 (by omega) (by omega), decide_eq_true ha, decide_eq_true ho, decide_eq_true hao]
    rfl
  repeat (first | (refine hP _ _ _ _ _ _ ?_; show P _ _ _ _ _ _) | (refine hP _ _ _ _ _ _ (And.intro (hN _ _ _ rfl) ?_); show P _ _ (aR _ _ :: _) _ _ _))
  refine hP _ _ _ _ _ _ (c_isSheet (by omega) ?_)
  rw [isD_N (by omega) (by omega), decide_eq_true hg]
  repeat (first | (refine hP _ _ _ _ _ _ ?_; show P _ _ _ _ _ _) | (refine hP _ _ _ _ _ _ (And.intro (hN _ _ _ rfl) ?_); show P _ _ (aR _ _ :: _) _ _ _) | refine hP _ _ _ _ _ _ (And.intro (fun _ => ?_) (fun hc => absurd hc (by decide))) | refine hP _ _ _ _ _ _ (And.intro (fun hc => absurd hc (by decide)) (fun _ => ?_)))
  refine hP _ _ _ _ _ _ (c_isTwo (by omega) hN hX.2.1.1 hn5 ?_)
  rw [hT2]
  repeat (first | (refine hP _ _ _ _ _ _ ?_; show P _ _ _ _ _ _) | (refine hP _ _ _ _ _ _ (And.intro (hN _ _ _ rfl) ?_); show P _ _ (aR _ _ :: _) _ _ _) | refine hP _ _ _ _ _ _ (And.intro (fun _ => ?_) (fun hc => absurd hc (by decide))) | refine hP _ _ _ _ _ _ (And.intro (fun hc => absurd hc (by decide)) (fun _ => ?_)))
  refine hP _ _ _ _ _ _ (And.intro (fun hc => absurd hc (nI_pos (by omega))) (fun _ => ?_))
  repeat (first | (refine hP _ _ _ _ _ _ ?_; show P _ _ _ _ _ _) | (refine hP _ _ _ _ _ _ (And.intro (hN _ _ _ rfl) ?_); show P _ _ (aR _ _ :: _) _ _ _))
  refine hP _ _ _ _ _ _ (And.intro (fun _ => ?_) (fun hc => absurd (nI_le (a := wh) (b := 8) hwh (by omega)) hc))
  repeat (first | (refine hP _ _ _ _ _ _ ?_; show P _ _ _ _ _ _) | (refine hP _ _ _ _ _ _ (And.intro (hN _ _ _ rfl) ?_); show P _ _ (aR _ _ :: _) _ _ _))
  refine hP _ _ _ _ _ _ (Exists.intro (g) (And.intro (And.intro (rfl) (show g < 4 from hg)) ?_))
  refine And.intro (hN _ _ _ (nn18 hg)) ?_
  show P _ _ (aR 20 g :: _) _ _ _
  repeat (first | (refine hP _ _ _ _ _ _ ?_; show P _ _ _ _ _ _) | (refine hP _ _ _ _ _ _ (And.intro (hN _ _ _ rfl) ?_); show P _ _ (aR _ _ :: _) _ _ _))
  rw [hs]
  refine hP _ _ _ _ _ _ (And.intro (fun _ => ?_) (fun hc => absurd hc (nI_p1n (by omega) (by omega))))
  repeat (first | (refine hP _ _ _ _ _ _ ?_; show P _ _ _ _ _ _) | (refine hP _ _ _ _ _ _ (And.intro (hN _ _ _ rfl) ?_); show P _ _ (aR _ _ :: _) _ _ _))
  rw [hsz]
  refine hP _ _ _ _ _ _ (And.intro (fun _ => ?_) (fun hc => absurd (nI_le (a := sz) (b := 30) hs30 (by omega)) hc))
  repeat (first | (refine hP _ _ _ _ _ _ ?_; show P _ _ _ _ _ _) | (refine hP _ _ _ _ _ _ (And.intro (hN _ _ _ rfl) ?_); show P _ _ (aR _ _ :: _) _ _ _))
  rcases (show wh = 0 ∨ wh = 1 ∨ wh = 2 ∨ wh = 3 ∨ wh = 4 ∨ wh = 5 ∨ wh = 6 ∨ wh = 7 ∨ wh = 8 by omega) with rfl | rfl | rfl | rfl | rfl | rfl | rfl | rfl | rfl
  · have h : ∀ S', Ag wTH S S' → K (some (aI (foN tv F a sz v))) S' := h
    refine hP _ _ _ _ _ _ (swP_to ?_)
    show P 112 _ _ _ _ _
    repeat (first | (refine hP _ _ _ _ _ _ ?_; show P _ _ _ _ _ _) | (refine hP _ _ _ _ _ _ (And.intro (hN _ _ _ rfl) ?_); show P _ _ (aR _ _ :: _) _ _ _) | refine hP _ _ _ _ _ _ (And.intro (fun _ => ?_) (fun hc => absurd hc (by decide))) | refine hP _ _ _ _ _ _ (And.intro (fun hc => absurd hc (by decide)) (fun _ => ?_)))
    refine hP _ _ _ _ _ _ (q_firstOtherwise (by omega) hX ha hsz (by omega) hv (fun S1 g1 => ?_))
    have h := h S1 (g1.mono w0_th)
    repeat (first | (refine hP _ _ _ _ _ _ ?_; show P _ _ _ _ _ _) | (refine hP _ _ _ _ _ _ (And.intro (hN _ _ _ rfl) ?_); show P _ _ (aR _ _ :: _) _ _ _))
    exact hP _ _ _ _ _ _ (h)
  · have h : ∀ S', Ag wTH S S' → K (some (aI (lkN (tF tv F 5 a sz v) 6))) S' := h
    refine hP _ _ _ _ _ _ (swP_to ?_)
    show P 123 _ _ _ _ _
    repeat (first | (refine hP _ _ _ _ _ _ ?_; show P _ _ _ _ _ _) | (refine hP _ _ _ _ _ _ (And.intro (hN _ _ _ rfl) ?_); show P _ _ (aR _ _ :: _) _ _ _) | refine hP _ _ _ _ _ _ (And.intro (fun _ => ?_) (fun hc => absurd hc (by decide))) | refine hP _ _ _ _ _ _ (And.intro (fun hc => absurd hc (by decide)) (fun _ => ?_)))
    refine hP _ _ _ _ _ _ (c_kindsTold (by omega) hX ha hsz (by omega) hv (fun S1 g1 => ?_))
    have h := h S1 g1
    repeat (first | (refine hP _ _ _ _ _ _ ?_; show P _ _ _ _ _ _) | (refine hP _ _ _ _ _ _ (And.intro (hN _ _ _ rfl) ?_); show P _ _ (aR _ _ :: _) _ _ _))
    exact hP _ _ _ _ _ _ (h)
  · have h : ∀ S', Ag wTH S S' → K (some (aI (lkN (tF tv F 2 a sz v) 10))) S' := h
    refine hP _ _ _ _ _ _ (swP_to ?_)
    show P 131 _ _ _ _ _
    repeat (first | (refine hP _ _ _ _ _ _ ?_; show P _ _ _ _ _ _) | (refine hP _ _ _ _ _ _ (And.intro (hN _ _ _ rfl) ?_); show P _ _ (aR _ _ :: _) _ _ _) | refine hP _ _ _ _ _ _ (And.intro (fun _ => ?_) (fun hc => absurd hc (by decide))) | refine hP _ _ _ _ _ _ (And.intro (fun hc => absurd hc (by decide)) (fun _ => ?_)))
    refine hP _ _ _ _ _ _ (c_numbersTold (by omega) hX ha hsz (by omega) hv (fun S1 g1 => ?_))
    have h := h S1 g1
    repeat (first | (refine hP _ _ _ _ _ _ ?_; show P _ _ _ _ _ _) | (refine hP _ _ _ _ _ _ (And.intro (hN _ _ _ rfl) ?_); show P _ _ (aR _ _ :: _) _ _ _))
    exact hP _ _ _ _ _ _ (h)
  · have h : ∀ S', Ag wTH S S' → K (some (aI (nI (cnT (tF tv F 0 a sz v) 100)))) S' := h
    refine hP _ _ _ _ _ _ (swP_to ?_)
    show P 139 _ _ _ _ _
    repeat (first | (refine hP _ _ _ _ _ _ ?_; show P _ _ _ _ _ _) | (refine hP _ _ _ _ _ _ (And.intro (hN _ _ _ rfl) ?_); show P _ _ (aR _ _ :: _) _ _ _) | refine hP _ _ _ _ _ _ (And.intro (fun _ => ?_) (fun hc => absurd hc (by decide))) | refine hP _ _ _ _ _ _ (And.intro (fun hc => absurd hc (by decide)) (fun _ => ?_)))
    refine hP _ _ _ _ _ _ (c_roundsTold (l := false) (by omega) hX ha hsz (by omega) hv (fun S1 g1 => ?_))
    have h := h S1 g1
    repeat (first | (refine hP _ _ _ _ _ _ ?_; show P _ _ _ _ _ _) | (refine hP _ _ _ _ _ _ (And.intro (hN _ _ _ rfl) ?_); show P _ _ (aR _ _ :: _) _ _ _))
    exact hP _ _ _ _ _ _ (h)
  · have h : ∀ S', Ag wTH S S' → K (some (aI (ff (tF tv F 0 a sz v) 100 0))) S' := h
    refine hP _ _ _ _ _ _ (swP_to ?_)
    show P 139 _ _ _ _ _
    repeat (first | (refine hP _ _ _ _ _ _ ?_; show P _ _ _ _ _ _) | (refine hP _ _ _ _ _ _ (And.intro (hN _ _ _ rfl) ?_); show P _ _ (aR _ _ :: _) _ _ _) | refine hP _ _ _ _ _ _ (And.intro (fun _ => ?_) (fun hc => absurd hc (by decide))) | refine hP _ _ _ _ _ _ (And.intro (fun hc => absurd hc (by decide)) (fun _ => ?_)))
    refine hP _ _ _ _ _ _ (c_roundsTold (l := true) (by omega) hX ha hsz (by omega) hv (fun S1 g1 => ?_))
    have h := h S1 g1
    repeat (first | (refine hP _ _ _ _ _ _ ?_; show P _ _ _ _ _ _) | (refine hP _ _ _ _ _ _ (And.intro (hN _ _ _ rfl) ?_); show P _ _ (aR _ _ :: _) _ _ _))
    exact hP _ _ _ _ _ _ (h)
  · have h : ∀ S', Ag wTH S S' → K (some (aI (nI (cnT (tF tv F 3 a sz v) 100)))) S' := h
    refine hP _ _ _ _ _ _ (swP_to ?_)
    show P 158 _ _ _ _ _
    repeat (first | (refine hP _ _ _ _ _ _ ?_; show P _ _ _ _ _ _) | (refine hP _ _ _ _ _ _ (And.intro (hN _ _ _ rfl) ?_); show P _ _ (aR _ _ :: _) _ _ _) | refine hP _ _ _ _ _ _ (And.intro (fun _ => ?_) (fun hc => absurd hc (by decide))) | refine hP _ _ _ _ _ _ (And.intro (fun hc => absurd hc (by decide)) (fun _ => ?_)))
    refine hP _ _ _ _ _ _ (c_donesTold (l := false) (by omega) hX ha hsz (by omega) hv (fun S1 g1 => ?_))
    have h := h S1 g1
    repeat (first | (refine hP _ _ _ _ _ _ ?_; show P _ _ _ _ _ _) | (refine hP _ _ _ _ _ _ (And.intro (hN _ _ _ rfl) ?_); show P _ _ (aR _ _ :: _) _ _ _))
    exact hP _ _ _ _ _ _ (h)
  · have h : ∀ S', Ag wTH S S' → K (some (aI (ff (tF tv F 3 a sz v) 100 0))) S' := h
    refine hP _ _ _ _ _ _ (swP_to ?_)
    show P 158 _ _ _ _ _
    repeat (first | (refine hP _ _ _ _ _ _ ?_; show P _ _ _ _ _ _) | (refine hP _ _ _ _ _ _ (And.intro (hN _ _ _ rfl) ?_); show P _ _ (aR _ _ :: _) _ _ _) | refine hP _ _ _ _ _ _ (And.intro (fun _ => ?_) (fun hc => absurd hc (by decide))) | refine hP _ _ _ _ _ _ (And.intro (fun hc => absurd hc (by decide)) (fun _ => ?_)))
    refine hP _ _ _ _ _ _ (c_donesTold (l := true) (by omega) hX ha hsz (by omega) hv (fun S1 g1 => ?_))
    have h := h S1 g1
    repeat (first | (refine hP _ _ _ _ _ _ ?_; show P _ _ _ _ _ _) | (refine hP _ _ _ _ _ _ (And.intro (hN _ _ _ rfl) ?_); show P _ _ (aR _ _ :: _) _ _ _))
    exact hP _ _ _ _ _ _ (h)
  · have h : ∀ S', Ag wTH S S' → K (some (aI (lkN (tF tv F 6 a sz v) nT))) S' := h
    refine hP _ _ _ _ _ _ (swP_to ?_)
    show P 178 _ _ _ _ _
    repeat (first | (refine hP _ _ _ _ _ _ ?_; show P _ _ _ _ _ _) | (refine hP _ _ _ _ _ _ (And.intro (hN _ _ _ rfl) ?_); show P _ _ (aR _ _ :: _) _ _ _) | refine hP _ _ _ _ _ _ (And.intro (fun _ => ?_) (fun hc => absurd hc (by decide))) | refine hP _ _ _ _ _ _ (And.intro (fun hc => absurd hc (by decide)) (fun _ => ?_)))
    refine hP _ _ _ _ _ _ (c_textsTold (by omega) hX ha hcn hsz (by omega) hv (fun S1 g1 => ?_))
    have h := h S1 g1
    repeat (first | (refine hP _ _ _ _ _ _ ?_; show P _ _ _ _ _ _) | (refine hP _ _ _ _ _ _ (And.intro (hN _ _ _ rfl) ?_); show P _ _ (aR _ _ :: _) _ _ _))
    exact hP _ _ _ _ _ _ (h)
  · have h : ∀ S', Ag wTH S S' → K (some (aI (lkN (liF tv F o sz v) F.n))) S' := h
    refine hP _ _ _ _ _ _ (swP_to ?_)
    show P 186 _ _ _ _ _
    repeat (first | (refine hP _ _ _ _ _ _ ?_; show P _ _ _ _ _ _) | (refine hP _ _ _ _ _ _ (And.intro (hN _ _ _ rfl) ?_); show P _ _ (aR _ _ :: _) _ _ _) | refine hP _ _ _ _ _ _ (And.intro (fun _ => ?_) (fun hc => absurd hc (by decide))) | refine hP _ _ _ _ _ _ (And.intro (fun hc => absurd hc (by decide)) (fun _ => ?_)))
    refine hP _ _ _ _ _ _ (c_dancersTold (by omega) hX ho hsz (by omega) hv (fun S1 g1 => ?_))
    have h := h S1 g1
    repeat (first | (refine hP _ _ _ _ _ _ ?_; show P _ _ _ _ _ _) | (refine hP _ _ _ _ _ _ (And.intro (hN _ _ _ rfl) ?_); show P _ _ (aR _ _ :: _) _ _ _))
    exact hP _ _ _ _ _ _ (h)
theorem op_tells (x y z n : Int32) : OpA m_X5_tells m_X6_tells [aI x, aI y, aI z, aI n] isI := by
  intro d S K hd hT hK
  obtain ⟨F0, I, sh, T, nT, tb, hT⟩ := hT
  have hX := hT.fx
  have hM := hT.m1 (Ag.rf wTH S)
  have hn5 := hX.2.2.1
  have hN0 := hX.1.1
  have hc0 := hT.2.2.2.1.2.2.2.2.2.1
  have hm0 := hT.2.2.2.2.2.2.2.2.1
  have hcn := hT.2.2.2.1.1.2.2.1
  have hcm := hT.2.2.2.2.1.2.2.1
  have hTT : TTx S := ⟨F0, I, sh, T, nT, tb, hT⟩
  have bad : (isD 4 x = false ∨ (isD 4 x = true ∧ isT F0.n y z = false) ∨ (isD 4 x = true ∧ isT F0.n y z = true ∧ isD 9 n = false)) → Call d m_X5_tells [aR 0 0, aI x, aI y, aI z, aI n] S K := by
    intro hb
    have fin := hK S (aI (-2)) ⟨_, rfl⟩ (by omega) (fun d' K' hd' hK' => by
      have hK' := hK' S hTT
      refine Call.of (k := 199) hd' (fun e he P hP => ?_)
      have hN := hN0
      repeat (first | (refine hP _ _ _ _ _ _ ?_; show P _ _ _ _ _ _) | (refine hP _ _ _ _ _ _ (And.intro (hN _ _ _ rfl) ?_); show P _ _ (aR _ _ :: _) _ _ _))
      refine hP _ _ _ _ _ _ (n_isSheet (by omega) ?_)
      rcases hb with w | ⟨w1, w⟩ | ⟨w1, w2, w⟩
      · rw [w]
        repeat (first | (refine hP _ _ _ _ _ _ ?_; show P _ _ _ _ _ _) | (refine hP _ _ _ _ _ _ (And.intro (hN _ _ _ rfl) ?_); show P _ _ (aR _ _ :: _) _ _ _) | refine hP _ _ _ _ _ _ (And.intro (fun _ => ?_) (fun hc => absurd hc (by decide))) | refine hP _ _ _ _ _ _ (And.intro (fun hc => absurd hc (by decide)) (fun _ => ?_)))
        exact hP _ _ _ _ _ _ (hK')
      · rw [w1]
        repeat (first | (refine hP _ _ _ _ _ _ ?_; show P _ _ _ _ _ _) | (refine hP _ _ _ _ _ _ (And.intro (hN _ _ _ rfl) ?_); show P _ _ (aR _ _ :: _) _ _ _) | refine hP _ _ _ _ _ _ (And.intro (fun _ => ?_) (fun hc => absurd hc (by decide))) | refine hP _ _ _ _ _ _ (And.intro (fun hc => absurd hc (by decide)) (fun _ => ?_)))
        refine hP _ _ _ _ _ _ (n_areTwo (by omega) hM.2.1.1 hn5 ?_)
        rw [w]
        repeat (first | (refine hP _ _ _ _ _ _ ?_; show P _ _ _ _ _ _) | (refine hP _ _ _ _ _ _ (And.intro (hN _ _ _ rfl) ?_); show P _ _ (aR _ _ :: _) _ _ _) | refine hP _ _ _ _ _ _ (And.intro (fun _ => ?_) (fun hc => absurd hc (by decide))) | refine hP _ _ _ _ _ _ (And.intro (fun hc => absurd hc (by decide)) (fun _ => ?_)))
        exact hP _ _ _ _ _ _ (hK')
      · rw [w1]
        repeat (first | (refine hP _ _ _ _ _ _ ?_; show P _ _ _ _ _ _) | (refine hP _ _ _ _ _ _ (And.intro (hN _ _ _ rfl) ?_); show P _ _ (aR _ _ :: _) _ _ _) | refine hP _ _ _ _ _ _ (And.intro (fun _ => ?_) (fun hc => absurd hc (by decide))) | refine hP _ _ _ _ _ _ (And.intro (fun hc => absurd hc (by decide)) (fun _ => ?_)))
        refine hP _ _ _ _ _ _ (n_areTwo (by omega) hM.2.1.1 hn5 ?_)
        rw [w2]
        repeat (first | (refine hP _ _ _ _ _ _ ?_; show P _ _ _ _ _ _) | (refine hP _ _ _ _ _ _ (And.intro (hN _ _ _ rfl) ?_); show P _ _ (aR _ _ :: _) _ _ _) | refine hP _ _ _ _ _ _ (And.intro (fun _ => ?_) (fun hc => absurd hc (by decide))) | refine hP _ _ _ _ _ _ (And.intro (fun hc => absurd hc (by decide)) (fun _ => ?_)))
        refine hP _ _ _ _ _ _ (n_in0 (m := 8) (by omega) (by omega) ?_)
        rw [w]
        repeat (first | (refine hP _ _ _ _ _ _ ?_; show P _ _ _ _ _ _) | (refine hP _ _ _ _ _ _ (And.intro (hN _ _ _ rfl) ?_); show P _ _ (aR _ _ :: _) _ _ _) | refine hP _ _ _ _ _ _ (And.intro (fun _ => ?_) (fun hc => absurd hc (by decide))) | refine hP _ _ _ _ _ _ (And.intro (fun hc => absurd hc (by decide)) (fun _ => ?_)))
        exact hP _ _ _ _ _ _ (hK'))
    refine Call.of (k := 199) hd (fun e he P hP => ?_)
    have hN := hN0
    repeat (first | (refine hP _ _ _ _ _ _ ?_; show P _ _ _ _ _ _) | (refine hP _ _ _ _ _ _ (And.intro (hN _ _ _ rfl) ?_); show P _ _ (aR _ _ :: _) _ _ _))
    refine hP _ _ _ _ _ _ (c_isSheet (by omega) ?_)
    rcases hb with w | ⟨w1, w⟩ | ⟨w1, w2, w⟩
    · rw [w]
      repeat (first | (refine hP _ _ _ _ _ _ ?_; show P _ _ _ _ _ _) | (refine hP _ _ _ _ _ _ (And.intro (hN _ _ _ rfl) ?_); show P _ _ (aR _ _ :: _) _ _ _) | refine hP _ _ _ _ _ _ (And.intro (fun _ => ?_) (fun hc => absurd hc (by decide))) | refine hP _ _ _ _ _ _ (And.intro (fun hc => absurd hc (by decide)) (fun _ => ?_)))
      exact hP _ _ _ _ _ _ (fin)
    · rw [w1]
      repeat (first | (refine hP _ _ _ _ _ _ ?_; show P _ _ _ _ _ _) | (refine hP _ _ _ _ _ _ (And.intro (hN _ _ _ rfl) ?_); show P _ _ (aR _ _ :: _) _ _ _) | refine hP _ _ _ _ _ _ (And.intro (fun _ => ?_) (fun hc => absurd hc (by decide))) | refine hP _ _ _ _ _ _ (And.intro (fun hc => absurd hc (by decide)) (fun _ => ?_)))
      refine hP _ _ _ _ _ _ (c_isTwo (by omega) hN hX.2.1.1 hn5 ?_)
      rw [w]
      repeat (first | (refine hP _ _ _ _ _ _ ?_; show P _ _ _ _ _ _) | (refine hP _ _ _ _ _ _ (And.intro (hN _ _ _ rfl) ?_); show P _ _ (aR _ _ :: _) _ _ _) | refine hP _ _ _ _ _ _ (And.intro (fun _ => ?_) (fun hc => absurd hc (by decide))) | refine hP _ _ _ _ _ _ (And.intro (fun hc => absurd hc (by decide)) (fun _ => ?_)))
      exact hP _ _ _ _ _ _ (fin)
    · rw [w1]
      repeat (first | (refine hP _ _ _ _ _ _ ?_; show P _ _ _ _ _ _) | (refine hP _ _ _ _ _ _ (And.intro (hN _ _ _ rfl) ?_); show P _ _ (aR _ _ :: _) _ _ _) | refine hP _ _ _ _ _ _ (And.intro (fun _ => ?_) (fun hc => absurd hc (by decide))) | refine hP _ _ _ _ _ _ (And.intro (fun hc => absurd hc (by decide)) (fun _ => ?_)))
      refine hP _ _ _ _ _ _ (c_isTwo (by omega) hN hX.2.1.1 hn5 ?_)
      rw [w2]
      repeat (first | (refine hP _ _ _ _ _ _ ?_; show P _ _ _ _ _ _) | (refine hP _ _ _ _ _ _ (And.intro (hN _ _ _ rfl) ?_); show P _ _ (aR _ _ :: _) _ _ _) | refine hP _ _ _ _ _ _ (And.intro (fun _ => ?_) (fun hc => absurd hc (by decide))) | refine hP _ _ _ _ _ _ (And.intro (fun hc => absurd hc (by decide)) (fun _ => ?_)))
      rcases rng (x := n) (n := 9) (by omega) with ⟨hf, h0 | ⟨h0, h1⟩⟩ | ⟨u, hu, hf, rfl⟩
      · refine hP _ _ _ _ _ _ (And.intro (fun _ => ?_) (fun hc => absurd h0 hc))
        repeat (first | (refine hP _ _ _ _ _ _ ?_; show P _ _ _ _ _ _) | (refine hP _ _ _ _ _ _ (And.intro (hN _ _ _ rfl) ?_); show P _ _ (aR _ _ :: _) _ _ _))
        exact hP _ _ _ _ _ _ (fin)
      · refine hP _ _ _ _ _ _ (And.intro (fun hc => absurd hc h0) (fun _ => ?_))
        repeat (first | (refine hP _ _ _ _ _ _ ?_; show P _ _ _ _ _ _) | (refine hP _ _ _ _ _ _ (And.intro (hN _ _ _ rfl) ?_); show P _ _ (aR _ _ :: _) _ _ _))
        refine hP _ _ _ _ _ _ (And.intro (fun hc => absurd (Int32.le_trans h1 hc) (nI_ge (a := 8) (b := 9) (by decide) (by decide))) (fun _ => ?_))
        repeat (first | (refine hP _ _ _ _ _ _ ?_; show P _ _ _ _ _ _) | (refine hP _ _ _ _ _ _ (And.intro (hN _ _ _ rfl) ?_); show P _ _ (aR _ _ :: _) _ _ _))
        exact hP _ _ _ _ _ _ (fin)
      · rw [hf] at w
        cases w
  cases h1 : isD 4 x with
  | false => exact bad (Or.inl h1)
  | true =>
    cases h2 : isT F0.n y z with
    | false => exact bad (Or.inr (Or.inl ⟨h1, h2⟩))
    | true =>
      cases h3 : isD 9 n with
      | false => exact bad (Or.inr (Or.inr ⟨h1, h2, h3⟩))
      | true =>
        obtain ⟨g, hg, -, rfl⟩ := isD_of h1
        obtain ⟨a, o, ha, ho, hao, rfl, rfl⟩ := isT_of h2
        obtain ⟨wh, hwh, -, rfl⟩ := isD_of h3
        obtain ⟨a1, a2, a3, a4, a5⟩ := hc0 g hg
        have htg := hm0.there hg
        have pre : ∀ (K' : KT) e, 199 ≤ e → ∀ P : PT, (∀ pc L st S fc fs, F m_X5_tells (Call e) K' P pc L st S fc fs → P pc L st S fc fs) → P 45 [some (aR 0 0), some (aI (nI g)), some (aI (nI a)), some (aI (nI o)), some (aI (nI wh)), some (aR 20 g)] [aI (-1), aI (S.1 20 g 0)] S 0 0 → P 0 [some (aR 0 0), some (aI (nI g)), some (aI (nI a)), some (aI (nI o)), some (aI (nI wh)), none] [] S 0 0 := by
          intro K' e he P hP fin
          have hN := hN0
          repeat (first | (refine hP _ _ _ _ _ _ ?_; show P _ _ _ _ _ _) | (refine hP _ _ _ _ _ _ (And.intro (hN _ _ _ rfl) ?_); show P _ _ (aR _ _ :: _) _ _ _))
          refine hP _ _ _ _ _ _ (c_isSheet (by omega) ?_)
          rw [h1]
          repeat (first | (refine hP _ _ _ _ _ _ ?_; show P _ _ _ _ _ _) | (refine hP _ _ _ _ _ _ (And.intro (hN _ _ _ rfl) ?_); show P _ _ (aR _ _ :: _) _ _ _) | refine hP _ _ _ _ _ _ (And.intro (fun _ => ?_) (fun hc => absurd hc (by decide))) | refine hP _ _ _ _ _ _ (And.intro (fun hc => absurd hc (by decide)) (fun _ => ?_)))
          refine hP _ _ _ _ _ _ (c_isTwo (by omega) hN hX.2.1.1 hn5 ?_)
          rw [h2]
          repeat (first | (refine hP _ _ _ _ _ _ ?_; show P _ _ _ _ _ _) | (refine hP _ _ _ _ _ _ (And.intro (hN _ _ _ rfl) ?_); show P _ _ (aR _ _ :: _) _ _ _) | refine hP _ _ _ _ _ _ (And.intro (fun _ => ?_) (fun hc => absurd hc (by decide))) | refine hP _ _ _ _ _ _ (And.intro (fun hc => absurd hc (by decide)) (fun _ => ?_)))
          refine hP _ _ _ _ _ _ (And.intro (fun hc => absurd hc (nI_pos (by omega))) (fun _ => ?_))
          repeat (first | (refine hP _ _ _ _ _ _ ?_; show P _ _ _ _ _ _) | (refine hP _ _ _ _ _ _ (And.intro (hN _ _ _ rfl) ?_); show P _ _ (aR _ _ :: _) _ _ _))
          refine hP _ _ _ _ _ _ (And.intro (fun _ => ?_) (fun hc => absurd (nI_le (a := wh) (b := 8) (by omega) (by omega)) hc))
          repeat (first | (refine hP _ _ _ _ _ _ ?_; show P _ _ _ _ _ _) | (refine hP _ _ _ _ _ _ (And.intro (hN _ _ _ rfl) ?_); show P _ _ (aR _ _ :: _) _ _ _))
          refine hP _ _ _ _ _ _ (Exists.intro (g) (And.intro (And.intro (rfl) (show g < 4 from hg)) ?_))
          refine And.intro (hN _ _ _ (nn18 hg)) ?_
          show P _ _ (aR 20 g :: _) _ _ _
          repeat (first | (refine hP _ _ _ _ _ _ ?_; show P _ _ _ _ _ _) | (refine hP _ _ _ _ _ _ (And.intro (hN _ _ _ rfl) ?_); show P _ _ (aR _ _ :: _) _ _ _))
          exact fin
        have preM : ∀ (K' : KT) e, 199 ≤ e → ∀ P : PT, (∀ pc L st S fc fs, F m_X6_tells (Call e) K' P pc L st S fc fs → P pc L st S fc fs) → P 38 [some (aR 40 0), some (aI (nI g)), some (aI (nI a)), some (aI (nI o)), some (aI (nI wh)), none, none, none, none, none, none, none] [aI (S.1 55 0 g)] S 0 0 → P 0 [some (aR 40 0), some (aI (nI g)), some (aI (nI a)), some (aI (nI o)), some (aI (nI wh)), none, none, none, none, none, none, none] [] S 0 0 := by
          intro K' e he P hP fin
          have hN := hN0
          repeat (first | (refine hP _ _ _ _ _ _ ?_; show P _ _ _ _ _ _) | (refine hP _ _ _ _ _ _ (And.intro (hN _ _ _ rfl) ?_); show P _ _ (aR _ _ :: _) _ _ _))
          refine hP _ _ _ _ _ _ (n_isSheet (by omega) ?_)
          rw [h1]
          repeat (first | (refine hP _ _ _ _ _ _ ?_; show P _ _ _ _ _ _) | (refine hP _ _ _ _ _ _ (And.intro (hN _ _ _ rfl) ?_); show P _ _ (aR _ _ :: _) _ _ _) | refine hP _ _ _ _ _ _ (And.intro (fun _ => ?_) (fun hc => absurd hc (by decide))) | refine hP _ _ _ _ _ _ (And.intro (fun hc => absurd hc (by decide)) (fun _ => ?_)))
          refine hP _ _ _ _ _ _ (n_areTwo (by omega) hM.2.1.1 hn5 ?_)
          rw [h2]
          repeat (first | (refine hP _ _ _ _ _ _ ?_; show P _ _ _ _ _ _) | (refine hP _ _ _ _ _ _ (And.intro (hN _ _ _ rfl) ?_); show P _ _ (aR _ _ :: _) _ _ _) | refine hP _ _ _ _ _ _ (And.intro (fun _ => ?_) (fun hc => absurd hc (by decide))) | refine hP _ _ _ _ _ _ (And.intro (fun hc => absurd hc (by decide)) (fun _ => ?_)))
          refine hP _ _ _ _ _ _ (n_in0 (m := 8) (by omega) (by omega) ?_)
          rw [h3]
          repeat (first | (refine hP _ _ _ _ _ _ ?_; show P _ _ _ _ _ _) | (refine hP _ _ _ _ _ _ (And.intro (hN _ _ _ rfl) ?_); show P _ _ (aR _ _ :: _) _ _ _) | refine hP _ _ _ _ _ _ (And.intro (fun _ => ?_) (fun hc => absurd hc (by decide))) | refine hP _ _ _ _ _ _ (And.intro (fun hc => absurd hc (by decide)) (fun _ => ?_)))
          refine hP _ _ _ _ _ _ (Exists.intro (g) (And.intro (And.intro (rfl) (show g < 4 from hg)) ?_))
          exact fin
        by_cases hs0 : (sh g).1 = 0
        · have fin := hK S (aI (-11)) ⟨_, rfl⟩ (by omega) (fun d' K' hd' hK' => by
            have hK' := hK' S hTT
            refine Call.of (k := 199) hd' (fun e he P hP => ?_)
            refine preM K' e he P hP ?_
            rw [htg, hs0]
            repeat (first | (refine hP _ _ _ _ _ _ ?_; show P _ _ _ _ _ _) | (refine hP _ _ _ _ _ _ (And.intro (hN _ _ _ rfl) ?_); show P _ _ (aR _ _ :: _) _ _ _) | refine hP _ _ _ _ _ _ (And.intro (fun _ => ?_) (fun hc => absurd hc (by decide))) | refine hP _ _ _ _ _ _ (And.intro (fun hc => absurd hc (by decide)) (fun _ => ?_)))
            exact hP _ _ _ _ _ _ (hK'))
          refine Call.of (k := 199) hd (fun e he P hP => ?_)
          refine pre K e he P hP ?_
          rw [a1, hs0]
          repeat (first | (refine hP _ _ _ _ _ _ ?_; show P _ _ _ _ _ _) | (refine hP _ _ _ _ _ _ (And.intro (hN _ _ _ rfl) ?_); show P _ _ (aR _ _ :: _) _ _ _) | refine hP _ _ _ _ _ _ (And.intro (fun _ => ?_) (fun hc => absurd hc (by decide))) | refine hP _ _ _ _ _ _ (And.intro (fun hc => absurd hc (by decide)) (fun _ => ?_)))
          exact hP _ _ _ _ _ _ (fin)
        · have ht1 : S.1 55 0 g = 1 := by rw [htg, decide_eq_true hs0]; rfl
          obtain ⟨m1, m2, m3⟩ := (hm0 g hg).2 hs0
          by_cases h30 : (sh g).2.1 ≤ 30
          · exact c_tellsx (by omega) hX hg ha ho hao (by omega) a1 (by omega) a2 a3 h30 a5 hcn (fun S1 g1 => hK S1 _ ⟨_, rfl⟩ (by rw [g1.2]; omega) (fun d' K' hd' hK' => n_tellsx (v := (sh g).2.2) (by omega) (hT.m1 g1) hg ha ho hao (by omega) (by rw [g1.1 55 0 g (by simp [wTH])]; exact ht1) (by rw [g1.1 57 0 g (by simp [wTH])]; exact m2) h30 (fun k hk => by rw [g1.1 58 0 _ (by simp [wTH])]; exact m3 k hk) (by rw [g1.1 40 0 3 (by simp [wTH])]; exact hcm) (fun S2 g2 hM2 => hK' S2 ⟨F0, I, sh, T, nT, tb, hT.fl2 (g1.mono wTH_fl) ((hX.up g1 wTH_ok wTH_F).2.1) (hT.2.2.2.1.2.2.2.1.up g1 (fun j k z => by simp only [wTH] at z; omega)) g2 hM2 hT.2.1⟩)))
          · have n30 : ¬ nI (sh g).2.1 ≤ 30 := nI_ge (a := 30) (by omega) (by omega)
            have fin := hK S (aI (-2)) ⟨_, rfl⟩ (by omega) (fun d' K' hd' hK' => by
              have hK' := hK' S hTT
              refine Call.of (k := 199) hd' (fun e he P hP => ?_)
              refine preM K' e he P hP ?_
              rw [ht1]
              have hN := hN0
              repeat (first | (refine hP _ _ _ _ _ _ ?_; show P _ _ _ _ _ _) | (refine hP _ _ _ _ _ _ (And.intro (hN _ _ _ rfl) ?_); show P _ _ (aR _ _ :: _) _ _ _) | refine hP _ _ _ _ _ _ (And.intro (fun _ => ?_) (fun hc => absurd hc (by decide))) | refine hP _ _ _ _ _ _ (And.intro (fun hc => absurd hc (by decide)) (fun _ => ?_)))
              refine hP _ _ _ _ _ _ (Exists.intro (g) (And.intro (And.intro (rfl) (show g < 4 from hg)) ?_))
              rw [m2]
              repeat (first | (refine hP _ _ _ _ _ _ ?_; show P _ _ _ _ _ _) | (refine hP _ _ _ _ _ _ (And.intro (hN _ _ _ rfl) ?_); show P _ _ (aR _ _ :: _) _ _ _))
              refine hP _ _ _ _ _ _ (And.intro (fun hc => absurd hc n30) (fun _ => ?_))
              repeat (first | (refine hP _ _ _ _ _ _ ?_; show P _ _ _ _ _ _) | (refine hP _ _ _ _ _ _ (And.intro (hN _ _ _ rfl) ?_); show P _ _ (aR _ _ :: _) _ _ _))
              exact hP _ _ _ _ _ _ (hK'))
            refine Call.of (k := 199) hd (fun e he P hP => ?_)
            refine pre K e he P hP ?_
            have hN := hN0
            rw [a1]
            refine hP _ _ _ _ _ _ (And.intro (fun _ => ?_) (fun hc => absurd hc (nI_p1n (by omega) (by omega))))
            repeat (first | (refine hP _ _ _ _ _ _ ?_; show P _ _ _ _ _ _) | (refine hP _ _ _ _ _ _ (And.intro (hN _ _ _ rfl) ?_); show P _ _ (aR _ _ :: _) _ _ _))
            rw [a3]
            refine hP _ _ _ _ _ _ (And.intro (fun hc => absurd hc n30) (fun _ => ?_))
            repeat (first | (refine hP _ _ _ _ _ _ ?_; show P _ _ _ _ _ _) | (refine hP _ _ _ _ _ _ (And.intro (hN _ _ _ rfl) ?_); show P _ _ (aR _ _ :: _) _ _ _))
            exact hP _ _ _ _ _ _ (fin)
