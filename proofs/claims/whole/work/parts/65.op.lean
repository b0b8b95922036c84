/-! asks, dance, round, night, force, count, feed -/
theorem isD_ne {n k : Nat} {x : Int32} (h : isD n x = false) (hk : k < n) (hn : n < 2 ^ 31) : ¬ x = nI k := by
  intro z
  rw [z, isD_N (by omega) hn, decide_eq_true hk] at h
  cases h
theorem PV.ch {F F' : Fl} {I : Option Fl} {nT : Nat} (h : PV F I nT) (h1 : WF nT F') (h2 : F'.rd ≤ 999) (h3 : F'.ni ≤ 999) (h4 : F.n ≤ F'.n) (h5 : ∀ a, a < F.n → F'.ki a = F.ki a) : PV F' I nT := by
  refine ⟨h1, h2, h3, fun G hG => ?_⟩
  obtain ⟨a1, a2, a3, a4, a5⟩ := h.2.2.2 G hG
  exact ⟨a1, a2, a3, by omega, fun a ha => by rw [a5 a ha, h5 a (by omega)]⟩
theorem op_asks (x y z : Int32) : OpA m_X5_asks m_X6_asks [aI x, aI y, aI z] isI := by
  intro d S K hd hT hK
  obtain ⟨F, I, sh, T, nT, tb, hT⟩ := hT
  have hX := hT.fx
  have hn5 := hX.2.2.1
  have hM := hT.m1 (Ag.rf wTH S)
  refine Call.of (k := 199) hd (fun e he P hP => ?_)
  have hN := hX.1.1
  repeat (first | (refine hP _ _ _ _ _ _ ?_; show P _ _ _ _ _ _) | (refine hP _ _ _ _ _ _ (And.intro (hN _ _ _ rfl) ?_); show P _ _ (aR _ _ :: _) _ _ _))
  refine hP _ _ _ _ _ _ (c_isTwo (by omega) hN hX.2.1.1 hn5 ?_)
  repeat (first | (refine hP _ _ _ _ _ _ ?_; show P _ _ _ _ _ _) | (refine hP _ _ _ _ _ _ (And.intro (hN _ _ _ rfl) ?_); show P _ _ (aR _ _ :: _) _ _ _))
  cases ht : isT F.n x y with
  | false =>
    have fin := hK S (aI (-2)) ⟨_, rfl⟩ (by omega) (fun d' K' hd' hK' => by
      have hK' := hK' S ⟨F, I, sh, T, nT, tb, hT⟩
      refine Call.of (k := 199) hd' (fun e he P hP => ?_)
      have hN := hN
      repeat (first | (refine hP _ _ _ _ _ _ ?_; show P _ _ _ _ _ _) | (refine hP _ _ _ _ _ _ (And.intro (hN _ _ _ rfl) ?_); show P _ _ (aR _ _ :: _) _ _ _))
      refine hP _ _ _ _ _ _ (n_areTwo (by omega) hM.2.1.1 hn5 ?_)
      rw [ht]
      refine hP _ _ _ _ _ _ (And.intro (fun _ => ?_) (fun hc => absurd rfl hc))
      repeat (first | (refine hP _ _ _ _ _ _ ?_; show P _ _ _ _ _ _) | (refine hP _ _ _ _ _ _ (And.intro (hN _ _ _ rfl) ?_); show P _ _ (aR _ _ :: _) _ _ _))
      exact hP _ _ _ _ _ _ (hK'))
    refine hP _ _ _ _ _ _ (And.intro (fun hc => absurd rfl hc) (fun _ => ?_))
    repeat (first | (refine hP _ _ _ _ _ _ ?_; show P _ _ _ _ _ _) | (refine hP _ _ _ _ _ _ (And.intro (hN _ _ _ rfl) ?_); show P _ _ (aR _ _ :: _) _ _ _))
    exact hP _ _ _ _ _ _ (fin)
  | true =>
    obtain ⟨a, b, ha, hb, hab, rfl, rfl⟩ := isT_of ht
    have o1 := hX.2.2.ow ha hb
    refine hP _ _ _ _ _ _ (And.intro (fun _ => ?_) (fun hc => absurd hc (by decide)))
    repeat (first | (refine hP _ _ _ _ _ _ ?_; show P _ _ _ _ _ _) | (refine hP _ _ _ _ _ _ (And.intro (hN _ _ _ rfl) ?_); show P _ _ (aR _ _ :: _) _ _ _))
    cases hz : isD 3 z with
    | false =>
      have fin := hK S (aI (-2)) ⟨_, rfl⟩ (by omega) (fun d' K' hd' hK' => by
        have hK' := hK' S ⟨F, I, sh, T, nT, tb, hT⟩
        refine Call.of (k := 199) hd' (fun e he P hP => ?_)
        have hN := hN
        repeat (first | (refine hP _ _ _ _ _ _ ?_; show P _ _ _ _ _ _) | (refine hP _ _ _ _ _ _ (And.intro (hN _ _ _ rfl) ?_); show P _ _ (aR _ _ :: _) _ _ _))
        refine hP _ _ _ _ _ _ (n_areTwo (by omega) hM.2.1.1 hn5 ?_)
        rw [ht]
        refine hP _ _ _ _ _ _ (And.intro (fun hc => absurd hc (by decide)) (fun _ => ?_))
        repeat (first | (refine hP _ _ _ _ _ _ ?_; show P _ _ _ _ _ _) | (refine hP _ _ _ _ _ _ (And.intro (hN _ _ _ rfl) ?_); show P _ _ (aR _ _ :: _) _ _ _))
        refine hP _ _ _ _ _ _ (n_in0 (m := 2) (by omega) (by omega) ?_)
        rw [hz]
        refine hP _ _ _ _ _ _ (And.intro (fun hc => absurd rfl hc) (fun _ => ?_))
        repeat (first | (refine hP _ _ _ _ _ _ ?_; show P _ _ _ _ _ _) | (refine hP _ _ _ _ _ _ (And.intro (hN _ _ _ rfl) ?_); show P _ _ (aR _ _ :: _) _ _ _))
        exact hP _ _ _ _ _ _ (hK'))
      have n0 : ¬ z = 0 := isD_ne hz (k := 0) (by omega) (by decide)
      have n1 : ¬ z = 1 := isD_ne hz (k := 1) (by omega) (by decide)
      have n2 : ¬ z = 2 := isD_ne hz (k := 2) (by omega) (by decide)
      refine hP _ _ _ _ _ _ (swP_to ?_)
      simp only [swF, n0, n1, n2, if_false]
      repeat (first | (refine hP _ _ _ _ _ _ ?_; show P _ _ _ _ _ _) | (refine hP _ _ _ _ _ _ (And.intro (hN _ _ _ rfl) ?_); show P _ _ (aR _ _ :: _) _ _ _))
      exact hP _ _ _ _ _ _ (fin)
    | true =>
      obtain ⟨w, hw, hw2, rfl⟩ := isD_of hz
      have md : ∀ (S1 : St) (v : Int32) (d' : Nat) (K' : KT), Ag w0 S S1 → v = (if w = 0 then nI (pyN (tvG tb) F a (F.ow a b)) else if w = 1 then b2 (wlN (tvG tb) F a b) else b2 (myN (tvG tb) F a b)) → 200 ≤ d' → (∀ S2, TTx S2 → K' (some (aI v)) S2) → Call d' m_X6_asks (aR 40 0 :: [aI (nI a), aI (nI b), aI (nI w)]) S1 K' := by
        intro S1 v d' K' g1 hv hd' hK'
        have hM := hT.m1 (g1.mono w0_TH)
        have hN := hM.1.1
        have hK2 : ∀ S2, Ag m0 S1 S2 → K' (some (aI v)) S2 := fun S2 g2 => hK' S2 ⟨F, I, sh, T, nT, tb, hT.th2 (g1.mono w0_TH) (g2.mono m0_th)⟩
        refine Call.of (k := 199) hd' (fun e he P hP => ?_)
        repeat (first | (refine hP _ _ _ _ _ _ ?_; show P _ _ _ _ _ _) | (refine hP _ _ _ _ _ _ (And.intro (hN _ _ _ rfl) ?_); show P _ _ (aR _ _ :: _) _ _ _))
        refine hP _ _ _ _ _ _ (n_areTwo (by omega) hM.2.1.1 hn5 ?_)
        rw [ht]
        refine hP _ _ _ _ _ _ (And.intro (fun hc => absurd hc (by decide)) (fun _ => ?_))
        repeat (first | (refine hP _ _ _ _ _ _ ?_; show P _ _ _ _ _ _) | (refine hP _ _ _ _ _ _ (And.intro (hN _ _ _ rfl) ?_); show P _ _ (aR _ _ :: _) _ _ _))
        refine hP _ _ _ _ _ _ (n_in0 (m := 2) (by omega) (by omega) ?_)
        rw [hz]
        refine hP _ _ _ _ _ _ (And.intro (fun _ => ?_) (fun hc => absurd hc (by decide)))
        rcases (show w = 0 ∨ w = 1 ∨ w = 2 by omega) with rfl | rfl | rfl
        · repeat (first | (refine hP _ _ _ _ _ _ ?_; show P _ _ _ _ _ _) | (refine hP _ _ _ _ _ _ (And.intro (hN _ _ _ rfl) ?_); show P _ _ (aR _ _ :: _) _ _ _) | refine hP _ _ _ _ _ _ (And.intro (fun _ => ?_) (fun hc => absurd hc (by decide))) | refine hP _ _ _ _ _ _ (And.intro (fun hc => absurd hc (by decide)) (fun _ => ?_)))
          refine hP _ _ _ _ _ _ (n_debtOf (by omega) hM ha hb ?_)
          repeat (first | (refine hP _ _ _ _ _ _ ?_; show P _ _ _ _ _ _) | (refine hP _ _ _ _ _ _ (And.intro (hN _ _ _ rfl) ?_); show P _ _ (aR _ _ :: _) _ _ _) | refine hP _ _ _ _ _ _ (And.intro (fun _ => ?_) (fun hc => absurd hc (by decide))) | refine hP _ _ _ _ _ _ (And.intro (fun hc => absurd hc (by decide)) (fun _ => ?_)))
          refine hP _ _ _ _ _ _ (n_paysOf (by omega) hM ha (by omega) (fun S2 g2 => ?_))
          repeat (first | (refine hP _ _ _ _ _ _ ?_; show P _ _ _ _ _ _) | (refine hP _ _ _ _ _ _ (And.intro (hN _ _ _ rfl) ?_); show P _ _ (aR _ _ :: _) _ _ _) | refine hP _ _ _ _ _ _ (And.intro (fun _ => ?_) (fun hc => absurd hc (by decide))) | refine hP _ _ _ _ _ _ (And.intro (fun hc => absurd hc (by decide)) (fun _ => ?_)))
          rw [hv] at hK2
          exact hP _ _ _ _ _ _ (hK2 S2 g2)
        · rw [hv] at hK2
          repeat (first | (refine hP _ _ _ _ _ _ ?_; show P _ _ _ _ _ _) | (refine hP _ _ _ _ _ _ (And.intro (hN _ _ _ rfl) ?_); show P _ _ (aR _ _ :: _) _ _ _) | refine hP _ _ _ _ _ _ (And.intro (fun _ => ?_) (fun hc => absurd hc (by decide))) | refine hP _ _ _ _ _ _ (And.intro (fun hc => absurd hc (by decide)) (fun _ => ?_)))
          refine hP _ _ _ _ _ _ (n_willOf (by omega) hM ha hb (fun S2 g2 => ?_))
          repeat (first | (refine hP _ _ _ _ _ _ ?_; show P _ _ _ _ _ _) | (refine hP _ _ _ _ _ _ (And.intro (hN _ _ _ rfl) ?_); show P _ _ (aR _ _ :: _) _ _ _) | refine hP _ _ _ _ _ _ (And.intro (fun _ => ?_) (fun hc => absurd hc (by decide))) | refine hP _ _ _ _ _ _ (And.intro (fun hc => absurd hc (by decide)) (fun _ => ?_)))
          cases hb2 : wlN (tvG tb) F a b with
          | true =>
            rw [show (if (1 : Nat) = 0 then nI (pyN (tvG tb) F a (F.ow a b)) else if (1 : Nat) = 1 then b2 (wlN (tvG tb) F a b) else b2 (myN (tvG tb) F a b)) = 1 by rw [hb2]; rfl] at hK2
            repeat (first | (refine hP _ _ _ _ _ _ ?_; show P _ _ _ _ _ _) | (refine hP _ _ _ _ _ _ (And.intro (hN _ _ _ rfl) ?_); show P _ _ (aR _ _ :: _) _ _ _) | refine hP _ _ _ _ _ _ (And.intro (fun _ => ?_) (fun hc => absurd hc (by decide))) | refine hP _ _ _ _ _ _ (And.intro (fun hc => absurd hc (by decide)) (fun _ => ?_)))
            exact hP _ _ _ _ _ _ (hK2 S2 g2)
          | false =>
            rw [show (if (1 : Nat) = 0 then nI (pyN (tvG tb) F a (F.ow a b)) else if (1 : Nat) = 1 then b2 (wlN (tvG tb) F a b) else b2 (myN (tvG tb) F a b)) = 0 by rw [hb2]; rfl] at hK2
            repeat (first | (refine hP _ _ _ _ _ _ ?_; show P _ _ _ _ _ _) | (refine hP _ _ _ _ _ _ (And.intro (hN _ _ _ rfl) ?_); show P _ _ (aR _ _ :: _) _ _ _) | refine hP _ _ _ _ _ _ (And.intro (fun _ => ?_) (fun hc => absurd hc (by decide))) | refine hP _ _ _ _ _ _ (And.intro (fun hc => absurd hc (by decide)) (fun _ => ?_)))
            exact hP _ _ _ _ _ _ (hK2 S2 g2)
        · rw [hv] at hK2
          repeat (first | (refine hP _ _ _ _ _ _ ?_; show P _ _ _ _ _ _) | (refine hP _ _ _ _ _ _ (And.intro (hN _ _ _ rfl) ?_); show P _ _ (aR _ _ :: _) _ _ _) | refine hP _ _ _ _ _ _ (And.intro (fun _ => ?_) (fun hc => absurd hc (by decide))) | refine hP _ _ _ _ _ _ (And.intro (fun hc => absurd hc (by decide)) (fun _ => ?_)))
          refine hP _ _ _ _ _ _ (n_mayDance (by omega) hM ha hb (fun S2 g2 => ?_))
          repeat (first | (refine hP _ _ _ _ _ _ ?_; show P _ _ _ _ _ _) | (refine hP _ _ _ _ _ _ (And.intro (hN _ _ _ rfl) ?_); show P _ _ (aR _ _ :: _) _ _ _) | refine hP _ _ _ _ _ _ (And.intro (fun _ => ?_) (fun hc => absurd hc (by decide))) | refine hP _ _ _ _ _ _ (And.intro (fun hc => absurd hc (by decide)) (fun _ => ?_)))
          cases hb2 : myN (tvG tb) F a b with
          | true =>
            rw [show (if (2 : Nat) = 0 then nI (pyN (tvG tb) F a (F.ow a b)) else if (2 : Nat) = 1 then b2 (wlN (tvG tb) F a b) else b2 (myN (tvG tb) F a b)) = 1 by rw [hb2]; rfl] at hK2
            repeat (first | (refine hP _ _ _ _ _ _ ?_; show P _ _ _ _ _ _) | (refine hP _ _ _ _ _ _ (And.intro (hN _ _ _ rfl) ?_); show P _ _ (aR _ _ :: _) _ _ _) | refine hP _ _ _ _ _ _ (And.intro (fun _ => ?_) (fun hc => absurd hc (by decide))) | refine hP _ _ _ _ _ _ (And.intro (fun hc => absurd hc (by decide)) (fun _ => ?_)))
            exact hP _ _ _ _ _ _ (hK2 S2 g2)
          | false =>
            rw [show (if (2 : Nat) = 0 then nI (pyN (tvG tb) F a (F.ow a b)) else if (2 : Nat) = 1 then b2 (wlN (tvG tb) F a b) else b2 (myN (tvG tb) F a b)) = 0 by rw [hb2]; rfl] at hK2
            repeat (first | (refine hP _ _ _ _ _ _ ?_; show P _ _ _ _ _ _) | (refine hP _ _ _ _ _ _ (And.intro (hN _ _ _ rfl) ?_); show P _ _ (aR _ _ :: _) _ _ _) | refine hP _ _ _ _ _ _ (And.intro (fun _ => ?_) (fun hc => absurd hc (by decide))) | refine hP _ _ _ _ _ _ (And.intro (fun hc => absurd hc (by decide)) (fun _ => ?_)))
            exact hP _ _ _ _ _ _ (hK2 S2 g2)
      refine hP _ _ _ _ _ _ (swP_to ?_)
      rcases (show w = 0 ∨ w = 1 ∨ w = 2 by omega) with rfl | rfl | rfl
      · show P 40 _ _ _ _ _
        repeat (first | (refine hP _ _ _ _ _ _ ?_; show P _ _ _ _ _ _) | (refine hP _ _ _ _ _ _ (And.intro (hN _ _ _ rfl) ?_); show P _ _ (aR _ _ :: _) _ _ _))
        refine hP _ _ _ _ _ _ (q_owing (by omega) hX ha hb ?_)
        repeat (first | (refine hP _ _ _ _ _ _ ?_; show P _ _ _ _ _ _) | (refine hP _ _ _ _ _ _ (And.intro (hN _ _ _ rfl) ?_); show P _ _ (aR _ _ :: _) _ _ _))
        refine hP _ _ _ _ _ _ (q_pays (by omega) hX ha (fun S1 g1 => ?_))
        repeat (first | (refine hP _ _ _ _ _ _ ?_; show P _ _ _ _ _ _) | (refine hP _ _ _ _ _ _ (And.intro (hN _ _ _ rfl) ?_); show P _ _ (aR _ _ :: _) _ _ _))
        exact hP _ _ _ _ _ _ (hK S1 _ ⟨_, rfl⟩ (by rw [g1.2]; omega) (fun d' K' hd' hK' => md S1 _ d' K' g1 rfl hd' hK'))
      · show P 58 _ _ _ _ _
        repeat (first | (refine hP _ _ _ _ _ _ ?_; show P _ _ _ _ _ _) | (refine hP _ _ _ _ _ _ (And.intro (hN _ _ _ rfl) ?_); show P _ _ (aR _ _ :: _) _ _ _))
        refine hP _ _ _ _ _ _ (q_will (by omega) hX ha hb (fun S1 g1 => ?_))
        repeat (first | (refine hP _ _ _ _ _ _ ?_; show P _ _ _ _ _ _) | (refine hP _ _ _ _ _ _ (And.intro (hN _ _ _ rfl) ?_); show P _ _ (aR _ _ :: _) _ _ _))
        have md1 := md S1
        refine hP _ _ _ _ _ _ (bn2 (fun e1 => ?_) (fun e1 => ?_))
        · repeat (first | (refine hP _ _ _ _ _ _ ?_; show P _ _ _ _ _ _) | (refine hP _ _ _ _ _ _ (And.intro (hN _ _ _ rfl) ?_); show P _ _ (aR _ _ :: _) _ _ _))
          exact hP _ _ _ _ _ _ (hK S1 _ ⟨_, rfl⟩ (by rw [g1.2]; omega) (fun d' K' hd' hK' => md S1 _ d' K' g1 (by rw [e1]; rfl) hd' hK'))
        · repeat (first | (refine hP _ _ _ _ _ _ ?_; show P _ _ _ _ _ _) | (refine hP _ _ _ _ _ _ (And.intro (hN _ _ _ rfl) ?_); show P _ _ (aR _ _ :: _) _ _ _))
          exact hP _ _ _ _ _ _ (hK S1 _ ⟨_, rfl⟩ (by rw [g1.2]; omega) (fun d' K' hd' hK' => md S1 _ d' K' g1 (by rw [e1]; rfl) hd' hK'))
      · show P 76 _ _ _ _ _
        repeat (first | (refine hP _ _ _ _ _ _ ?_; show P _ _ _ _ _ _) | (refine hP _ _ _ _ _ _ (And.intro (hN _ _ _ rfl) ?_); show P _ _ (aR _ _ :: _) _ _ _))
        refine hP _ _ _ _ _ _ (q_may (by omega) hX ha hb (fun S1 g1 => ?_))
        repeat (first | (refine hP _ _ _ _ _ _ ?_; show P _ _ _ _ _ _) | (refine hP _ _ _ _ _ _ (And.intro (hN _ _ _ rfl) ?_); show P _ _ (aR _ _ :: _) _ _ _))
        refine hP _ _ _ _ _ _ (bn2 (fun e1 => ?_) (fun e1 => ?_))
        · repeat (first | (refine hP _ _ _ _ _ _ ?_; show P _ _ _ _ _ _) | (refine hP _ _ _ _ _ _ (And.intro (hN _ _ _ rfl) ?_); show P _ _ (aR _ _ :: _) _ _ _))
          exact hP _ _ _ _ _ _ (hK S1 _ ⟨_, rfl⟩ (by rw [g1.2]; omega) (fun d' K' hd' hK' => md S1 _ d' K' g1 (by rw [e1]; rfl) hd' hK'))
        · repeat (first | (refine hP _ _ _ _ _ _ ?_; show P _ _ _ _ _ _) | (refine hP _ _ _ _ _ _ (And.intro (hN _ _ _ rfl) ?_); show P _ _ (aR _ _ :: _) _ _ _))
          exact hP _ _ _ _ _ _ (hK S1 _ ⟨_, rfl⟩ (by rw [g1.2]; omega) (fun d' K' hd' hK' => md S1 _ d' K' g1 (by rw [e1]; rfl) hd' hK'))
theorem zB.n {S S' : St} {W : WW} {n : Nat} (h : zB S 0 n) (h1 : Ag W S S') (hw : ∀ j k, W j 0 k → (j = 13 → k < n) ∧ (j = 14 → k / 5 < n ∧ k % 5 < n)) : zB S' 0 n := by
  refine ⟨fun a ha h5 => ?_, fun a b ha hb hn => ?_⟩
  · rw [h1.1 13 0 a (fun z => by have := (hw _ _ z).1 rfl; omega)]
    exact h.1 a ha h5
  · rw [h1.1 14 0 _ (fun z => by have := (hw _ _ z).2 rfl; omega)]
    exact h.2 a b ha hb hn
theorem op_dance (x y : Int32) : OpA m_X5_dance m_X6_dance [aI x, aI y] isI := by
  intro d S K hd hT hK
  obtain ⟨F, I, sh, T, nT, tb, hT⟩ := hT
  have hX := hT.fx
  have hn5 := hX.2.2.1
  have hM0 := hT.m1 (Ag.rf wTH S)
  refine Call.of (k := 199) hd (fun e he P hP => ?_)
  have hN := hX.1.1
  repeat (first | (refine hP _ _ _ _ _ _ ?_; show P _ _ _ _ _ _) | (refine hP _ _ _ _ _ _ (And.intro (hN _ _ _ rfl) ?_); show P _ _ (aR _ _ :: _) _ _ _))
  refine hP _ _ _ _ _ _ (c_isTwo (by omega) hN hX.2.1.1 hn5 ?_)
  repeat (first | (refine hP _ _ _ _ _ _ ?_; show P _ _ _ _ _ _) | (refine hP _ _ _ _ _ _ (And.intro (hN _ _ _ rfl) ?_); show P _ _ (aR _ _ :: _) _ _ _))
  cases ht : isT F.n x y with
  | false =>
    have fin := hK S (aI (-2)) ⟨_, rfl⟩ (by omega) (fun d' K' hd' hK' => by
      have hK' := hK' S ⟨F, I, sh, T, nT, tb, hT⟩
      refine Call.of (k := 199) hd' (fun e he P hP => ?_)
      have hN := hN
      repeat (first | (refine hP _ _ _ _ _ _ ?_; show P _ _ _ _ _ _) | (refine hP _ _ _ _ _ _ (And.intro (hN _ _ _ rfl) ?_); show P _ _ (aR _ _ :: _) _ _ _))
      refine hP _ _ _ _ _ _ (n_areTwo (by omega) hM0.2.1.1 hn5 ?_)
      rw [ht]
      refine hP _ _ _ _ _ _ (And.intro (fun hc => absurd rfl hc) (fun _ => ?_))
      repeat (first | (refine hP _ _ _ _ _ _ ?_; show P _ _ _ _ _ _) | (refine hP _ _ _ _ _ _ (And.intro (hN _ _ _ rfl) ?_); show P _ _ (aR _ _ :: _) _ _ _))
      exact hP _ _ _ _ _ _ (hK'))
    refine hP _ _ _ _ _ _ (And.intro (fun hc => absurd rfl hc) (fun _ => ?_))
    repeat (first | (refine hP _ _ _ _ _ _ ?_; show P _ _ _ _ _ _) | (refine hP _ _ _ _ _ _ (And.intro (hN _ _ _ rfl) ?_); show P _ _ (aR _ _ :: _) _ _ _))
    exact hP _ _ _ _ _ _ (fin)
  | true =>
    obtain ⟨a, b, ha, hb, hab, rfl, rfl⟩ := isT_of ht
    refine hP _ _ _ _ _ _ (And.intro (fun _ => ?_) (fun hc => absurd hc (by decide)))
    repeat (first | (refine hP _ _ _ _ _ _ ?_; show P _ _ _ _ _ _) | (refine hP _ _ _ _ _ _ (And.intro (hN _ _ _ rfl) ?_); show P _ _ (aR _ _ :: _) _ _ _))
    refine hP _ _ _ _ _ _ (q_may (by omega) hX ha hb (fun S1 g1 => ?_))
    have g1' := g1.mono w0_TH
    have hX1 := hX.sc g1
    have hN := hX1.1.1
    repeat (first | (refine hP _ _ _ _ _ _ ?_; show P _ _ _ _ _ _) | (refine hP _ _ _ _ _ _ (And.intro (hN _ _ _ rfl) ?_); show P _ _ (aR _ _ :: _) _ _ _))
    refine hP _ _ _ _ _ _ (bn2 (fun hm => ?_) (fun hm => ?_))
    · repeat (first | (refine hP _ _ _ _ _ _ ?_; show P _ _ _ _ _ _) | (refine hP _ _ _ _ _ _ (And.intro (hN _ _ _ rfl) ?_); show P _ _ (aR _ _ :: _) _ _ _))
      refine hP _ _ _ _ _ _ (hK S1 (aI (-3)) ⟨_, rfl⟩ (by rw [g1.2]; omega) (fun d' K' hd' hK' => ?_))
      have hM := hT.m1 g1'
      refine Call.of (k := 199) hd' (fun e he P hP => ?_)
      have hN := hM.1.1
      repeat (first | (refine hP _ _ _ _ _ _ ?_; show P _ _ _ _ _ _) | (refine hP _ _ _ _ _ _ (And.intro (hN _ _ _ rfl) ?_); show P _ _ (aR _ _ :: _) _ _ _))
      refine hP _ _ _ _ _ _ (n_areTwo (by omega) hM.2.1.1 hn5 ?_)
      rw [ht]
      refine hP _ _ _ _ _ _ (And.intro (fun _ => ?_) (fun hc => absurd hc (by decide)))
      repeat (first | (refine hP _ _ _ _ _ _ ?_; show P _ _ _ _ _ _) | (refine hP _ _ _ _ _ _ (And.intro (hN _ _ _ rfl) ?_); show P _ _ (aR _ _ :: _) _ _ _))
      refine hP _ _ _ _ _ _ (n_mayDance (by omega) hM ha hb (fun S2 g2 => ?_))
      rw [hm]
      refine hP _ _ _ _ _ _ (And.intro (fun _ => ?_) (fun hc => absurd rfl hc))
      repeat (first | (refine hP _ _ _ _ _ _ ?_; show P _ _ _ _ _ _) | (refine hP _ _ _ _ _ _ (And.intro (hN _ _ _ rfl) ?_); show P _ _ (aR _ _ :: _) _ _ _))
      exact hP _ _ _ _ _ _ (hK' S2 ⟨F, I, sh, T, nT, tb, hT.th2 g1' (g2.mono m0_th)⟩)
    · repeat (first | (refine hP _ _ _ _ _ _ ?_; show P _ _ _ _ _ _) | (refine hP _ _ _ _ _ _ (And.intro (hN _ _ _ rfl) ?_); show P _ _ (aR _ _ :: _) _ _ _))
      refine hP _ _ _ _ _ _ (q_step (by omega) hX1 ha hb hab (fun S3 g3 hX3 => ?_))
      have g13 : Ag wFl S S3 := (g1'.mono wTH_fl).tr (g3.mono (fun j g k z => by simp only [wS] at z; simp only [wFl]; omega))
      have z3 : zB S3 0 F.n := (hT.2.2.2.1.2.2.2.1.n g1' (fun j k z => by simp only [wTH] at z; omega)).n g3 (fun j k z => by simp only [wS] at z; omega)
      repeat (first | (refine hP _ _ _ _ _ _ ?_; show P _ _ _ _ _ _) | (refine hP _ _ _ _ _ _ (And.intro (hN _ _ _ rfl) ?_); show P _ _ (aR _ _ :: _) _ _ _))
      refine hP _ _ _ _ _ _ (hK S3 _ ⟨_, rfl⟩ (by rw [g13.2]; omega) (fun d' K' hd' hK' => ?_))
      have hM := hT.m2 g13
      refine Call.of (k := 199) hd' (fun e he P hP => ?_)
      have hN := hM.1.1
      repeat (first | (refine hP _ _ _ _ _ _ ?_; show P _ _ _ _ _ _) | (refine hP _ _ _ _ _ _ (And.intro (hN _ _ _ rfl) ?_); show P _ _ (aR _ _ :: _) _ _ _))
      refine hP _ _ _ _ _ _ (n_areTwo (by omega) hM.2.1.1 hn5 ?_)
      rw [ht]
      refine hP _ _ _ _ _ _ (And.intro (fun _ => ?_) (fun hc => absurd hc (by decide)))
      repeat (first | (refine hP _ _ _ _ _ _ ?_; show P _ _ _ _ _ _) | (refine hP _ _ _ _ _ _ (And.intro (hN _ _ _ rfl) ?_); show P _ _ (aR _ _ :: _) _ _ _))
      refine hP _ _ _ _ _ _ (n_mayDance (by omega) hM ha hb (fun S4 g4 => ?_))
      rw [hm]
      have hM4 := hM.sc g4
      have hN := hM4.1.1
      refine hP _ _ _ _ _ _ (And.intro (fun hc => absurd hc (by decide)) (fun _ => ?_))
      repeat (first | (refine hP _ _ _ _ _ _ ?_; show P _ _ _ _ _ _) | (refine hP _ _ _ _ _ _ (And.intro (hN _ _ _ rfl) ?_); show P _ _ (aR _ _ :: _) _ _ _))
      refine hP _ _ _ _ _ _ (n_danceBoth (by omega) hM4 ha hb hab (fun S5 g5 hM5 => ?_))
      repeat (first | (refine hP _ _ _ _ _ _ ?_; show P _ _ _ _ _ _) | (refine hP _ _ _ _ _ _ (And.intro (hN _ _ _ rfl) ?_); show P _ _ (aR _ _ :: _) _ _ _))
      refine hP _ _ _ _ _ _ (hK' S5 ⟨stpN (tvG tb) F a b, I, sh, T, nT, tb, ?_⟩)
      have g45 : Ag mFl S3 S5 := (g4.mono (fun j g k z => by simp only [m0] at z; simp only [mFl]; omega)).tr (g5.mono (fun j g k z => by simp only [mS] at z; simp only [mFl]; omega))
      exact hT.fl2 g13 hX3.2.1 z3 g45 hM5.2.1 (hT.2.1.ch hX3.2.2 hT.2.1.2.1 hT.2.1.2.2.1 (Nat.le_refl _) (fun _ _ => rfl))
theorem rd_same (tv : TV) (F : Fl) : ∀ k, (rA tv F k).2.2.rd = F.rd ∧ (rA tv F k).2.2.ni = F.ni ∧ (rA tv F k).2.2.ki = F.ki
  | 0 => ⟨rfl, rfl, rfl⟩
  | k + 1 => by
    simp only [rA, r1]
    split
    · exact rd_same tv F k
    · exact rd_same tv F k
theorem sR_all (F : Fl) (v : Nat) : (F.sR v).n = F.n ∧ (F.sR v).rd = v ∧ (F.sR v).ni = F.ni ∧ (F.sR v).ki = F.ki := ⟨rfl, rfl, rfl, rfl⟩
theorem rdF_all (tv : TV) (F : Fl) : (rdF tv F).n = F.n ∧ (rdF tv F).rd = F.rd + 1 ∧ (rdF tv F).ni = F.ni ∧ (rdF tv F).ki = F.ki := by
  unfold rdF
  have h1 := rd_same tv F 10
  have h2 := rA_n tv F 10
  generalize (rA tv F 10).2.2 = G at h1 h2
  obtain ⟨a1, a2, a3, a4⟩ := sR_all G (G.rd + 1)
  exact ⟨a1.trans h2, by rw [a2, h1.1], a3.trans h1.2.1, a4.trans h1.2.2⟩
theorem op_round : OpA m_X5_round m_X6_round [] isI := by
  intro d S K hd hT hK
  obtain ⟨F, I, sh, T, nT, tb, hT⟩ := hT
  have hX := hT.fx
  have hn5 := hX.2.2.1
  have hrd := hT.2.1.2.1
  have hM0 := hT.m1 (Ag.rf wTH S)
  refine Call.of (k := 199) hd (fun e he P hP => ?_)
  have hN := hX.1.1
  repeat (first | (refine hP _ _ _ _ _ _ ?_; show P _ _ _ _ _ _) | (refine hP _ _ _ _ _ _ (And.intro (hN _ _ _ rfl) ?_); show P _ _ (aR _ _ :: _) _ _ _))
  rw [hX.2.1.2.1]
  refine hP _ _ _ _ _ _ (ltI (x := F.rd) (y := 999) (by omega) (by omega) (fun hc => ?_) (fun hc => ?_))
  · repeat (first | (refine hP _ _ _ _ _ _ ?_; show P _ _ _ _ _ _) | (refine hP _ _ _ _ _ _ (And.intro (hN _ _ _ rfl) ?_); show P _ _ (aR _ _ :: _) _ _ _))
    refine hP _ _ _ _ _ _ (q_danceRound (by omega) hX (fun S3 g3 hX3 _ => ?_))
    have g13 : Ag wFl S S3 := g3.mono (fun j g k z => by simp only [wRn] at z; simp only [wFl]; omega)
    have z3 : zB S3 0 F.n := hT.2.2.2.1.2.2.2.1.n g3 (fun j k z => by simp only [wRn] at z; omega)
    obtain ⟨rn, r1, r2, r3⟩ := rdF_all (tvG tb) F
    repeat (first | (refine hP _ _ _ _ _ _ ?_; show P _ _ _ _ _ _) | (refine hP _ _ _ _ _ _ (And.intro (hN _ _ _ rfl) ?_); show P _ _ (aR _ _ :: _) _ _ _))
    refine hP _ _ _ _ _ _ (hK S3 _ ⟨_, rfl⟩ (by rw [g13.2]; omega) (fun d' K' hd' hK' => ?_))
    have hM := hT.m2 g13
    refine Call.of (k := 199) hd' (fun e he P hP => ?_)
    have hN := hM.1.1
    repeat (first | (refine hP _ _ _ _ _ _ ?_; show P _ _ _ _ _ _) | (refine hP _ _ _ _ _ _ (And.intro (hN _ _ _ rfl) ?_); show P _ _ (aR _ _ :: _) _ _ _))
    rw [hM.2.1.2.1]
    refine hP _ _ _ _ _ _ (And.intro (fun _ => ?_) (fun hc2 => absurd ((nI_eq (b := 999) (by omega) (by decide)).mp hc2) (by omega)))
    repeat (first | (refine hP _ _ _ _ _ _ ?_; show P _ _ _ _ _ _) | (refine hP _ _ _ _ _ _ (And.intro (hN _ _ _ rfl) ?_); show P _ _ (aR _ _ :: _) _ _ _))
    refine hP _ _ _ _ _ _ (n_passes (by omega) hM (fun S5 g5 hM5 _ => ?_))
    repeat (first | (refine hP _ _ _ _ _ _ ?_; show P _ _ _ _ _ _) | (refine hP _ _ _ _ _ _ (And.intro (hN _ _ _ rfl) ?_); show P _ _ (aR _ _ :: _) _ _ _))
    refine hP _ _ _ _ _ _ (hK' S5 ⟨rdF (tvG tb) F, I, sh, T, nT, tb, ?_⟩)
    exact hT.fl2 g13 hX3.2.1 (by rw [rn]; exact z3) (g5.mono (fun j g k z => by simp only [mR] at z; simp only [mFl]; omega)) hM5.2.1 (hT.2.1.ch hX3.2.2 (by rw [r1]; omega) (by rw [r2]; exact hT.2.1.2.2.1) (by rw [rn]; exact Nat.le_refl _) (fun a _ => by rw [r3]))
  · have h999 : F.rd = 999 := by omega
    repeat (first | (refine hP _ _ _ _ _ _ ?_; show P _ _ _ _ _ _) | (refine hP _ _ _ _ _ _ (And.intro (hN _ _ _ rfl) ?_); show P _ _ (aR _ _ :: _) _ _ _))
    refine hP _ _ _ _ _ _ (hK S _ ⟨_, rfl⟩ (by omega) (fun d' K' hd' hK' => ?_))
    refine Call.of (k := 199) hd' (fun e he P hP => ?_)
    repeat (first | (refine hP _ _ _ _ _ _ ?_; show P _ _ _ _ _ _) | (refine hP _ _ _ _ _ _ (And.intro (hN _ _ _ rfl) ?_); show P _ _ (aR _ _ :: _) _ _ _))
    rw [hM0.2.1.2.1]
    refine hP _ _ _ _ _ _ (And.intro (fun hc2 => absurd (by rw [h999]; rfl) hc2) (fun _ => ?_))
    repeat (first | (refine hP _ _ _ _ _ _ ?_; show P _ _ _ _ _ _) | (refine hP _ _ _ _ _ _ (And.intro (hN _ _ _ rfl) ?_); show P _ _ (aR _ _ :: _) _ _ _))
    exact hP _ _ _ _ _ _ (hK' S ⟨F, I, sh, T, nT, tb, hT⟩)
