/-! room: the call -/
theorem hoB_big {sz : Nat} {z : Int32} (hs : sz ≤ 40) (h : isD 41 z = false) : hoB sz (z + 2 * 0) 2 = false := by
  rw [show (2 : Int32) * 0 = 0 from rfl, Int32.add_zero]
  refine decide_eq_false (fun q => ?_)
  have e3 : (nI sz).toInt = sz := nI_toInt (by omega)
  have e2 : (2 : Int32).toInt = 2 := by decide
  have e0 : (0 : Int32).toInt = 0 := by decide
  have e1 : (nI 41).toInt = 41 := by decide
  have e4 : (nI sz - 2).toInt = (sz : Int) - 2 := by
    rw [Int32.toInt_sub, e2, e3, Int.bmod_eq_of_le (by omega) (by omega)]
  obtain ⟨q1, -, -, q4⟩ := q
  have h := of_decide_eq_false h
  rw [Int32.le_iff_toInt_le, e4] at q4
  refine h ⟨q1, ?_⟩
  rw [Int32.lt_iff_toInt_lt, e1]
  omega
theorem szbig {sz : Nat} {z : Int32} (hs : sz ≤ 40) (h : isD 41 z = false) (h0 : ¬ z < 0) : ¬ z ≤ nI sz - 2 * 0 - 2 := by
  rw [show (2 : Int32) * 0 = 0 from rfl, Int32.sub_zero]
  intro q4
  have e3 : (nI sz).toInt = sz := nI_toInt (by omega)
  have e2 : (2 : Int32).toInt = 2 := by decide
  have e1 : (nI 41).toInt = 41 := by decide
  have e4 : (nI sz - 2).toInt = (sz : Int) - 2 := by
    rw [Int32.toInt_sub, e2, e3, Int.bmod_eq_of_le (by omega) (by omega)]
  rw [Int32.le_iff_toInt_le, e4] at q4
  rcases isD_f h with h | h
  · exact h0 h
  · rw [Int32.le_iff_toInt_le, e1] at h
    omega
theorem n_room_pre {d g u m : Nat} {S : St} {K : KT} {sh : Shs} {z : Int32} (hd : 150 ≤ d) (hN : NN S) (hm0 : SHm S sh) (hg : g < 4) (hu : u < 3) (hs : (sh g).1 = u + 1) (hm : m ≤ 5)
    (h : ∀ e, 149 ≤ e → ∀ P : PT, (∀ pc L st S fc fs, F m_X6_room (Call e) K P pc L st S fc fs → P pc L st S fc fs) → P 79 [some (aR 40 0), some (aI (nI g)), some (aI (nI u)), some (aI z), some (aI (nI m)), some (aI (nI 0)), some (aI (nI 0)), none] [aI (nI m), aI (nI 0)] S 0 0) : Call d m_X6_room [aR 40 0, aI (nI g), aI (nI u), aI z, aI (nI m)] S K := by
  refine Call.of (k := 149) hd (fun e he P hP => ?_)
  have h := h e he P hP
  have hs0 : ¬ (sh g).1 = 0 := by omega
  have ht1 : S.1 55 0 g = 1 := by rw [hm0.there hg, decide_eq_true hs0]; rfl
  obtain ⟨m1, m2, m3⟩ := (hm0 g hg).2 hs0
  repeat (first | (refine hP _ _ _ _ _ _ ?_; show P _ _ _ _ _ _) | (refine hP _ _ _ _ _ _ (And.intro (hN _ _ _ rfl) ?_); show P _ _ (aR _ _ :: _) _ _ _))
  refine hP _ _ _ _ _ _ (n_isSheet (by omega) ?_)
  rw [isD_N (by omega) (by omega), decide_eq_true hg]
  repeat (first | (refine hP _ _ _ _ _ _ ?_; show P _ _ _ _ _ _) | (refine hP _ _ _ _ _ _ (And.intro (hN _ _ _ rfl) ?_); show P _ _ (aR _ _ :: _) _ _ _) | refine hP _ _ _ _ _ _ (And.intro (fun _ => ?_) (fun hc => absurd hc (by decide))) | refine hP _ _ _ _ _ _ (And.intro (fun hc => absurd hc (by decide)) (fun _ => ?_)))
  refine hP _ _ _ _ _ _ (n_in0 (m := 2) (by omega) (by omega) ?_)
  rw [isD_N (by omega) (by omega), decide_eq_true (by omega)]
  repeat (first | (refine hP _ _ _ _ _ _ ?_; show P _ _ _ _ _ _) | (refine hP _ _ _ _ _ _ (And.intro (hN _ _ _ rfl) ?_); show P _ _ (aR _ _ :: _) _ _ _) | refine hP _ _ _ _ _ _ (And.intro (fun _ => ?_) (fun hc => absurd hc (by decide))) | refine hP _ _ _ _ _ _ (And.intro (fun hc => absurd hc (by decide)) (fun _ => ?_)))
  refine hP _ _ _ _ _ _ (n_in0 (m := 5) (by omega) (by omega) ?_)
  rw [isD_N (by omega) (by omega), decide_eq_true (by omega)]
  repeat (first | (refine hP _ _ _ _ _ _ ?_; show P _ _ _ _ _ _) | (refine hP _ _ _ _ _ _ (And.intro (hN _ _ _ rfl) ?_); show P _ _ (aR _ _ :: _) _ _ _) | refine hP _ _ _ _ _ _ (And.intro (fun _ => ?_) (fun hc => absurd hc (by decide))) | refine hP _ _ _ _ _ _ (And.intro (fun hc => absurd hc (by decide)) (fun _ => ?_)))
  refine hP _ _ _ _ _ _ (Exists.intro (g) (And.intro (And.intro (rfl) (show g < 4 from hg)) ?_))
  rw [ht1]
  repeat (first | (refine hP _ _ _ _ _ _ ?_; show P _ _ _ _ _ _) | (refine hP _ _ _ _ _ _ (And.intro (hN _ _ _ rfl) ?_); show P _ _ (aR _ _ :: _) _ _ _) | refine hP _ _ _ _ _ _ (And.intro (fun _ => ?_) (fun hc => absurd hc (by decide))) | refine hP _ _ _ _ _ _ (And.intro (fun hc => absurd hc (by decide)) (fun _ => ?_)))
  refine hP _ _ _ _ _ _ (Exists.intro (g) (And.intro (And.intro (rfl) (show g < 4 from hg)) ?_))
  rw [m1, hs, nI_pred]
  repeat (first | (refine hP _ _ _ _ _ _ ?_; show P _ _ _ _ _ _) | (refine hP _ _ _ _ _ _ (And.intro (hN _ _ _ rfl) ?_); show P _ _ (aR _ _ :: _) _ _ _))
  refine hP _ _ _ _ _ _ (And.intro (fun _ => ?_) (fun hc => absurd rfl hc))
  repeat (first | (refine hP _ _ _ _ _ _ ?_; show P _ _ _ _ _ _) | (refine hP _ _ _ _ _ _ (And.intro (hN _ _ _ rfl) ?_); show P _ _ (aR _ _ :: _) _ _ _))
  refine hP _ _ _ _ _ _ (Exists.intro (g) (And.intro (And.intro (rfl) (show g < 4 from hg)) ?_))
  rw [ht1]
  repeat (first | (refine hP _ _ _ _ _ _ ?_; show P _ _ _ _ _ _) | (refine hP _ _ _ _ _ _ (And.intro (hN _ _ _ rfl) ?_); show P _ _ (aR _ _ :: _) _ _ _) | refine hP _ _ _ _ _ _ (And.intro (fun _ => ?_) (fun hc => absurd hc (by decide))) | refine hP _ _ _ _ _ _ (And.intro (fun hc => absurd hc (by decide)) (fun _ => ?_)))
  exact h
theorem op_room (x y z n : Int32) : OpA m_X5_room m_X6_room [aI x, aI y, aI z, aI n] isI := by
  intro d S K hd hT hK
  obtain ⟨F, I, sh, T, nT, tb, hT⟩ := hT
  have hX := hT.fx
  have hN0 := hX.1.1
  have hn5 := hX.2.2.1
  have hz0 := hT.2.2.2.1.2.2.2.1
  have hc0 := hT.2.2.2.1.2.2.2.2.2.1
  have hm0 := hT.2.2.2.2.2.2.2.2.1
  have hTT : TTx S := ⟨F, I, sh, T, nT, tb, hT⟩
  refine Call.of (k := 199) hd (fun e he P hP => ?_)
  have hN := hN0
  repeat (first | (refine hP _ _ _ _ _ _ ?_; show P _ _ _ _ _ _) | (refine hP _ _ _ _ _ _ (And.intro (hN _ _ _ rfl) ?_); show P _ _ (aR _ _ :: _) _ _ _))
  refine hP _ _ _ _ _ _ (c_isSheet (by omega) ?_)
  cases hx : isD 4 x with
  | false =>
    have fin := hK S (aI (-2)) ⟨_, rfl⟩ (by omega) (fun d' K' hd' hK' => by
      have hK' := hK' S hTT
      refine Call.of (k := 199) hd' (fun e he P hP => ?_)
      repeat (first | (refine hP _ _ _ _ _ _ ?_; show P _ _ _ _ _ _) | (refine hP _ _ _ _ _ _ (And.intro (hN _ _ _ rfl) ?_); show P _ _ (aR _ _ :: _) _ _ _))
      refine hP _ _ _ _ _ _ (n_isSheet (by omega) ?_)
      rw [hx]
      repeat (first | (refine hP _ _ _ _ _ _ ?_; show P _ _ _ _ _ _) | (refine hP _ _ _ _ _ _ (And.intro (hN _ _ _ rfl) ?_); show P _ _ (aR _ _ :: _) _ _ _) | refine hP _ _ _ _ _ _ (And.intro (fun _ => ?_) (fun hc => absurd hc (by decide))) | refine hP _ _ _ _ _ _ (And.intro (fun hc => absurd hc (by decide)) (fun _ => ?_)))
      exact hP _ _ _ _ _ _ (hK'))
    repeat (first | (refine hP _ _ _ _ _ _ ?_; show P _ _ _ _ _ _) | (refine hP _ _ _ _ _ _ (And.intro (hN _ _ _ rfl) ?_); show P _ _ (aR _ _ :: _) _ _ _) | refine hP _ _ _ _ _ _ (And.intro (fun _ => ?_) (fun hc => absurd hc (by decide))) | refine hP _ _ _ _ _ _ (And.intro (fun hc => absurd hc (by decide)) (fun _ => ?_)))
    exact hP _ _ _ _ _ _ (fin)
  | true =>
    obtain ⟨g, hg, -, rfl⟩ := isD_of hx
    repeat (first | (refine hP _ _ _ _ _ _ ?_; show P _ _ _ _ _ _) | (refine hP _ _ _ _ _ _ (And.intro (hN _ _ _ rfl) ?_); show P _ _ (aR _ _ :: _) _ _ _) | refine hP _ _ _ _ _ _ (And.intro (fun _ => ?_) (fun hc => absurd hc (by decide))) | refine hP _ _ _ _ _ _ (And.intro (fun hc => absurd hc (by decide)) (fun _ => ?_)))
    refine hP _ _ _ _ _ _ (c_isSort (by omega) ?_)
    cases hy : isD 3 y with
    | false =>
      have fin := hK S (aI (-2)) ⟨_, rfl⟩ (by omega) (fun d' K' hd' hK' => by
        have hK' := hK' S hTT
        refine Call.of (k := 199) hd' (fun e he P hP => ?_)
        repeat (first | (refine hP _ _ _ _ _ _ ?_; show P _ _ _ _ _ _) | (refine hP _ _ _ _ _ _ (And.intro (hN _ _ _ rfl) ?_); show P _ _ (aR _ _ :: _) _ _ _))
        refine hP _ _ _ _ _ _ (n_isSheet (by omega) ?_)
        rw [hx]
        repeat (first | (refine hP _ _ _ _ _ _ ?_; show P _ _ _ _ _ _) | (refine hP _ _ _ _ _ _ (And.intro (hN _ _ _ rfl) ?_); show P _ _ (aR _ _ :: _) _ _ _) | refine hP _ _ _ _ _ _ (And.intro (fun _ => ?_) (fun hc => absurd hc (by decide))) | refine hP _ _ _ _ _ _ (And.intro (fun hc => absurd hc (by decide)) (fun _ => ?_)))
        refine hP _ _ _ _ _ _ (n_in0 (m := 2) (by omega) (by omega) ?_)
        rw [hy]
        repeat (first | (refine hP _ _ _ _ _ _ ?_; show P _ _ _ _ _ _) | (refine hP _ _ _ _ _ _ (And.intro (hN _ _ _ rfl) ?_); show P _ _ (aR _ _ :: _) _ _ _) | refine hP _ _ _ _ _ _ (And.intro (fun _ => ?_) (fun hc => absurd hc (by decide))) | refine hP _ _ _ _ _ _ (And.intro (fun hc => absurd hc (by decide)) (fun _ => ?_)))
        exact hP _ _ _ _ _ _ (hK'))
      repeat (first | (refine hP _ _ _ _ _ _ ?_; show P _ _ _ _ _ _) | (refine hP _ _ _ _ _ _ (And.intro (hN _ _ _ rfl) ?_); show P _ _ (aR _ _ :: _) _ _ _) | refine hP _ _ _ _ _ _ (And.intro (fun _ => ?_) (fun hc => absurd hc (by decide))) | refine hP _ _ _ _ _ _ (And.intro (fun hc => absurd hc (by decide)) (fun _ => ?_)))
      exact hP _ _ _ _ _ _ (fin)
    | true =>
      obtain ⟨u, hu, -, rfl⟩ := isD_of hy
      have bad : isD 6 n = false → K (some (aI (-2))) S := fun hb => hK S (aI (-2)) ⟨_, rfl⟩ (by omega) (fun d' K' hd' hK' => by
        have hK' := hK' S hTT
        refine Call.of (k := 199) hd' (fun e he P hP => ?_)
        repeat (first | (refine hP _ _ _ _ _ _ ?_; show P _ _ _ _ _ _) | (refine hP _ _ _ _ _ _ (And.intro (hN _ _ _ rfl) ?_); show P _ _ (aR _ _ :: _) _ _ _))
        refine hP _ _ _ _ _ _ (n_isSheet (by omega) ?_)
        rw [hx]
        repeat (first | (refine hP _ _ _ _ _ _ ?_; show P _ _ _ _ _ _) | (refine hP _ _ _ _ _ _ (And.intro (hN _ _ _ rfl) ?_); show P _ _ (aR _ _ :: _) _ _ _) | refine hP _ _ _ _ _ _ (And.intro (fun _ => ?_) (fun hc => absurd hc (by decide))) | refine hP _ _ _ _ _ _ (And.intro (fun hc => absurd hc (by decide)) (fun _ => ?_)))
        refine hP _ _ _ _ _ _ (n_in0 (m := 2) (by omega) (by omega) ?_)
        rw [hy]
        repeat (first | (refine hP _ _ _ _ _ _ ?_; show P _ _ _ _ _ _) | (refine hP _ _ _ _ _ _ (And.intro (hN _ _ _ rfl) ?_); show P _ _ (aR _ _ :: _) _ _ _) | refine hP _ _ _ _ _ _ (And.intro (fun _ => ?_) (fun hc => absurd hc (by decide))) | refine hP _ _ _ _ _ _ (And.intro (fun hc => absurd hc (by decide)) (fun _ => ?_)))
        refine hP _ _ _ _ _ _ (n_in0 (m := 5) (by omega) (by omega) ?_)
        rw [hb]
        repeat (first | (refine hP _ _ _ _ _ _ ?_; show P _ _ _ _ _ _) | (refine hP _ _ _ _ _ _ (And.intro (hN _ _ _ rfl) ?_); show P _ _ (aR _ _ :: _) _ _ _) | refine hP _ _ _ _ _ _ (And.intro (fun _ => ?_) (fun hc => absurd hc (by decide))) | refine hP _ _ _ _ _ _ (And.intro (fun hc => absurd hc (by decide)) (fun _ => ?_)))
        exact hP _ _ _ _ _ _ (hK'))
      repeat (first | (refine hP _ _ _ _ _ _ ?_; show P _ _ _ _ _ _) | (refine hP _ _ _ _ _ _ (And.intro (hN _ _ _ rfl) ?_); show P _ _ (aR _ _ :: _) _ _ _) | refine hP _ _ _ _ _ _ (And.intro (fun _ => ?_) (fun hc => absurd hc (by decide))) | refine hP _ _ _ _ _ _ (And.intro (fun hc => absurd hc (by decide)) (fun _ => ?_)))
      rcases rng (x := n) (n := 6) (by omega) with ⟨hf, h0 | ⟨h0, h1⟩⟩ | ⟨m, hm, hf, rfl⟩
      · have fin := bad hf
        refine hP _ _ _ _ _ _ (And.intro (fun _ => ?_) (fun hc => absurd h0 hc))
        repeat (first | (refine hP _ _ _ _ _ _ ?_; show P _ _ _ _ _ _) | (refine hP _ _ _ _ _ _ (And.intro (hN _ _ _ rfl) ?_); show P _ _ (aR _ _ :: _) _ _ _))
        exact hP _ _ _ _ _ _ (fin)
      · have fin := bad hf
        refine hP _ _ _ _ _ _ (And.intro (fun hc => absurd hc h0) (fun _ => ?_))
        repeat (first | (refine hP _ _ _ _ _ _ ?_; show P _ _ _ _ _ _) | (refine hP _ _ _ _ _ _ (And.intro (hN _ _ _ rfl) ?_); show P _ _ (aR _ _ :: _) _ _ _))
        refine hP _ _ _ _ _ _ (And.intro (fun hc => absurd (Int32.le_trans h1 hc) (nI_ge (a := 5) (b := 6) (by decide) (by decide))) (fun _ => ?_))
        repeat (first | (refine hP _ _ _ _ _ _ ?_; show P _ _ _ _ _ _) | (refine hP _ _ _ _ _ _ (And.intro (hN _ _ _ rfl) ?_); show P _ _ (aR _ _ :: _) _ _ _))
        exact hP _ _ _ _ _ _ (fin)
      · obtain ⟨a1, a2, a3, a4, a5⟩ := hc0 g hg
        have htg := hm0.there hg
        refine hP _ _ _ _ _ _ (And.intro (fun hc => absurd hc (nI_pos (by omega))) (fun _ => ?_))
        repeat (first | (refine hP _ _ _ _ _ _ ?_; show P _ _ _ _ _ _) | (refine hP _ _ _ _ _ _ (And.intro (hN _ _ _ rfl) ?_); show P _ _ (aR _ _ :: _) _ _ _))
        refine hP _ _ _ _ _ _ (And.intro (fun _ => ?_) (fun hc => absurd (nI_le (a := m) (b := 5) (by omega) (by omega)) hc))
        repeat (first | (refine hP _ _ _ _ _ _ ?_; show P _ _ _ _ _ _) | (refine hP _ _ _ _ _ _ (And.intro (hN _ _ _ rfl) ?_); show P _ _ (aR _ _ :: _) _ _ _))
        refine hP _ _ _ _ _ _ (Exists.intro (g) (And.intro (And.intro (rfl) (show g < 4 from hg)) ?_))
        refine And.intro (hN _ _ _ (nn18 hg)) ?_
        show P _ _ (aR 20 g :: _) _ _ _
        repeat (first | (refine hP _ _ _ _ _ _ ?_; show P _ _ _ _ _ _) | (refine hP _ _ _ _ _ _ (And.intro (hN _ _ _ rfl) ?_); show P _ _ (aR _ _ :: _) _ _ _))
        rw [a1]
        by_cases hs0 : (sh g).1 = 0
        · have fin := hK S (aI (-11)) ⟨_, rfl⟩ (by omega) (fun d' K' hd' hK' => by
            have hK' := hK' S hTT
            refine Call.of (k := 199) hd' (fun e he P hP => ?_)
            repeat (first | (refine hP _ _ _ _ _ _ ?_; show P _ _ _ _ _ _) | (refine hP _ _ _ _ _ _ (And.intro (hN _ _ _ rfl) ?_); show P _ _ (aR _ _ :: _) _ _ _))
            refine hP _ _ _ _ _ _ (n_isSheet (by omega) ?_)
            rw [hx]
            repeat (first | (refine hP _ _ _ _ _ _ ?_; show P _ _ _ _ _ _) | (refine hP _ _ _ _ _ _ (And.intro (hN _ _ _ rfl) ?_); show P _ _ (aR _ _ :: _) _ _ _) | refine hP _ _ _ _ _ _ (And.intro (fun _ => ?_) (fun hc => absurd hc (by decide))) | refine hP _ _ _ _ _ _ (And.intro (fun hc => absurd hc (by decide)) (fun _ => ?_)))
            refine hP _ _ _ _ _ _ (n_in0 (m := 2) (by omega) (by omega) ?_)
            rw [hy]
            repeat (first | (refine hP _ _ _ _ _ _ ?_; show P _ _ _ _ _ _) | (refine hP _ _ _ _ _ _ (And.intro (hN _ _ _ rfl) ?_); show P _ _ (aR _ _ :: _) _ _ _) | refine hP _ _ _ _ _ _ (And.intro (fun _ => ?_) (fun hc => absurd hc (by decide))) | refine hP _ _ _ _ _ _ (And.intro (fun hc => absurd hc (by decide)) (fun _ => ?_)))
            refine hP _ _ _ _ _ _ (n_in0 (m := 5) (by omega) (by omega) ?_)
            rw [hf]
            repeat (first | (refine hP _ _ _ _ _ _ ?_; show P _ _ _ _ _ _) | (refine hP _ _ _ _ _ _ (And.intro (hN _ _ _ rfl) ?_); show P _ _ (aR _ _ :: _) _ _ _) | refine hP _ _ _ _ _ _ (And.intro (fun _ => ?_) (fun hc => absurd hc (by decide))) | refine hP _ _ _ _ _ _ (And.intro (fun hc => absurd hc (by decide)) (fun _ => ?_)))
            refine hP _ _ _ _ _ _ (Exists.intro (g) (And.intro (And.intro (rfl) (show g < 4 from hg)) ?_))
            rw [htg, hs0]
            repeat (first | (refine hP _ _ _ _ _ _ ?_; show P _ _ _ _ _ _) | (refine hP _ _ _ _ _ _ (And.intro (hN _ _ _ rfl) ?_); show P _ _ (aR _ _ :: _) _ _ _) | refine hP _ _ _ _ _ _ (And.intro (fun _ => ?_) (fun hc => absurd hc (by decide))) | refine hP _ _ _ _ _ _ (And.intro (fun hc => absurd hc (by decide)) (fun _ => ?_)))
            refine hP _ _ _ _ _ _ (Exists.intro (g) (And.intro (And.intro (rfl) (show g < 4 from hg)) ?_))
            rw [htg, hs0]
            repeat (first | (refine hP _ _ _ _ _ _ ?_; show P _ _ _ _ _ _) | (refine hP _ _ _ _ _ _ (And.intro (hN _ _ _ rfl) ?_); show P _ _ (aR _ _ :: _) _ _ _) | refine hP _ _ _ _ _ _ (And.intro (fun _ => ?_) (fun hc => absurd hc (by decide))) | refine hP _ _ _ _ _ _ (And.intro (fun hc => absurd hc (by decide)) (fun _ => ?_)))
            exact hP _ _ _ _ _ _ (hK'))
          rw [hs0]
          repeat (first | (refine hP _ _ _ _ _ _ ?_; show P _ _ _ _ _ _) | (refine hP _ _ _ _ _ _ (And.intro (hN _ _ _ rfl) ?_); show P _ _ (aR _ _ :: _) _ _ _) | refine hP _ _ _ _ _ _ (And.intro (fun _ => ?_) (fun hc => absurd hc (by decide))) | refine hP _ _ _ _ _ _ (And.intro (fun hc => absurd hc (by decide)) (fun _ => ?_)))
          exact hP _ _ _ _ _ _ (fin)
        · have ht1 : S.1 55 0 g = 1 := by rw [htg, decide_eq_true hs0]; rfl
          obtain ⟨m1, m2, m3⟩ := (hm0 g hg).2 hs0
          refine hP _ _ _ _ _ _ (And.intro (fun _ => ?_) (fun hc => absurd hc (nI_p1n (by omega) (by omega))))
          repeat (first | (refine hP _ _ _ _ _ _ ?_; show P _ _ _ _ _ _) | (refine hP _ _ _ _ _ _ (And.intro (hN _ _ _ rfl) ?_); show P _ _ (aR _ _ :: _) _ _ _))
          rw [a1]
          by_cases hsu : (sh g).1 = u + 1
          · refine hP _ _ _ _ _ _ (And.intro (fun _ => ?_) (fun hc => absurd (by rw [hsu, nI_pred]) hc))
            repeat (first | (refine hP _ _ _ _ _ _ ?_; show P _ _ _ _ _ _) | (refine hP _ _ _ _ _ _ (And.intro (hN _ _ _ rfl) ?_); show P _ _ (aR _ _ :: _) _ _ _))
            cases hz : isD 41 z with
            | true =>
              obtain ⟨a, ha, -, rfl⟩ := isD_of hz
              refine c_roomL (P := P) (tv := tvG tb) (nT := nT) (v := (sh g).2.2) (I := I) (K := K) (S := S) (res := rmX (sh g).2.2 (sh g).2.1 a m 0 0 F) (by omega) hP (show m ≤ 5 by omega) hg (by omega) a4 a3 a5 (fun S1 g1 hX1 hz1 hp1 => ?_) m 0 0 F S none (by omega) (Nat.le_refl 0) (Ag.rf _ _) hX hz0 hT.2.1 rfl
              have hm1 : SHm S1 sh := hm0.up (fun j i k b c => g1.1 j i k (by simp only [wFl]; omega))
              obtain ⟨n1, n2, n3⟩ := (hm1 g hg).2 hs0
              have hM1 := hT.m2 g1
              refine hK S1 _ ⟨_, rfl⟩ (by rw [g1.2]; omega) (fun d' K' hd' hK' => n_room_pre (by omega) (hN0.up g1) hm1 hg hu hsu (by omega) (fun e he P hP => ?_))
              exact n_roomL (P := P) (tv := tvG tb) (nT := nT) (v := (sh g).2.2) (S := S1) (res := rmX (sh g).2.2 (sh g).2.1 a m 0 0 F) (by omega) hP (show m ≤ 5 by omega) hg (by omega) a4 n2 n3 (fun S2 g2 hM2 => hK' S2 ⟨_, I, sh, T, nT, tb, hT.fl2 g1 hX1.2.1 hz1 g2 hM2 hp1⟩) m 0 0 F S1 none (by omega) (Nat.le_refl 0) (Ag.rf _ _) hM1 rfl
            | false =>
              by_cases hm00 : m = 0
              · subst hm00
                have fin := hK S (aI 0) ⟨_, rfl⟩ (by omega) (fun d' K' hd' hK' => n_room_pre (by omega) hN0 hm0 hg hu hsu (by omega) (fun e he P hP => by
                  have hK' := hK' S hTT
                  refine hP _ _ _ _ _ _ (And.intro (fun _ => ?_) (fun hc => absurd (nI_le (Nat.le_refl 0) (by omega)) hc))
                  repeat (first | (refine hP _ _ _ _ _ _ ?_; show P _ _ _ _ _ _) | (refine hP _ _ _ _ _ _ (And.intro (hN _ _ _ rfl) ?_); show P _ _ (aR _ _ :: _) _ _ _))
                  exact hP _ _ _ _ _ _ (hK')))
                refine hP _ _ _ _ _ _ (And.intro (fun _ => ?_) (fun hc => absurd (nI_le (a := 0) (b := 0) (Nat.le_refl 0) (by omega)) hc))
                repeat (first | (refine hP _ _ _ _ _ _ ?_; show P _ _ _ _ _ _) | (refine hP _ _ _ _ _ _ (And.intro (hN _ _ _ rfl) ?_); show P _ _ (aR _ _ :: _) _ _ _))
                exact hP _ _ _ _ _ _ (fin)
              · have fin := hK S (aI (-12)) ⟨_, rfl⟩ (by omega) (fun d' K' hd' hK' => n_room_pre (by omega) hN0 hm0 hg hu hsu (by omega) (fun e he P hP => by
                  have hK' := hK' S hTT
                  refine hP _ _ _ _ _ _ (And.intro (fun hc => absurd hc (nI_ge (a := 0) (b := m) (by omega) (by omega))) (fun _ => ?_))
                  repeat (first | (refine hP _ _ _ _ _ _ ?_; show P _ _ _ _ _ _) | (refine hP _ _ _ _ _ _ (And.intro (hN _ _ _ rfl) ?_); show P _ _ (aR _ _ :: _) _ _ _))
                  refine hP _ _ _ _ _ _ (And.intro (fun hz1 => ?_) (fun hz1 => ?_))
                  · repeat (first | (refine hP _ _ _ _ _ _ ?_; show P _ _ _ _ _ _) | (refine hP _ _ _ _ _ _ (And.intro (hN _ _ _ rfl) ?_); show P _ _ (aR _ _ :: _) _ _ _))
                    exact hP _ _ _ _ _ _ (hK')
                  · repeat (first | (refine hP _ _ _ _ _ _ ?_; show P _ _ _ _ _ _) | (refine hP _ _ _ _ _ _ (And.intro (hN _ _ _ rfl) ?_); show P _ _ (aR _ _ :: _) _ _ _))
                    refine hP _ _ _ _ _ _ (Exists.intro (g) (And.intro (And.intro (rfl) (show g < 4 from hg)) ?_))
                    rw [m2]
                    repeat (first | (refine hP _ _ _ _ _ _ ?_; show P _ _ _ _ _ _) | (refine hP _ _ _ _ _ _ (And.intro (hN _ _ _ rfl) ?_); show P _ _ (aR _ _ :: _) _ _ _))
                    refine hP _ _ _ _ _ _ (And.intro (fun hc => absurd hc (szbig a4 hz hz1)) (fun _ => ?_))
                    repeat (first | (refine hP _ _ _ _ _ _ ?_; show P _ _ _ _ _ _) | (refine hP _ _ _ _ _ _ (And.intro (hN _ _ _ rfl) ?_); show P _ _ (aR _ _ :: _) _ _ _))
                    exact hP _ _ _ _ _ _ (hK')))
                refine hP _ _ _ _ _ _ (And.intro (fun hc => absurd hc (nI_ge (a := 0) (b := m) (by omega) (by omega))) (fun _ => ?_))
                repeat (first | (refine hP _ _ _ _ _ _ ?_; show P _ _ _ _ _ _) | (refine hP _ _ _ _ _ _ (And.intro (hN _ _ _ rfl) ?_); show P _ _ (aR _ _ :: _) _ _ _))
                refine hP _ _ _ _ _ _ (c_holds (by omega) hN a3 ?_)
                rw [hoB_big a4 hz]
                repeat (first | (refine hP _ _ _ _ _ _ ?_; show P _ _ _ _ _ _) | (refine hP _ _ _ _ _ _ (And.intro (hN _ _ _ rfl) ?_); show P _ _ (aR _ _ :: _) _ _ _) | refine hP _ _ _ _ _ _ (And.intro (fun _ => ?_) (fun hc => absurd hc (by decide))) | refine hP _ _ _ _ _ _ (And.intro (fun hc => absurd hc (by decide)) (fun _ => ?_)))
                exact hP _ _ _ _ _ _ (fin)
          · have hne : ¬ nI (sh g).1 - 1 = nI u := fun q => by
              obtain ⟨w, hw⟩ : ∃ w, (sh g).1 = w + 1 := ⟨(sh g).1 - 1, by omega⟩
              rw [hw, nI_pred] at q
              have := (nI_eq (by omega) (by omega)).mp q
              omega
            have fin := hK S (aI (-13)) ⟨_, rfl⟩ (by omega) (fun d' K' hd' hK' => by
              have hK' := hK' S hTT
              refine Call.of (k := 199) hd' (fun e he P hP => ?_)
              repeat (first | (refine hP _ _ _ _ _ _ ?_; show P _ _ _ _ _ _) | (refine hP _ _ _ _ _ _ (And.intro (hN _ _ _ rfl) ?_); show P _ _ (aR _ _ :: _) _ _ _))
              refine hP _ _ _ _ _ _ (n_isSheet (by omega) ?_)
              rw [hx]
              repeat (first | (refine hP _ _ _ _ _ _ ?_; show P _ _ _ _ _ _) | (refine hP _ _ _ _ _ _ (And.intro (hN _ _ _ rfl) ?_); show P _ _ (aR _ _ :: _) _ _ _) | refine hP _ _ _ _ _ _ (And.intro (fun _ => ?_) (fun hc => absurd hc (by decide))) | refine hP _ _ _ _ _ _ (And.intro (fun hc => absurd hc (by decide)) (fun _ => ?_)))
              refine hP _ _ _ _ _ _ (n_in0 (m := 2) (by omega) (by omega) ?_)
              rw [hy]
              repeat (first | (refine hP _ _ _ _ _ _ ?_; show P _ _ _ _ _ _) | (refine hP _ _ _ _ _ _ (And.intro (hN _ _ _ rfl) ?_); show P _ _ (aR _ _ :: _) _ _ _) | refine hP _ _ _ _ _ _ (And.intro (fun _ => ?_) (fun hc => absurd hc (by decide))) | refine hP _ _ _ _ _ _ (And.intro (fun hc => absurd hc (by decide)) (fun _ => ?_)))
              refine hP _ _ _ _ _ _ (n_in0 (m := 5) (by omega) (by omega) ?_)
              rw [hf]
              repeat (first | (refine hP _ _ _ _ _ _ ?_; show P _ _ _ _ _ _) | (refine hP _ _ _ _ _ _ (And.intro (hN _ _ _ rfl) ?_); show P _ _ (aR _ _ :: _) _ _ _) | refine hP _ _ _ _ _ _ (And.intro (fun _ => ?_) (fun hc => absurd hc (by decide))) | refine hP _ _ _ _ _ _ (And.intro (fun hc => absurd hc (by decide)) (fun _ => ?_)))
              refine hP _ _ _ _ _ _ (Exists.intro (g) (And.intro (And.intro (rfl) (show g < 4 from hg)) ?_))
              rw [ht1]
              repeat (first | (refine hP _ _ _ _ _ _ ?_; show P _ _ _ _ _ _) | (refine hP _ _ _ _ _ _ (And.intro (hN _ _ _ rfl) ?_); show P _ _ (aR _ _ :: _) _ _ _) | refine hP _ _ _ _ _ _ (And.intro (fun _ => ?_) (fun hc => absurd hc (by decide))) | refine hP _ _ _ _ _ _ (And.intro (fun hc => absurd hc (by decide)) (fun _ => ?_)))
              refine hP _ _ _ _ _ _ (Exists.intro (g) (And.intro (And.intro (rfl) (show g < 4 from hg)) ?_))
              rw [m1]
              repeat (first | (refine hP _ _ _ _ _ _ ?_; show P _ _ _ _ _ _) | (refine hP _ _ _ _ _ _ (And.intro (hN _ _ _ rfl) ?_); show P _ _ (aR _ _ :: _) _ _ _))
              refine hP _ _ _ _ _ _ (And.intro (fun hc => absurd hc hne) (fun _ => ?_))
              repeat (first | (refine hP _ _ _ _ _ _ ?_; show P _ _ _ _ _ _) | (refine hP _ _ _ _ _ _ (And.intro (hN _ _ _ rfl) ?_); show P _ _ (aR _ _ :: _) _ _ _))
              exact hP _ _ _ _ _ _ (hK'))
            refine hP _ _ _ _ _ _ (And.intro (fun hc => absurd hc hne) (fun _ => ?_))
            repeat (first | (refine hP _ _ _ _ _ _ ?_; show P _ _ _ _ _ _) | (refine hP _ _ _ _ _ _ (And.intro (hN _ _ _ rfl) ?_); show P _ _ (aR _ _ :: _) _ _ _))
            exact hP _ _ _ _ _ _ (fin)
