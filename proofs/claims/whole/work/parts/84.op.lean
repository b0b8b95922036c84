/-! strike -/
theorem c_readRing_neg {d : Nat} {S : St} {K : KT} {x : Int32} (hd : 3 ≤ d) (hN : NN S) (hx : x < 0) (h : K (some (aI 0)) S) : Call d m_X5_readRing [aR 0 0, aI x] S K := by
  refine Call.of (k := 2) hd (fun e he P hP => ?_)
  repeat (first | (refine hP _ _ _ _ _ _ ?_; show P _ _ _ _ _ _) | (refine hP _ _ _ _ _ _ (And.intro (hN _ _ _ rfl) ?_); show P _ _ (aR _ _ :: _) _ _ _))
  refine hP _ _ _ _ _ _ (And.intro (fun hc => absurd hc (nI_ge (a := 0) (b := 5) (by omega) (by omega))) (fun _ => ?_))
  repeat (first | (refine hP _ _ _ _ _ _ ?_; show P _ _ _ _ _ _) | (refine hP _ _ _ _ _ _ (And.intro (hN _ _ _ rfl) ?_); show P _ _ (aR _ _ :: _) _ _ _))
  refine hP _ _ _ _ _ _ (And.intro (fun _ => ?_) (fun hc => absurd (Int32.le_of_lt hx) hc))
  repeat (first | (refine hP _ _ _ _ _ _ ?_; show P _ _ _ _ _ _) | (refine hP _ _ _ _ _ _ (And.intro (hN _ _ _ rfl) ?_); show P _ _ (aR _ _ :: _) _ _ _))
  refine hP _ _ _ _ _ _ (And.intro (fun _ => ?_) (fun hc => absurd hx (by rw [hc]; decide)))
  repeat (first | (refine hP _ _ _ _ _ _ ?_; show P _ _ _ _ _ _) | (refine hP _ _ _ _ _ _ (And.intro (hN _ _ _ rfl) ?_); show P _ _ (aR _ _ :: _) _ _ _))
  exact hP _ _ _ _ _ _ (h)
theorem n_ringOf_neg {d : Nat} {S : St} {K : KT} {x : Int32} (hd : 3 ≤ d) (hN : NN S) (hx : x < 0) (h : K (some (aI 0)) S) : Call d m_X6_ringOf [aR 40 0, aI x] S K := by
  refine Call.of (k := 2) hd (fun e he P hP => ?_)
  repeat (first | (refine hP _ _ _ _ _ _ ?_; show P _ _ _ _ _ _) | (refine hP _ _ _ _ _ _ (And.intro (hN _ _ _ rfl) ?_); show P _ _ (aR _ _ :: _) _ _ _))
  refine hP _ _ _ _ _ _ (And.intro (fun _ => ?_) (fun hc => absurd (Int32.le_of_lt hx) hc))
  repeat (first | (refine hP _ _ _ _ _ _ ?_; show P _ _ _ _ _ _) | (refine hP _ _ _ _ _ _ (And.intro (hN _ _ _ rfl) ?_); show P _ _ (aR _ _ :: _) _ _ _))
  refine hP _ _ _ _ _ _ (And.intro (fun hc => absurd hc (fun z => absurd (Int32.lt_trans z hx) (by decide))) (fun _ => ?_))
  repeat (first | (refine hP _ _ _ _ _ _ ?_; show P _ _ _ _ _ _) | (refine hP _ _ _ _ _ _ (And.intro (hN _ _ _ rfl) ?_); show P _ _ (aR _ _ :: _) _ _ _))
  refine hP _ _ _ _ _ _ (And.intro (fun hc => absurd hc (by decide)) (fun _ => ?_))
  repeat (first | (refine hP _ _ _ _ _ _ ?_; show P _ _ _ _ _ _) | (refine hP _ _ _ _ _ _ (And.intro (hN _ _ _ rfl) ?_); show P _ _ (aR _ _ :: _) _ _ _))
  exact hP _ _ _ _ _ _ (h)
theorem op_strike (x : Int32) : OpA m_X5_strike m_X6_strike [aI x] isI := by
  intro d S K hd hT hK
  obtain ⟨F, I, sh, T, nT, tb, hT⟩ := hT
  have hX := hT.fx
  have hn5 := hX.2.2.1
  have hz := hT.2.2.2.1.2.2.2.1
  have hTT : TTx S := ⟨F, I, sh, T, nT, tb, hT⟩
  have w19 : ∀ j g k, (fun j _ _ => j = 19 : WW) j g k → wFl j g k := fun j g k z => by
    simp only [wFl]
    omega
  have m48 : ∀ j g k, (fun j _ _ => j = 48 : WW) j g k → mFl j g k := fun j g k z => by
    simp only [mFl]
    omega
  have same : ∀ S1 S2, Ag (fun j _ _ => j = 19) S S1 → Ag (fun j _ _ => j = 48) S1 S2 → TTx S2 := fun S1 S2 g1 g2 =>
    ⟨F, I, sh, T, nT, tb, hT.fl2 (g1.mono w19) (hX.2.1.up g1 (fun j k z => by omega)) (hz.up g1 (fun j k z => by omega)) (g2.mono m48) ((hT.m2 (g1.mono w19)).2.1.up g2 (fun j g k z => by omega)) hT.2.1⟩
  refine Call.of (k := 199) hd (fun e he P hP => ?_)
  have hN := hX.1.1
  repeat (first | (refine hP _ _ _ _ _ _ ?_; show P _ _ _ _ _ _) | (refine hP _ _ _ _ _ _ (And.intro (hN _ _ _ rfl) ?_); show P _ _ (aR _ _ :: _) _ _ _))
  by_cases hx : x < 0
  · have fin := hK S (aI (-2)) ⟨_, rfl⟩ (by omega) (fun d' K' hd' hK' => by
      have hK' := hK' S hTT
      refine Call.of (k := 199) hd' (fun e he P hP => ?_)
      have hN := hX.1.1
      repeat (first | (refine hP _ _ _ _ _ _ ?_; show P _ _ _ _ _ _) | (refine hP _ _ _ _ _ _ (And.intro (hN _ _ _ rfl) ?_); show P _ _ (aR _ _ :: _) _ _ _))
      refine hP _ _ _ _ _ _ (n_ringOf_neg (by omega) hN hx ?_)
      repeat (first | (refine hP _ _ _ _ _ _ ?_; show P _ _ _ _ _ _) | (refine hP _ _ _ _ _ _ (And.intro (hN _ _ _ rfl) ?_); show P _ _ (aR _ _ :: _) _ _ _))
      refine hP _ _ _ _ _ _ (And.intro (fun hc => absurd hc (fun z => z rfl)) (fun _ => ?_))
      repeat (first | (refine hP _ _ _ _ _ _ ?_; show P _ _ _ _ _ _) | (refine hP _ _ _ _ _ _ (And.intro (hN _ _ _ rfl) ?_); show P _ _ (aR _ _ :: _) _ _ _))
      exact hP _ _ _ _ _ _ (hK'))
    refine hP _ _ _ _ _ _ (c_readRing_neg (by omega) hN hx ?_)
    repeat (first | (refine hP _ _ _ _ _ _ ?_; show P _ _ _ _ _ _) | (refine hP _ _ _ _ _ _ (And.intro (hN _ _ _ rfl) ?_); show P _ _ (aR _ _ :: _) _ _ _))
    refine hP _ _ _ _ _ _ (And.intro (fun hc => absurd hc (by decide)) (fun _ => ?_))
    repeat (first | (refine hP _ _ _ _ _ _ ?_; show P _ _ _ _ _ _) | (refine hP _ _ _ _ _ _ (And.intro (hN _ _ _ rfl) ?_); show P _ _ (aR _ _ :: _) _ _ _))
    exact hP _ _ _ _ _ _ (fin)
  · obtain ⟨N, hNb, rfl⟩ := nI_of hx
    have bad : ∀ S1, Ag (fun j _ _ => j = 19) S S1 → (∀ l, l < 2 → (∀ r l' v, rdR F.n 5 N 0 0 (fun _ => 0) = some (r, l', v) → (if N ≤ 54321 ∧ 2 ≤ l' then l' else 0) = 0) → P 8 [some (aR 0 0), some (aI (nI N)), some (aI (nI l)), none, none] [aI 2, aI (nI l)] S1 0 0) := by
      intro S1 g1 l hl hm
      have hM := hT.m2 (g1.mono w19)
      have fin := hK S1 (aI (-2)) ⟨_, rfl⟩ (by rw [g1.2]; omega) (fun d' K' hd' hK' => by
        refine Call.of (k := 199) hd' (fun e he P hP => ?_)
        have hN := hM.1.1
        repeat (first | (refine hP _ _ _ _ _ _ ?_; show P _ _ _ _ _ _) | (refine hP _ _ _ _ _ _ (And.intro (hN _ _ _ rfl) ?_); show P _ _ (aR _ _ :: _) _ _ _))
        refine hP _ _ _ _ _ _ (n_ringOf (by omega) hN hM.2.1.1 hn5 hNb (fun S2 g2 hr => ?_) (fun S2 r l' v g2 hr hl5 c2 => ?_))
        · have hK' := hK' S2 (same S1 S2 g1 g2)
          repeat (first | (refine hP _ _ _ _ _ _ ?_; show P _ _ _ _ _ _) | (refine hP _ _ _ _ _ _ (And.intro (hN _ _ _ rfl) ?_); show P _ _ (aR _ _ :: _) _ _ _))
          refine hP _ _ _ _ _ _ (And.intro (fun hc => absurd hc (fun z => z rfl)) (fun _ => ?_))
          repeat (first | (refine hP _ _ _ _ _ _ ?_; show P _ _ _ _ _ _) | (refine hP _ _ _ _ _ _ (And.intro (hN _ _ _ rfl) ?_); show P _ _ (aR _ _ :: _) _ _ _))
          exact hP _ _ _ _ _ _ (hK')
        · have hK' := hK' S2 (same S1 S2 g1 g2)
          rw [hm r l' v hr]
          repeat (first | (refine hP _ _ _ _ _ _ ?_; show P _ _ _ _ _ _) | (refine hP _ _ _ _ _ _ (And.intro (hN _ _ _ rfl) ?_); show P _ _ (aR _ _ :: _) _ _ _))
          refine hP _ _ _ _ _ _ (And.intro (fun hc => absurd hc (fun z => z rfl)) (fun _ => ?_))
          repeat (first | (refine hP _ _ _ _ _ _ ?_; show P _ _ _ _ _ _) | (refine hP _ _ _ _ _ _ (And.intro (hN _ _ _ rfl) ?_); show P _ _ (aR _ _ :: _) _ _ _))
          exact hP _ _ _ _ _ _ (hK'))
      refine hP _ _ _ _ _ _ (And.intro (fun hc => absurd hc (nI_ge (a := l) (b := 2) hl (by omega))) (fun _ => ?_))
      repeat (first | (refine hP _ _ _ _ _ _ ?_; show P _ _ _ _ _ _) | (refine hP _ _ _ _ _ _ (And.intro (hN _ _ _ rfl) ?_); show P _ _ (aR _ _ :: _) _ _ _))
      exact hP _ _ _ _ _ _ (fin)
    refine hP _ _ _ _ _ _ (c_readRing (by omega) hN hX.2.1.1 hn5 hNb (fun S1 g1 hr => ?_) (fun S1 r l v g1 hr hl5 c1 => ?_))
    · have := bad S1 g1 0 (by omega) (fun r l' v z => by rw [hr] at z; cases z)
      repeat (first | (refine hP _ _ _ _ _ _ ?_; show P _ _ _ _ _ _) | (refine hP _ _ _ _ _ _ (And.intro (hN _ _ _ rfl) ?_); show P _ _ (aR _ _ :: _) _ _ _))
      exact this
    · obtain ⟨r1, r2, r3, r4⟩ := rg_same hn5 hr
      by_cases good : r = 0 ∧ 2 ≤ l
      · obtain ⟨rfl, l2⟩ := good
        have em : (if N ≤ 54321 ∧ 2 ≤ l then l else 0) = l := by
          rcases r4 with ⟨_, z⟩ | ⟨z, _⟩
          · rw [z, if_pos l2]
          · exact absurd rfl z
        rw [if_pos rfl]
        repeat (first | (refine hP _ _ _ _ _ _ ?_; show P _ _ _ _ _ _) | (refine hP _ _ _ _ _ _ (And.intro (hN _ _ _ rfl) ?_); show P _ _ (aR _ _ :: _) _ _ _))
        have hX1 := hX.up g1 (fun j g k z => by omega) (fun j k z => by omega)
        have hz1 := hz.up g1 (fun j k z => by omega)
        have hM1 := hT.m2 (g1.mono w19)
        refine c_strikeL (P := P) hX1 hz1 (by omega) hP l2 hl5 r2 r3 c1 (fun m0 => ?_) (fun m0 S2 g2 hF2 hz2 => ?_)
        · refine hK S1 (aI (-3)) ⟨_, rfl⟩ (by rw [g1.2]; omega) (fun d' K' hd' hK' => ?_)
          refine Call.of (k := 199) hd' (fun e he P hP => ?_)
          have hN := hM1.1.1
          repeat (first | (refine hP _ _ _ _ _ _ ?_; show P _ _ _ _ _ _) | (refine hP _ _ _ _ _ _ (And.intro (hN _ _ _ rfl) ?_); show P _ _ (aR _ _ :: _) _ _ _))
          refine hP _ _ _ _ _ _ (n_ringOf (by omega) hN hM1.2.1.1 hn5 hNb (fun S3 g3 hr3 => by rw [hr] at hr3; cases hr3) (fun S3 r' l' v' g3 hr3 hl5' c3 => ?_))
          rw [hr] at hr3
          simp only [Option.some.injEq, Prod.mk.injEq] at hr3
          obtain ⟨rfl, rfl, rfl⟩ := hr3
          rw [em]
          repeat (first | (refine hP _ _ _ _ _ _ ?_; show P _ _ _ _ _ _) | (refine hP _ _ _ _ _ _ (And.intro (hN _ _ _ rfl) ?_); show P _ _ (aR _ _ :: _) _ _ _))
          exact n_strikeL (P := P) (hM1.up g3 (fun j g k z => by omega) (fun j g k z => by omega)) (by omega) hP l2 hl5 r2 r3 c3 (fun _ => hK' S3 (same S1 S3 g1 g3)) (fun z => absurd m0 z)
        · have g12 : Ag wFl S S2 := (g1.mono w19).tr (g2.mono (fun j g k z => by simp only [wFl]; omega))
          refine hK S2 _ ⟨_, rfl⟩ (by rw [g12.2]; omega) (fun d' K' hd' hK' => ?_)
          have hM2 := hT.m2 g12
          refine Call.of (k := 199) hd' (fun e he P hP => ?_)
          have hN := hM2.1.1
          repeat (first | (refine hP _ _ _ _ _ _ ?_; show P _ _ _ _ _ _) | (refine hP _ _ _ _ _ _ (And.intro (hN _ _ _ rfl) ?_); show P _ _ (aR _ _ :: _) _ _ _))
          refine hP _ _ _ _ _ _ (n_ringOf (by omega) hN hM2.2.1.1 hn5 hNb (fun S3 g3 hr3 => by rw [hr] at hr3; cases hr3) (fun S3 r' l' v' g3 hr3 hl5' c3 => ?_))
          rw [hr] at hr3
          simp only [Option.some.injEq, Prod.mk.injEq] at hr3
          obtain ⟨rfl, rfl, rfl⟩ := hr3
          rw [em]
          repeat (first | (refine hP _ _ _ _ _ _ ?_; show P _ _ _ _ _ _) | (refine hP _ _ _ _ _ _ (And.intro (hN _ _ _ rfl) ?_); show P _ _ (aR _ _ :: _) _ _ _))
          refine n_strikeL (P := P) (hM2.up g3 (fun j g k z => by omega) (fun j g k z => by omega)) (by omega) hP l2 hl5 r2 r3 c3 (fun z => absurd z m0) (fun _ S4 g4 hM4 => hK' S4 ⟨skR F l v (mnR F l v l) l, I, sh, T, nT, tb, ?_⟩)
          obtain ⟨k1, k2, k3, k4⟩ := skR_n F l v (mnR F l v l) l
          have hW : ∀ k, k ≤ l → WF nT (skR F l v (mnR F l v l) k) := by
            intro k
            induction k with
            | zero => exact fun _ => hX.2.2
            | succ k ih =>
              intro hk
              have := hX.2.2.ow (r2 _ (nxR_lt (k := k) (show 0 < l by omega))) (r2 k (by omega))
              exact (ih (by omega)).sO _ _ (by omega)
          exact hT.fl2 g12 hF2 (by rw [k1]; exact hz2) ((g3.mono m48).tr (g4.mono (fun j g k z => by simp only [mFl]; omega))) hM4 (hT.2.1.ch (hW l (Nat.le_refl l)) (by rw [k2]; exact hT.2.1.2.1) (by rw [k3]; exact hT.2.1.2.2.1) (by rw [k1]; exact Nat.le_refl _) (fun a _ => by rw [k4]))
      · have := bad S1 g1 (if r = 0 then l else 0) (by
          by_cases e : r = 0
          · rw [if_pos e]
            have : ¬ 2 ≤ l := fun z => good ⟨e, z⟩
            omega
          · rw [if_neg e]
            omega) (fun r' l' v' z => by
          rw [hr] at z
          simp only [Option.some.injEq, Prod.mk.injEq] at z
          obtain ⟨rfl, rfl, rfl⟩ := z
          rcases r4 with ⟨e, z⟩ | ⟨_, z⟩
          · rw [z, if_neg (fun z => good ⟨e, z⟩)]
          · exact z)
        repeat (first | (refine hP _ _ _ _ _ _ ?_; show P _ _ _ _ _ _) | (refine hP _ _ _ _ _ _ (And.intro (hN _ _ _ rfl) ?_); show P _ _ (aR _ _ :: _) _ _ _))
        exact this
