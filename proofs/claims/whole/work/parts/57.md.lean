/-! The model: a set dances; the best set; the next round -/
theorem py_same {tv : TV} {F G : Fl} {a : Nat} (h : G.n = F.n ∧ G.rd = F.rd ∧ G.ni = F.ni ∧ G.ru = F.ru ∧ G.ki = F.ki ∧ G.nu = F.nu) (ho : ∀ y, G.ow y a = F.ow y a) (hd : G.dn a = F.dn a) (o : Nat) : pyN tv G a o = pyN tv F a o := by
  obtain ⟨h1, h2, h3, h4, h5, h6⟩ := h
  have hT : oT G a = oT F a := by
    unfold oT
    rw [h1]
    exact sN_congr (fun i _ => ho i)
  have hnm : nmN G a o = nmN F a o := by
    funext k
    rcases k with _ | _ | _ | _ | _ | k
    · rfl
    · show nI (oT G a) = nI (oT F a)
      rw [hT]
    · show nI (G.nu a) = nI (F.nu a)
      rw [h6]
    · show nI G.rd = nI F.rd
      rw [h2]
    · show nI (G.dn a) = nI (F.dn a)
      rw [hd]
    · show nI G.ni = nI F.ni
      rw [h3]
  have hv : vN tv G 0 a o = vN tv F 0 a o := by
    unfold vN
    rw [hnm, h4]
  unfold pyN evR
  rw [h5, h6, h2, hv]
theorem ds_step {tv : TV} {F : Fl} {i k : Nat} (hi : i < 26) (hk : k < 10) (hs : sb i k = true) : stpN tv (dsN tv F i k) (prA k) (prB k) = dsN tv F i (k + 1) ∧ spN tv (dsN tv F i k) (prA k) (prB k) = spN tv F (prA k) (prB k) := by
  have hn := dsN_n tv F i k
  have ha := dsN_at (tv := tv) (F := F) hi hk hs (prA k) (Or.inl rfl)
  have hb := dsN_at (tv := tv) (F := F) hi hk hs (prB k) (Or.inr rfl)
  have ea := fun o => py_same (tv := tv) (a := prA k) hn (fun y => (ha.1 y).1) ha.2 o
  have eb := fun o => py_same (tv := tv) (a := prB k) hn (fun y => (hb.1 y).1) hb.2 o
  constructor
  · show slN _ _ _ _ _ = _
    simp only [dsN, hs, if_true]
    rw [ea, eb, (ha.1 (prB k)).2, (ha.1 (prB k)).1]
  · unfold spN
    rw [ea, eb, (ha.1 (prB k)).2, (ha.1 (prB k)).1]
theorem mS_th2 : ∀ j g k, mS j g k → (fun j g k => mR j g k ∨ (50 ≤ j ∧ j ≤ 52)) j g k := fun j g k h => Or.inl (mS_R j g k h)
theorem n_dancesOf {tv : TV} {nT d i : Nat} {S : St} {K : KT} {F : Fl} (hd : 104 ≤ d) (hX : MX tv nT S F) (hi : i < 26) (hok : okS tv F i = true) (h : ∀ S', Ag mS S S' → MX tv nT S' (dsN tv F i 10) → K (some (aI (nI (pdN tv F i)))) S') : Call d m_X6_dancesOf [aR 40 0, aI (nI (setN i))] S K := by
  refine Call.of (k := 103) hd (fun e he P hP => ?_)
  have hn5 := hX.2.2.1
  have loop : ∀ k, k ≤ 10 → ∀ S1, Ag mS S S1 → MX tv nT S1 (dsN tv F i k) → P 7 [some (aR 40 0), some (aI (nI (setN i))), some (aI (nI (sN (fun k => cond (sb i k) (spN tv F (prA k) (prB k)) 0) k))), some (aI (nI k))] [aI 10, aI (nI k)] S1 0 0 := by
    refine dn ?_ ?_
    · intro S1 g1 hX1
      refine hP _ _ _ _ _ _ (And.intro (fun _ => ?_) (fun hc => absurd (nI_le (Nat.le_refl 10) (by decide)) hc))
      repeat (first | (refine hP _ _ _ _ _ _ ?_; show P _ _ _ _ _ _) | (refine hP _ _ _ _ _ _ (And.intro (hN _ _ _ rfl) ?_); show P _ _ (aR _ _ :: _) _ _ _))
      exact hP _ _ _ _ _ _ (h S1 g1 hX1)
    · intro k hk ih S1 g1 hX1
      have hN := hX1.1.1
      obtain ⟨p1, p2⟩ := pr_lt k hk
      have nk := (dsN_n tv F i k).1
      rw [nI_succ] at ih
      refine hP _ _ _ _ _ _ (And.intro (fun hc => absurd hc (nI_ge (b := 10) hk (by decide))) (fun _ => ?_))
      repeat (first | (refine hP _ _ _ _ _ _ ?_; show P _ _ _ _ _ _) | (refine hP _ _ _ _ _ _ (And.intro (hN _ _ _ rfl) ?_); show P _ _ (aR _ _ :: _) _ _ _))
      refine hP _ _ _ _ _ _ (And.intro (fun hc => ?_) (fun hc => ?_))
      · have hs : sb i k = false := by
          have := mt (sb_bit i hi k hk).mpr hc
          simpa using this
        have he : dsN tv F i (k + 1) = dsN tv F i k := by simp only [dsN, hs, Bool.false_eq_true, if_false]
        simp only [sN, hs, cond, Nat.add_zero] at ih
        repeat (first | (refine hP _ _ _ _ _ _ ?_; show P _ _ _ _ _ _) | (refine hP _ _ _ _ _ _ (And.intro (hN _ _ _ rfl) ?_); show P _ _ (aR _ _ :: _) _ _ _))
        rw [Int32.add_zero]
        exact ih S1 g1 (by rw [he]; exact hX1)
      · have hs : sb i k = true := (sb_bit i hi k hk).mp hc
        have hlt := okN_lt (okS_iff.mp hok k hk hs)
        obtain ⟨d1, d2⟩ := ds_step (tv := tv) (F := F) hi hk hs
        simp only [sN, hs, cond] at ih
        repeat (first | (refine hP _ _ _ _ _ _ ?_; show P _ _ _ _ _ _) | (refine hP _ _ _ _ _ _ (And.intro (hN _ _ _ rfl) ?_); show P _ _ (aR _ _ :: _) _ _ _))
        refine hP _ _ _ _ _ _ (n_both (by omega) hk ?_)
        repeat (first | (refine hP _ _ _ _ _ _ ?_; show P _ _ _ _ _ _) | (refine hP _ _ _ _ _ _ (And.intro (hN _ _ _ rfl) ?_); show P _ _ (aR _ _ :: _) _ _ _))
        refine hP _ _ _ _ _ _ (n_lesser (by omega) hk ?_)
        repeat (first | (refine hP _ _ _ _ _ _ ?_; show P _ _ _ _ _ _) | (refine hP _ _ _ _ _ _ (And.intro (hN _ _ _ rfl) ?_); show P _ _ (aR _ _ :: _) _ _ _))
        refine hP _ _ _ _ _ _ (n_both (by omega) hk ?_)
        repeat (first | (refine hP _ _ _ _ _ _ ?_; show P _ _ _ _ _ _) | (refine hP _ _ _ _ _ _ (And.intro (hN _ _ _ rfl) ?_); show P _ _ (aR _ _ :: _) _ _ _))
        refine hP _ _ _ _ _ _ (n_greater (by omega) hk ?_)
        repeat (first | (refine hP _ _ _ _ _ _ ?_; show P _ _ _ _ _ _) | (refine hP _ _ _ _ _ _ (And.intro (hN _ _ _ rfl) ?_); show P _ _ (aR _ _ :: _) _ _ _))
        refine hP _ _ _ _ _ _ (n_danceBoth (by omega) hX1 (by omega) (by omega) (by omega) (fun S2 g2 hX2 => ?_))
        rw [d1] at hX2
        rw [d2]
        repeat (first | (refine hP _ _ _ _ _ _ ?_; show P _ _ _ _ _ _) | (refine hP _ _ _ _ _ _ (And.intro (hN _ _ _ rfl) ?_); show P _ _ (aR _ _ :: _) _ _ _))
        rw [nI_add]
        exact ih S2 (g1.tr g2) hX2
  repeat (first | (refine hP _ _ _ _ _ _ ?_; show P _ _ _ _ _ _) | (refine hP _ _ _ _ _ _ (And.intro (hN _ _ _ rfl) ?_); show P _ _ (aR _ _ :: _) _ _ _))
  exact loop 0 (by omega) S (Ag.rf _ _) hX
theorem n_bestSet {tv : TV} {nT d w : Nat} {S : St} {K : KT} {F : Fl} (hd : 106 ≤ d) (hX : MX tv nT S F) (hw : w ≤ 1) (h : ∀ S', Ag mTh S S' → K (some (aI (if w = 0 then nI (setN (biN tv F 26)) else nI (pdN tv F (biN tv F 26))))) S') : Call d m_X6_bestSet [aR 40 0, aI (nI w)] S K := by
  refine Call.of (k := 105) hd (fun e he P hP => ?_)
  have hn5 := hX.2.2.1
  have loop : ∀ k, k ≤ 26 → (1 ≤ k → ∀ S1 x5 x6, Ag mTh S S1 → P 11 [some (aR 40 0), some (aI (nI w)), some (aI (nI (setN (biN tv F k)))), some (aI (nI (pdN tv F (biN tv F k)))), some (aI (nI k)), x5, x6] [aI 26, aI (nI k)] S1 0 0) := by
    refine dn ?_ ?_
    · intro _ S1 x5 x6 g1
      have h := h S1 g1
      refine hP _ _ _ _ _ _ (And.intro (fun _ => ?_) (fun hc => absurd (nI_le (Nat.le_refl 26) (by decide)) hc))
      repeat (first | (refine hP _ _ _ _ _ _ ?_; show P _ _ _ _ _ _) | (refine hP _ _ _ _ _ _ (And.intro (hN _ _ _ rfl) ?_); show P _ _ (aR _ _ :: _) _ _ _))
      rcases (show w = 0 ∨ w = 1 by omega) with rfl | rfl
      · repeat (first | (refine hP _ _ _ _ _ _ ?_; show P _ _ _ _ _ _) | (refine hP _ _ _ _ _ _ (And.intro (hN _ _ _ rfl) ?_); show P _ _ (aR _ _ :: _) _ _ _) | refine hP _ _ _ _ _ _ (And.intro (fun _ => ?_) (fun hc => absurd hc (by decide))) | refine hP _ _ _ _ _ _ (And.intro (fun hc => absurd hc (by decide)) (fun _ => ?_)))
        exact hP _ _ _ _ _ _ (h)
      · repeat (first | (refine hP _ _ _ _ _ _ ?_; show P _ _ _ _ _ _) | (refine hP _ _ _ _ _ _ (And.intro (hN _ _ _ rfl) ?_); show P _ _ (aR _ _ :: _) _ _ _) | refine hP _ _ _ _ _ _ (And.intro (fun _ => ?_) (fun hc => absurd hc (by decide))) | refine hP _ _ _ _ _ _ (And.intro (fun hc => absurd hc (by decide)) (fun _ => ?_)))
        exact hP _ _ _ _ _ _ (h)
    · intro k hk ih hk1 S1 x5 x6 g1
      have hX1 := hX.th g1
      have hN := hX1.1.1
      have hz := hX1.1.2.2 k hk
      have hb := biN_in tv F k (by omega)
      have hp := pdN_le (tv := tv) hX.2.2 hb.2
      have ih := ih (by omega)
      rw [nI_succ] at ih
      refine hP _ _ _ _ _ _ (And.intro (fun hc => absurd hc (nI_ge (b := 26) hk (by decide))) (fun _ => ?_))
      repeat (first | (refine hP _ _ _ _ _ _ ?_; show P _ _ _ _ _ _) | (refine hP _ _ _ _ _ _ (And.intro (hN _ _ _ rfl) ?_); show P _ _ (aR _ _ :: _) _ _ _))
      refine hP _ _ _ _ _ _ (Exists.intro (k) (And.intro (And.intro (rfl) (by show k < 26; omega)) ?_))
      rw [hz]
      repeat (first | (refine hP _ _ _ _ _ _ ?_; show P _ _ _ _ _ _) | (refine hP _ _ _ _ _ _ (And.intro (hN _ _ _ rfl) ?_); show P _ _ (aR _ _ :: _) _ _ _))
      refine hP _ _ _ _ _ _ (n_isSet (by omega) hX1 hk (fun S2 g2 => ?_))
      have hX2 := hX1.sc g2
      have hN2 := hX2.1.1
      have hN := hN2
      repeat (first | (refine hP _ _ _ _ _ _ ?_; show P _ _ _ _ _ _) | (refine hP _ _ _ _ _ _ (And.intro (hN _ _ _ rfl) ?_); show P _ _ (aR _ _ :: _) _ _ _))
      refine hP _ _ _ _ _ _ (bn2 (fun ho => ?_) (fun ho => ?_))
      · have e : biN tv F (k + 1) = biN tv F k := if_neg (fun z => by rw [ho] at z; cases z.1)
        rw [e] at ih
        repeat (first | (refine hP _ _ _ _ _ _ ?_; show P _ _ _ _ _ _) | (refine hP _ _ _ _ _ _ (And.intro (hN _ _ _ rfl) ?_); show P _ _ (aR _ _ :: _) _ _ _))
        exact ih S2 _ _ (g1.tr (g2.mono m0_th))
      · have hp2 := pdN_le (tv := tv) hX.2.2 ho
        repeat (first | (refine hP _ _ _ _ _ _ ?_; show P _ _ _ _ _ _) | (refine hP _ _ _ _ _ _ (And.intro (hN _ _ _ rfl) ?_); show P _ _ (aR _ _ :: _) _ _ _))
        refine hP _ _ _ _ _ _ (n_laysAside (by omega) hN2 (fun S3 g3 hv3 => ?_))
        have hX3 := hX2.up g3 w49_M w49_G
        have hN := hX3.1.1
        repeat (first | (refine hP _ _ _ _ _ _ ?_; show P _ _ _ _ _ _) | (refine hP _ _ _ _ _ _ (And.intro (hN _ _ _ rfl) ?_); show P _ _ (aR _ _ :: _) _ _ _))
        refine hP _ _ _ _ _ _ (n_dancesOf (by omega) hX3 hk ho (fun S4 g4 hX4 => ?_))
        have hN := hX4.1.1
        repeat (first | (refine hP _ _ _ _ _ _ ?_; show P _ _ _ _ _ _) | (refine hP _ _ _ _ _ _ (And.intro (hN _ _ _ rfl) ?_); show P _ _ (aR _ _ :: _) _ _ _))
        refine hP _ _ _ _ _ _ (n_laysBack (by omega) hX4.1.1 (hv3.up g4 (fun k => by simp only [mS]; omega)) (fun S5 g5 hr5 => ?_))
        have g15 : Ag mTh S S5 := (g1.tr (g2.mono m0_th)).tr (back_th g3 (g4.mono mS_th2) g5 hr5)
        repeat (first | (refine hP _ _ _ _ _ _ ?_; show P _ _ _ _ _ _) | (refine hP _ _ _ _ _ _ (And.intro (hN _ _ _ rfl) ?_); show P _ _ (aR _ _ :: _) _ _ _))
        refine hP _ _ _ _ _ _ (gtI (by omega) (by omega) (fun hc => ?_) (fun hc => ?_))
        · have e : biN tv F (k + 1) = biN tv F k := if_neg (fun z => hc z.2)
          rw [e] at ih
          repeat (first | (refine hP _ _ _ _ _ _ ?_; show P _ _ _ _ _ _) | (refine hP _ _ _ _ _ _ (And.intro (hN _ _ _ rfl) ?_); show P _ _ (aR _ _ :: _) _ _ _))
          exact ih S5 _ _ g15
        · have e : biN tv F (k + 1) = k := if_pos ⟨ho, hc⟩
          rw [e] at ih
          repeat (first | (refine hP _ _ _ _ _ _ ?_; show P _ _ _ _ _ _) | (refine hP _ _ _ _ _ _ (And.intro (hN _ _ _ rfl) ?_); show P _ _ (aR _ _ :: _) _ _ _))
          exact ih S5 _ _ g15
  repeat (first | (refine hP _ _ _ _ _ _ ?_; show P _ _ _ _ _ _) | (refine hP _ _ _ _ _ _ (And.intro (hN _ _ _ rfl) ?_); show P _ _ (aR _ _ :: _) _ _ _))
  have e1 : biN tv F 1 = 0 := by
    show (if _ then _ else _) = _
    split <;> rfl
  have := loop 1 (by omega) (Nat.le_refl _) S none none (Ag.rf _ _)
  rw [e1, pdN_0] at this
  exact this
/-- who sits the next round out -/
def siN (tv : TV) (F : Fl) : Int32 := ((1 : Int32) <<< (nI F.n &&& 31)) - 1 &&& (rdZ tv F ^^^ -1)
theorem n_nextRound {tv : TV} {nT d w : Nat} {S : St} {K : KT} {F : Fl} (hd : 106 ≤ d) (hX : MX tv nT S F) (hw : w = 2 ∨ w = 3) (h : ∀ S', Ag mTh S S' → K (some (aI (if w = 2 then siN tv F else nI (rdP tv F)))) S') : Call d m_X6_nextRound [aR 40 0, aI (nI w)] S K := by
  refine Call.of (k := 105) hd (fun e he P hP => ?_)
  have hN0 := hX.1.1
  have hN := hN0
  repeat (first | (refine hP _ _ _ _ _ _ ?_; show P _ _ _ _ _ _) | (refine hP _ _ _ _ _ _ (And.intro (hN _ _ _ rfl) ?_); show P _ _ (aR _ _ :: _) _ _ _))
  refine hP _ _ _ _ _ _ (n_laysAside (by omega) hN (fun S3 g3 hv3 => ?_))
  have hX3 := hX.up g3 w49_M w49_G
  have hN := hX3.1.1
  repeat (first | (refine hP _ _ _ _ _ _ ?_; show P _ _ _ _ _ _) | (refine hP _ _ _ _ _ _ (And.intro (hN _ _ _ rfl) ?_); show P _ _ (aR _ _ :: _) _ _ _))
  refine hP _ _ _ _ _ _ (n_passes (by omega) hX3 (fun S4 g4 hX4 hz => ?_))
  have hN := hX4.1.1
  repeat (first | (refine hP _ _ _ _ _ _ ?_; show P _ _ _ _ _ _) | (refine hP _ _ _ _ _ _ (And.intro (hN _ _ _ rfl) ?_); show P _ _ (aR _ _ :: _) _ _ _))
  rw [hz]
  refine hP _ _ _ _ _ _ (n_laysBack (by omega) hX4.1.1 (hv3.up g4 (fun k => by simp only [mR]; omega)) (fun S5 g5 hr5 => ?_))
  have g15 := back_th g3 (g4.mono mR_w) g5 hr5
  have h := h S5 g15
  have hX5 := hX.th g15
  have hN := hX5.1.1
  repeat (first | (refine hP _ _ _ _ _ _ ?_; show P _ _ _ _ _ _) | (refine hP _ _ _ _ _ _ (And.intro (hN _ _ _ rfl) ?_); show P _ _ (aR _ _ :: _) _ _ _))
  rcases hw with rfl | rfl
  · repeat (first | (refine hP _ _ _ _ _ _ ?_; show P _ _ _ _ _ _) | (refine hP _ _ _ _ _ _ (And.intro (hN _ _ _ rfl) ?_); show P _ _ (aR _ _ :: _) _ _ _) | refine hP _ _ _ _ _ _ (And.intro (fun _ => ?_) (fun hc => absurd hc (by decide))) | refine hP _ _ _ _ _ _ (And.intro (fun hc => absurd hc (by decide)) (fun _ => ?_)))
    rw [hX5.2.1.1]
    exact hP _ _ _ _ _ _ (h)
  · repeat (first | (refine hP _ _ _ _ _ _ ?_; show P _ _ _ _ _ _) | (refine hP _ _ _ _ _ _ (And.intro (hN _ _ _ rfl) ?_); show P _ _ (aR _ _ :: _) _ _ _) | refine hP _ _ _ _ _ _ (And.intro (fun _ => ?_) (fun hc => absurd hc (by decide))) | refine hP _ _ _ _ _ _ (And.intro (fun hc => absurd hc (by decide)) (fun _ => ?_)))
    exact hP _ _ _ _ _ _ (h)
