/-! drawn, run -/
theorem q_think {tv : TV} {nT d : Nat} {S : St} {K : KT} {F : Fl} (hd : 2 ≤ d) (hX : FX tv nT S 0 F) (h : ∀ S', Ag (wTk 2) S S' → FX tv nT S' 2 F → K (some (aR 10 2)) S') : Call d m_X5_think [aR 0 0] S K := by
  refine Call.of (k := 1) hd (fun e he P hP => ?_)
  have hN := hX.1.1
  repeat (first | (refine hP _ _ _ _ _ _ ?_; show P _ _ _ _ _ _) | (refine hP _ _ _ _ _ _ (And.intro (hN _ _ _ rfl) ?_); show P _ _ (aR _ _ :: _) _ _ _))
  refine hP _ _ _ _ _ _ (Exists.intro (0) (And.intro (And.intro (rfl) (by show 0 < 3; decide)) ?_))
  refine And.intro (hN _ _ _ rfl) ?_
  show P _ _ (aR 10 2 :: _) _ _ _
  repeat (first | (refine hP _ _ _ _ _ _ ?_; show P _ _ _ _ _ _) | (refine hP _ _ _ _ _ _ (And.intro (hN _ _ _ rfl) ?_); show P _ _ (aR _ _ :: _) _ _ _))
  refine hP _ _ _ _ _ _ (q_takeFrom (by omega) hN (by decide) (fun S1 g1 ht => ?_))
  have hN := hN.up g1
  repeat (first | (refine hP _ _ _ _ _ _ ?_; show P _ _ _ _ _ _) | (refine hP _ _ _ _ _ _ (And.intro (hN _ _ _ rfl) ?_); show P _ _ (aR _ _ :: _) _ _ _))
  refine hP _ _ _ _ _ _ (Exists.intro (0) (And.intro (And.intro (rfl) (by show 0 < 3; decide)) ?_))
  refine And.intro (hN _ _ _ rfl) ?_
  show P _ _ (aR 10 2 :: _) _ _ _
  exact hP _ _ _ _ _ _ (h S1 g1 (hX.tk g1 ht))
theorem wTk_th {k : Nat} (hk : 2 ≤ k) : ∀ j g i, wTk k j g i → wTH j g i := by
  intro j g i z
  simp only [wTk] at z
  simp only [wTH]
  omega
theorem wR_th {f : Nat} (hf : 2 ≤ f) : ∀ j g i, wR f j g i → wTH j g i := by
  intro j g i z
  simp only [wR] at z
  simp only [wTH]
  omega
theorem wRn_th {f n : Nat} (hf : 2 ≤ f) : ∀ j g i, wRn f n j g i → wTH j g i := by
  intro j g i z
  simp only [wRn] at z
  simp only [wTH]
  omega
theorem wDr_th {f : Nat} (hf : 2 ≤ f) : ∀ j g i, wDr f j g i → wTH j g i := by
  intro j g i z
  simp only [wDr] at z
  simp only [wTH]
  omega
theorem w0_th : ∀ j g i, w0 j g i → wTH j g i := by
  intro j g i z
  simp only [w0] at z
  simp only [wTH]
  omega
theorem op_drawn (x : Int32) : OpA m_X5_drawn m_X6_drawn [aI x] isI := by
  intro d S K hd hT hK
  obtain ⟨F, I, sh, T, nT, tb, hT⟩ := hT
  have hX := hT.fx
  refine Call.of (k := 199) hd (fun e he P hP => ?_)
  have hN := hX.1.1
  repeat (first | (refine hP _ _ _ _ _ _ ?_; show P _ _ _ _ _ _) | (refine hP _ _ _ _ _ _ (And.intro (hN _ _ _ rfl) ?_); show P _ _ (aR _ _ :: _) _ _ _))
  refine hP _ _ _ _ _ _ (q_think (by omega) hX (fun S1 g1 hX1 => ?_))
  have hN := hX1.1.1
  repeat (first | (refine hP _ _ _ _ _ _ ?_; show P _ _ _ _ _ _) | (refine hP _ _ _ _ _ _ (And.intro (hN _ _ _ rfl) ?_); show P _ _ (aR _ _ :: _) _ _ _))
  refine hP _ _ _ _ _ _ (q_draw (by omega) hX1 (fun S2 g2 hX2 => ?_))
  have hN := hX2.1.1
  repeat (first | (refine hP _ _ _ _ _ _ ?_; show P _ _ _ _ _ _) | (refine hP _ _ _ _ _ _ (And.intro (hN _ _ _ rfl) ?_); show P _ _ (aR _ _ :: _) _ _ _))
  refine hP _ _ _ _ _ _ (q_ends (by omega) hX2 (fun S3 g3 => ?_))
  have g : Ag wTH S S3 := ((g1.mono (wTk_th (by omega))).tr (g2.mono (wDr_th (by omega)))).tr (g3.mono (wR_th (by omega)))
  repeat (first | (refine hP _ _ _ _ _ _ ?_; show P _ _ _ _ _ _) | (refine hP _ _ _ _ _ _ (And.intro (hN _ _ _ rfl) ?_); show P _ _ (aR _ _ :: _) _ _ _))
  refine hP _ _ _ _ _ _ (hK S3 _ ⟨_, rfl⟩ (by rw [g.2]; omega) (fun d' K' hd' hK' => ?_))
  have hM := hT.m1 g
  refine Call.of (k := 199) hd' (fun e he P hP => ?_)
  have hN := hM.1.1
  repeat (first | (refine hP _ _ _ _ _ _ ?_; show P _ _ _ _ _ _) | (refine hP _ _ _ _ _ _ (And.intro (hN _ _ _ rfl) ?_); show P _ _ (aR _ _ :: _) _ _ _))
  refine hP _ _ _ _ _ _ (n_endsDrawn (by omega) hM (fun S4 g4 => ?_))
  repeat (first | (refine hP _ _ _ _ _ _ ?_; show P _ _ _ _ _ _) | (refine hP _ _ _ _ _ _ (And.intro (hN _ _ _ rfl) ?_); show P _ _ (aR _ _ :: _) _ _ _))
  exact hP _ _ _ _ _ _ (hK' S4 ⟨F, I, sh, T, nT, tb, hT.th2 g g4⟩)
def itF (tv : TV) (F : Fl) : Nat → Fl
  | 0 => F
  | k + 1 => rdF tv (itF tv F k)
theorem itF_n (tv : TV) (F : Fl) : ∀ k, (itF tv F k).n = F.n
  | 0 => rfl
  | k + 1 => by rw [← itF_n tv F k]; exact (rdF_all tv _).1
def rnI (G : Fl) (w a b : Nat) : Int32 := match w with
  | 0 => nI (oA G)
  | 1 => soN G G.n
  | _ => nI (G.ow a b)
theorem c_run {tv : TV} {nT d n w a b : Nat} {S : St} {K : KT} {F : Fl} {x y : Int32} (hd : 100 ≤ d) (hX : FX tv nT S 0 F) (hn : n ≤ 40) (hw : w ≤ 2) (hab : w = 2 → a < F.n ∧ b < F.n ∧ ¬ a = b ∧ x = nI a ∧ y = nI b) (h : ∀ S', Ag wTH S S' → K (some (aI (rnI (itF tv F n) w a b))) S') : Call d m_X5_run [aR 0 0, aI (nI n), aI x, aI y, aI (nI w)] S K := by
  refine Call.of (k := 99) hd (fun e he P hP => ?_)
  have hN := hX.1.1
  have hn5 := hX.2.2.1
  have rest : P 40 [some (aR 0 0), some (aI (nI n)), some (aI x), some (aI y), some (aI (nI w)), none, none] [aR 0 0] S 0 0 := by
    refine hP _ _ _ _ _ _ (q_think (by omega) hX (fun S1 g1 hX1 => ?_))
    have loop : ∀ p, p ≤ n → ∀ S2, Ag wTH S S2 → FX tv nT S2 2 (itF tv F p) → P 51 [some (aR 0 0), some (aI (nI n)), some (aI x), some (aI y), some (aI (nI w)), some (aR 10 2), some (aI (nI p))] [aI (nI n), aI (nI p)] S2 0 0 := by
      refine dn ?_ ?_
      · intro S2 g2 hX2
        have h := h S2 g2
        have hN := hX2.1.1
        have nn := itF_n tv F n
        refine hP _ _ _ _ _ _ (And.intro (fun _ => ?_) (fun hc => absurd (nI_le (Nat.le_refl n) (by omega)) hc))
        repeat (first | (refine hP _ _ _ _ _ _ ?_; show P _ _ _ _ _ _) | (refine hP _ _ _ _ _ _ (And.intro (hN _ _ _ rfl) ?_); show P _ _ (aR _ _ :: _) _ _ _))
        rcases (show w = 0 ∨ w = 1 ∨ w = 2 by omega) with rfl | rfl | rfl
        · refine hP _ _ _ _ _ _ (swP_to ?_)
          show P 96 _ _ _ _ _
          repeat (first | (refine hP _ _ _ _ _ _ ?_; show P _ _ _ _ _ _) | (refine hP _ _ _ _ _ _ (And.intro (hN _ _ _ rfl) ?_); show P _ _ (aR _ _ :: _) _ _ _))
          refine hP _ _ _ _ _ _ (q_all (by omega) hX2 ?_)
          repeat (first | (refine hP _ _ _ _ _ _ ?_; show P _ _ _ _ _ _) | (refine hP _ _ _ _ _ _ (And.intro (hN _ _ _ rfl) ?_); show P _ _ (aR _ _ :: _) _ _ _))
          exact hP _ _ _ _ _ _ (h)
        · refine hP _ _ _ _ _ _ (swP_to ?_)
          show P 102 _ _ _ _ _
          repeat (first | (refine hP _ _ _ _ _ _ ?_; show P _ _ _ _ _ _) | (refine hP _ _ _ _ _ _ (And.intro (hN _ _ _ rfl) ?_); show P _ _ (aR _ _ :: _) _ _ _))
          refine hP _ _ _ _ _ _ (q_stillOwed (by omega) hX2 ?_)
          repeat (first | (refine hP _ _ _ _ _ _ ?_; show P _ _ _ _ _ _) | (refine hP _ _ _ _ _ _ (And.intro (hN _ _ _ rfl) ?_); show P _ _ (aR _ _ :: _) _ _ _))
          exact hP _ _ _ _ _ _ (h)
        · obtain ⟨ha, hb, -, rfl, rfl⟩ := hab rfl
          refine hP _ _ _ _ _ _ (swP_to ?_)
          show P 108 _ _ _ _ _
          repeat (first | (refine hP _ _ _ _ _ _ ?_; show P _ _ _ _ _ _) | (refine hP _ _ _ _ _ _ (And.intro (hN _ _ _ rfl) ?_); show P _ _ (aR _ _ :: _) _ _ _))
          refine hP _ _ _ _ _ _ (q_owing (by omega) hX2 (by rw [nn]; exact ha) (by rw [nn]; exact hb) ?_)
          repeat (first | (refine hP _ _ _ _ _ _ ?_; show P _ _ _ _ _ _) | (refine hP _ _ _ _ _ _ (And.intro (hN _ _ _ rfl) ?_); show P _ _ (aR _ _ :: _) _ _ _))
          exact hP _ _ _ _ _ _ (h)
      · intro p hp ih S2 g2 hX2
        have hN := hX2.1.1
        rw [nI_succ p] at ih
        refine hP _ _ _ _ _ _ (And.intro (fun hc => absurd hc (nI_ge hp (by omega))) (fun _ => ?_))
        repeat (first | (refine hP _ _ _ _ _ _ ?_; show P _ _ _ _ _ _) | (refine hP _ _ _ _ _ _ (And.intro (hN _ _ _ rfl) ?_); show P _ _ (aR _ _ :: _) _ _ _))
        refine hP _ _ _ _ _ _ (q_danceRound (by omega) hX2 (fun S3 g3 hX3 _ => ?_))
        have := ih S3 (g2.tr (g3.mono (wRn_th (by omega)))) hX3
        repeat (first | (refine hP _ _ _ _ _ _ ?_; show P _ _ _ _ _ _) | (refine hP _ _ _ _ _ _ (And.intro (hN _ _ _ rfl) ?_); show P _ _ (aR _ _ :: _) _ _ _))
        exact this
    repeat (first | (refine hP _ _ _ _ _ _ ?_; show P _ _ _ _ _ _) | (refine hP _ _ _ _ _ _ (And.intro (hN _ _ _ rfl) ?_); show P _ _ (aR _ _ :: _) _ _ _))
    exact loop 0 (by omega) S1 (g1.mono (wTk_th (by omega))) hX1
  repeat (first | (refine hP _ _ _ _ _ _ ?_; show P _ _ _ _ _ _) | (refine hP _ _ _ _ _ _ (And.intro (hN _ _ _ rfl) ?_); show P _ _ (aR _ _ :: _) _ _ _))
  refine hP _ _ _ _ _ _ (And.intro (fun hc => absurd hc (nI_pos (by omega))) (fun _ => ?_))
  repeat (first | (refine hP _ _ _ _ _ _ ?_; show P _ _ _ _ _ _) | (refine hP _ _ _ _ _ _ (And.intro (hN _ _ _ rfl) ?_); show P _ _ (aR _ _ :: _) _ _ _))
  refine hP _ _ _ _ _ _ (And.intro (fun hc => absurd hc (nI_nlt (a := 40) (b := n) (by omega) (by decide))) (fun _ => ?_))
  repeat (first | (refine hP _ _ _ _ _ _ ?_; show P _ _ _ _ _ _) | (refine hP _ _ _ _ _ _ (And.intro (hN _ _ _ rfl) ?_); show P _ _ (aR _ _ :: _) _ _ _))
  refine hP _ _ _ _ _ _ (And.intro (fun hc => absurd hc (nI_pos (by omega))) (fun _ => ?_))
  repeat (first | (refine hP _ _ _ _ _ _ ?_; show P _ _ _ _ _ _) | (refine hP _ _ _ _ _ _ (And.intro (hN _ _ _ rfl) ?_); show P _ _ (aR _ _ :: _) _ _ _))
  refine hP _ _ _ _ _ _ (And.intro (fun hc => absurd hc (nI_nlt (a := 2) (b := w) (by omega) (by decide))) (fun _ => ?_))
  repeat (first | (refine hP _ _ _ _ _ _ ?_; show P _ _ _ _ _ _) | (refine hP _ _ _ _ _ _ (And.intro (hN _ _ _ rfl) ?_); show P _ _ (aR _ _ :: _) _ _ _))
  rcases (show w = 0 ∨ w = 1 ∨ w = 2 by omega) with rfl | rfl | rfl
  · repeat (first | (refine hP _ _ _ _ _ _ ?_; show P _ _ _ _ _ _) | (refine hP _ _ _ _ _ _ (And.intro (hN _ _ _ rfl) ?_); show P _ _ (aR _ _ :: _) _ _ _) | refine hP _ _ _ _ _ _ (And.intro (fun _ => ?_) (fun hc => absurd hc (by decide))) | refine hP _ _ _ _ _ _ (And.intro (fun hc => absurd hc (by decide)) (fun _ => ?_)))
    exact rest
  · repeat (first | (refine hP _ _ _ _ _ _ ?_; show P _ _ _ _ _ _) | (refine hP _ _ _ _ _ _ (And.intro (hN _ _ _ rfl) ?_); show P _ _ (aR _ _ :: _) _ _ _) | refine hP _ _ _ _ _ _ (And.intro (fun _ => ?_) (fun hc => absurd hc (by decide))) | refine hP _ _ _ _ _ _ (And.intro (fun hc => absurd hc (by decide)) (fun _ => ?_)))
    exact rest
  · obtain ⟨ha, hb, hne, rfl, rfl⟩ := hab rfl
    repeat (first | (refine hP _ _ _ _ _ _ ?_; show P _ _ _ _ _ _) | (refine hP _ _ _ _ _ _ (And.intro (hN _ _ _ rfl) ?_); show P _ _ (aR _ _ :: _) _ _ _) | refine hP _ _ _ _ _ _ (And.intro (fun _ => ?_) (fun hc => absurd hc (by decide))) | refine hP _ _ _ _ _ _ (And.intro (fun hc => absurd hc (by decide)) (fun _ => ?_)))
    refine hP _ _ _ _ _ _ (c_isTwo (by omega) hN hX.2.1.1 hn5 ?_)
    rw [isT_n hn5 (by omega) (by omega), decide_eq_true ha, decide_eq_true hb, decide_eq_true hne]
    repeat (first | (refine hP _ _ _ _ _ _ ?_; show P _ _ _ _ _ _) | (refine hP _ _ _ _ _ _ (And.intro (hN _ _ _ rfl) ?_); show P _ _ (aR _ _ :: _) _ _ _) | refine hP _ _ _ _ _ _ (And.intro (fun _ => ?_) (fun hc => absurd hc (by decide))) | refine hP _ _ _ _ _ _ (And.intro (fun hc => absurd hc (by decide)) (fun _ => ?_)))
    exact rest
theorem n_run {tv : TV} {nT d n w a b : Nat} {S : St} {K : KT} {F : Fl} {x y : Int32} (hd : 150 ≤ d) (hX : MX tv nT S F) (hn : n ≤ 40) (hw : w ≤ 2) (hab : w = 2 → a < F.n ∧ b < F.n ∧ ¬ a = b ∧ x = nI a ∧ y = nI b) (h : ∀ S', Ag mTh S S' → K (some (aI (rnI (itF tv F n) w a b))) S') : Call d m_X6_run [aR 40 0, aI (nI n), aI x, aI y, aI (nI w)] S K := by
  refine Call.of (k := 149) hd (fun e he P hP => ?_)
  have hN := hX.1.1
  have hN0 := hN
  have hn5 := hX.2.2.1
  have rest : P 44 [some (aR 40 0), some (aI (nI n)), some (aI x), some (aI y), some (aI (nI w)), none] [aR 40 0] S 0 0 := by
    refine hP _ _ _ _ _ _ (n_laysAside (by omega) hN (fun S3 g3 hv3 => ?_))
    have hX3 := hX.up g3 w49_M w49_G
    have fin : ∀ S4, Ag mR S3 S4 → P 101 [some (aR 40 0), some (aI (nI n)), some (aI x), some (aI y), some (aI (nI w)), some (aI (rnI (itF tv F n) w a b))] [aR 40 0] S4 0 0 := by
      intro S4 g4
      have hN := (hN0.up g3).up g4
      refine hP _ _ _ _ _ _ (n_laysBack (by omega) hN (hv3.up g4 (fun k => by simp only [mR]; omega)) (fun S5 g5 hr5 => ?_))
      have g15 := back_th g3 (g4.mono mR_w) g5 hr5
      repeat (first | (refine hP _ _ _ _ _ _ ?_; show P _ _ _ _ _ _) | (refine hP _ _ _ _ _ _ (And.intro (hN _ _ _ rfl) ?_); show P _ _ (aR _ _ :: _) _ _ _))
      exact hP _ _ _ _ _ _ (h S5 g15)
    have loop : ∀ p, p ≤ n → ∀ S4, Ag mR S3 S4 → MX tv nT S4 (itF tv F p) → P 53 [some (aR 40 0), some (aI (nI n)), some (aI x), some (aI y), some (aI (nI w)), some (aI (nI p))] [aI (nI n), aI (nI p)] S4 0 0 := by
      refine dn ?_ ?_
      · intro S4 g4 hX4
        have hN := hX4.1.1
        have fin := fin S4 g4
        have nn := itF_n tv F n
        refine hP _ _ _ _ _ _ (And.intro (fun _ => ?_) (fun hc => absurd (nI_le (Nat.le_refl n) (by omega)) hc))
        rcases (show w = 0 ∨ w = 1 ∨ w = 2 by omega) with rfl | rfl | rfl
        · repeat (first | (refine hP _ _ _ _ _ _ ?_; show P _ _ _ _ _ _) | (refine hP _ _ _ _ _ _ (And.intro (hN _ _ _ rfl) ?_); show P _ _ (aR _ _ :: _) _ _ _) | refine hP _ _ _ _ _ _ (And.intro (fun _ => ?_) (fun hc => absurd hc (by decide))) | refine hP _ _ _ _ _ _ (And.intro (fun hc => absurd hc (by decide)) (fun _ => ?_)))
          refine hP _ _ _ _ _ _ (n_owedAll (by omega) hX4 ?_)
          repeat (first | (refine hP _ _ _ _ _ _ ?_; show P _ _ _ _ _ _) | (refine hP _ _ _ _ _ _ (And.intro (hN _ _ _ rfl) ?_); show P _ _ (aR _ _ :: _) _ _ _))
          exact fin
        · repeat (first | (refine hP _ _ _ _ _ _ ?_; show P _ _ _ _ _ _) | (refine hP _ _ _ _ _ _ (And.intro (hN _ _ _ rfl) ?_); show P _ _ (aR _ _ :: _) _ _ _) | refine hP _ _ _ _ _ _ (And.intro (fun _ => ?_) (fun hc => absurd hc (by decide))) | refine hP _ _ _ _ _ _ (And.intro (fun hc => absurd hc (by decide)) (fun _ => ?_)))
          refine hP _ _ _ _ _ _ (n_owedSet (by omega) hX4 ?_)
          repeat (first | (refine hP _ _ _ _ _ _ ?_; show P _ _ _ _ _ _) | (refine hP _ _ _ _ _ _ (And.intro (hN _ _ _ rfl) ?_); show P _ _ (aR _ _ :: _) _ _ _))
          exact fin
        · obtain ⟨ha, hb, -, rfl, rfl⟩ := hab rfl
          repeat (first | (refine hP _ _ _ _ _ _ ?_; show P _ _ _ _ _ _) | (refine hP _ _ _ _ _ _ (And.intro (hN _ _ _ rfl) ?_); show P _ _ (aR _ _ :: _) _ _ _) | refine hP _ _ _ _ _ _ (And.intro (fun _ => ?_) (fun hc => absurd hc (by decide))) | refine hP _ _ _ _ _ _ (And.intro (fun hc => absurd hc (by decide)) (fun _ => ?_)))
          refine hP _ _ _ _ _ _ (n_debtOf (by omega) hX4 (by rw [nn]; exact ha) (by rw [nn]; exact hb) ?_)
          repeat (first | (refine hP _ _ _ _ _ _ ?_; show P _ _ _ _ _ _) | (refine hP _ _ _ _ _ _ (And.intro (hN _ _ _ rfl) ?_); show P _ _ (aR _ _ :: _) _ _ _))
          exact fin
      · intro p hp ih S4 g4 hX4
        have hN := hX4.1.1
        rw [nI_succ p] at ih
        refine hP _ _ _ _ _ _ (And.intro (fun hc => absurd hc (nI_ge hp (by omega))) (fun _ => ?_))
        repeat (first | (refine hP _ _ _ _ _ _ ?_; show P _ _ _ _ _ _) | (refine hP _ _ _ _ _ _ (And.intro (hN _ _ _ rfl) ?_); show P _ _ (aR _ _ :: _) _ _ _))
        refine hP _ _ _ _ _ _ (n_passes (by omega) hX4 (fun S5 g5 hX5 _ => ?_))
        have := ih S5 (g4.tr g5) hX5
        repeat (first | (refine hP _ _ _ _ _ _ ?_; show P _ _ _ _ _ _) | (refine hP _ _ _ _ _ _ (And.intro (hN _ _ _ rfl) ?_); show P _ _ (aR _ _ :: _) _ _ _))
        exact this
    have hN := hX3.1.1
    repeat (first | (refine hP _ _ _ _ _ _ ?_; show P _ _ _ _ _ _) | (refine hP _ _ _ _ _ _ (And.intro (hN _ _ _ rfl) ?_); show P _ _ (aR _ _ :: _) _ _ _))
    exact loop 0 (by omega) S3 (Ag.rf _ _) hX3
  repeat (first | (refine hP _ _ _ _ _ _ ?_; show P _ _ _ _ _ _) | (refine hP _ _ _ _ _ _ (And.intro (hN _ _ _ rfl) ?_); show P _ _ (aR _ _ :: _) _ _ _))
  refine hP _ _ _ _ _ _ (n_in0 (m := 40) (by omega) (by omega) ?_)
  rw [isD_N (by omega) (by omega), decide_eq_true (by omega)]
  repeat (first | (refine hP _ _ _ _ _ _ ?_; show P _ _ _ _ _ _) | (refine hP _ _ _ _ _ _ (And.intro (hN _ _ _ rfl) ?_); show P _ _ (aR _ _ :: _) _ _ _) | refine hP _ _ _ _ _ _ (And.intro (fun _ => ?_) (fun hc => absurd hc (by decide))) | refine hP _ _ _ _ _ _ (And.intro (fun hc => absurd hc (by decide)) (fun _ => ?_)))
  refine hP _ _ _ _ _ _ (n_in0 (m := 2) (by omega) (by omega) ?_)
  rw [isD_N (by omega) (by omega), decide_eq_true (by omega)]
  repeat (first | (refine hP _ _ _ _ _ _ ?_; show P _ _ _ _ _ _) | (refine hP _ _ _ _ _ _ (And.intro (hN _ _ _ rfl) ?_); show P _ _ (aR _ _ :: _) _ _ _) | refine hP _ _ _ _ _ _ (And.intro (fun _ => ?_) (fun hc => absurd hc (by decide))) | refine hP _ _ _ _ _ _ (And.intro (fun hc => absurd hc (by decide)) (fun _ => ?_)))
  rcases (show w = 0 ∨ w = 1 ∨ w = 2 by omega) with rfl | rfl | rfl
  · repeat (first | (refine hP _ _ _ _ _ _ ?_; show P _ _ _ _ _ _) | (refine hP _ _ _ _ _ _ (And.intro (hN _ _ _ rfl) ?_); show P _ _ (aR _ _ :: _) _ _ _) | refine hP _ _ _ _ _ _ (And.intro (fun _ => ?_) (fun hc => absurd hc (by decide))) | refine hP _ _ _ _ _ _ (And.intro (fun hc => absurd hc (by decide)) (fun _ => ?_)))
    exact rest
  · repeat (first | (refine hP _ _ _ _ _ _ ?_; show P _ _ _ _ _ _) | (refine hP _ _ _ _ _ _ (And.intro (hN _ _ _ rfl) ?_); show P _ _ (aR _ _ :: _) _ _ _) | refine hP _ _ _ _ _ _ (And.intro (fun _ => ?_) (fun hc => absurd hc (by decide))) | refine hP _ _ _ _ _ _ (And.intro (fun hc => absurd hc (by decide)) (fun _ => ?_)))
    exact rest
  · obtain ⟨ha, hb, hne, rfl, rfl⟩ := hab rfl
    repeat (first | (refine hP _ _ _ _ _ _ ?_; show P _ _ _ _ _ _) | (refine hP _ _ _ _ _ _ (And.intro (hN _ _ _ rfl) ?_); show P _ _ (aR _ _ :: _) _ _ _) | refine hP _ _ _ _ _ _ (And.intro (fun _ => ?_) (fun hc => absurd hc (by decide))) | refine hP _ _ _ _ _ _ (And.intro (fun hc => absurd hc (by decide)) (fun _ => ?_)))
    refine hP _ _ _ _ _ _ (n_areTwo (by omega) hX.2.1.1 hn5 ?_)
    rw [isT_n hn5 (by omega) (by omega), decide_eq_true ha, decide_eq_true hb, decide_eq_true hne]
    repeat (first | (refine hP _ _ _ _ _ _ ?_; show P _ _ _ _ _ _) | (refine hP _ _ _ _ _ _ (And.intro (hN _ _ _ rfl) ?_); show P _ _ (aR _ _ :: _) _ _ _) | refine hP _ _ _ _ _ _ (And.intro (fun _ => ?_) (fun hc => absurd hc (by decide))) | refine hP _ _ _ _ _ _ (And.intro (fun hc => absurd hc (by decide)) (fun _ => ?_)))
    exact rest
theorem gtK {x : Int32} {n : Nat} (h : nI (n + 1) ≤ x) (hn : n + 1 < 2 ^ 31) : nI n < x :=
  Int32.not_le.mp (fun hc => absurd (Int32.le_trans h hc) (nI_ge (a := n) (b := n + 1) (by omega) hn))
def rnB (n : Nat) (m x y w : Int32) : Prop := isD 41 m = false ∨ (isD 41 m = true ∧ isD 3 w = false) ∨ (isD 41 m = true ∧ w = 2 ∧ isT n x y = false)
theorem c_run_bad {tv : TV} {nT d : Nat} {S : St} {K : KT} {F : Fl} {m x y w : Int32} (hd : 100 ≤ d) (hX : FX tv nT S 0 F) (hb : rnB F.n m x y w) (h : K (some (aI (-2))) S) : Call d m_X5_run [aR 0 0, aI m, aI x, aI y, aI w] S K := by
  refine Call.of (k := 99) hd (fun e he P hP => ?_)
  have hN := hX.1.1
  have hn5 := hX.2.2.1
  repeat (first | (refine hP _ _ _ _ _ _ ?_; show P _ _ _ _ _ _) | (refine hP _ _ _ _ _ _ (And.intro (hN _ _ _ rfl) ?_); show P _ _ (aR _ _ :: _) _ _ _))
  rcases rng (x := m) (n := 41) (by omega) with ⟨hf, h0 | ⟨h0, h1⟩⟩ | ⟨k, hk, hf, rfl⟩
  · refine hP _ _ _ _ _ _ (And.intro (fun _ => ?_) (fun hc => absurd h0 hc))
    repeat (first | (refine hP _ _ _ _ _ _ ?_; show P _ _ _ _ _ _) | (refine hP _ _ _ _ _ _ (And.intro (hN _ _ _ rfl) ?_); show P _ _ (aR _ _ :: _) _ _ _))
    exact hP _ _ _ _ _ _ (h)
  · refine hP _ _ _ _ _ _ (And.intro (fun hc => absurd hc h0) (fun _ => ?_))
    repeat (first | (refine hP _ _ _ _ _ _ ?_; show P _ _ _ _ _ _) | (refine hP _ _ _ _ _ _ (And.intro (hN _ _ _ rfl) ?_); show P _ _ (aR _ _ :: _) _ _ _))
    refine hP _ _ _ _ _ _ (And.intro (fun _ => ?_) (fun hc => absurd (gtK h1 (by decide)) hc))
    repeat (first | (refine hP _ _ _ _ _ _ ?_; show P _ _ _ _ _ _) | (refine hP _ _ _ _ _ _ (And.intro (hN _ _ _ rfl) ?_); show P _ _ (aR _ _ :: _) _ _ _))
    exact hP _ _ _ _ _ _ (h)
  · have hb : isD 3 w = false ∨ (w = 2 ∧ isT F.n x y = false) := by
      rcases hb with z | ⟨_, z⟩ | ⟨_, z⟩
      · rw [hf] at z
        cases z
      · exact Or.inl z
      · exact Or.inr z
    refine hP _ _ _ _ _ _ (And.intro (fun hc => absurd hc (nI_pos (by omega))) (fun _ => ?_))
    repeat (first | (refine hP _ _ _ _ _ _ ?_; show P _ _ _ _ _ _) | (refine hP _ _ _ _ _ _ (And.intro (hN _ _ _ rfl) ?_); show P _ _ (aR _ _ :: _) _ _ _))
    refine hP _ _ _ _ _ _ (And.intro (fun hc => absurd hc (nI_nlt (a := 40) (b := k) (by omega) (by decide))) (fun _ => ?_))
    repeat (first | (refine hP _ _ _ _ _ _ ?_; show P _ _ _ _ _ _) | (refine hP _ _ _ _ _ _ (And.intro (hN _ _ _ rfl) ?_); show P _ _ (aR _ _ :: _) _ _ _))
    rcases rng (x := w) (n := 3) (by omega) with ⟨hf2, h0 | ⟨h0, h1⟩⟩ | ⟨u, hu, hf2, rfl⟩
    · refine hP _ _ _ _ _ _ (And.intro (fun _ => ?_) (fun hc => absurd h0 hc))
      repeat (first | (refine hP _ _ _ _ _ _ ?_; show P _ _ _ _ _ _) | (refine hP _ _ _ _ _ _ (And.intro (hN _ _ _ rfl) ?_); show P _ _ (aR _ _ :: _) _ _ _))
      exact hP _ _ _ _ _ _ (h)
    · refine hP _ _ _ _ _ _ (And.intro (fun hc => absurd hc h0) (fun _ => ?_))
      repeat (first | (refine hP _ _ _ _ _ _ ?_; show P _ _ _ _ _ _) | (refine hP _ _ _ _ _ _ (And.intro (hN _ _ _ rfl) ?_); show P _ _ (aR _ _ :: _) _ _ _))
      refine hP _ _ _ _ _ _ (And.intro (fun _ => ?_) (fun hc => absurd (gtK h1 (by decide)) hc))
      repeat (first | (refine hP _ _ _ _ _ _ ?_; show P _ _ _ _ _ _) | (refine hP _ _ _ _ _ _ (And.intro (hN _ _ _ rfl) ?_); show P _ _ (aR _ _ :: _) _ _ _))
      exact hP _ _ _ _ _ _ (h)
    · rw [hf2] at hb
      obtain ⟨h2, ht⟩ : nI u = 2 ∧ isT F.n x y = false := hb.resolve_left (by decide)
      rw [h2]
      repeat (first | (refine hP _ _ _ _ _ _ ?_; show P _ _ _ _ _ _) | (refine hP _ _ _ _ _ _ (And.intro (hN _ _ _ rfl) ?_); show P _ _ (aR _ _ :: _) _ _ _) | refine hP _ _ _ _ _ _ (And.intro (fun _ => ?_) (fun hc => absurd hc (by decide))) | refine hP _ _ _ _ _ _ (And.intro (fun hc => absurd hc (by decide)) (fun _ => ?_)))
      refine hP _ _ _ _ _ _ (c_isTwo (by omega) hN hX.2.1.1 hn5 ?_)
      rw [ht]
      repeat (first | (refine hP _ _ _ _ _ _ ?_; show P _ _ _ _ _ _) | (refine hP _ _ _ _ _ _ (And.intro (hN _ _ _ rfl) ?_); show P _ _ (aR _ _ :: _) _ _ _) | refine hP _ _ _ _ _ _ (And.intro (fun _ => ?_) (fun hc => absurd hc (by decide))) | refine hP _ _ _ _ _ _ (And.intro (fun hc => absurd hc (by decide)) (fun _ => ?_)))
      exact hP _ _ _ _ _ _ (h)
theorem n_run_bad {tv : TV} {nT d : Nat} {S : St} {K : KT} {F : Fl} {m x y w : Int32} (hd : 150 ≤ d) (hX : MX tv nT S F) (hb : rnB F.n m x y w) (h : K (some (aI (-2))) S) : Call d m_X6_run [aR 40 0, aI m, aI x, aI y, aI w] S K := by
  refine Call.of (k := 149) hd (fun e he P hP => ?_)
  have hN := hX.1.1
  have hn5 := hX.2.2.1
  repeat (first | (refine hP _ _ _ _ _ _ ?_; show P _ _ _ _ _ _) | (refine hP _ _ _ _ _ _ (And.intro (hN _ _ _ rfl) ?_); show P _ _ (aR _ _ :: _) _ _ _))
  refine hP _ _ _ _ _ _ (n_in0 (m := 40) (by omega) (by omega) ?_)
  rcases hb with z | ⟨z1, z⟩ | ⟨z1, h2, z⟩
  · rw [z]
    repeat (first | (refine hP _ _ _ _ _ _ ?_; show P _ _ _ _ _ _) | (refine hP _ _ _ _ _ _ (And.intro (hN _ _ _ rfl) ?_); show P _ _ (aR _ _ :: _) _ _ _) | refine hP _ _ _ _ _ _ (And.intro (fun _ => ?_) (fun hc => absurd hc (by decide))) | refine hP _ _ _ _ _ _ (And.intro (fun hc => absurd hc (by decide)) (fun _ => ?_)))
    exact hP _ _ _ _ _ _ (h)
  · rw [z1]
    repeat (first | (refine hP _ _ _ _ _ _ ?_; show P _ _ _ _ _ _) | (refine hP _ _ _ _ _ _ (And.intro (hN _ _ _ rfl) ?_); show P _ _ (aR _ _ :: _) _ _ _) | refine hP _ _ _ _ _ _ (And.intro (fun _ => ?_) (fun hc => absurd hc (by decide))) | refine hP _ _ _ _ _ _ (And.intro (fun hc => absurd hc (by decide)) (fun _ => ?_)))
    refine hP _ _ _ _ _ _ (n_in0 (m := 2) (by omega) (by omega) ?_)
    rw [z]
    repeat (first | (refine hP _ _ _ _ _ _ ?_; show P _ _ _ _ _ _) | (refine hP _ _ _ _ _ _ (And.intro (hN _ _ _ rfl) ?_); show P _ _ (aR _ _ :: _) _ _ _) | refine hP _ _ _ _ _ _ (And.intro (fun _ => ?_) (fun hc => absurd hc (by decide))) | refine hP _ _ _ _ _ _ (And.intro (fun hc => absurd hc (by decide)) (fun _ => ?_)))
    exact hP _ _ _ _ _ _ (h)
  · rw [z1]
    subst h2
    repeat (first | (refine hP _ _ _ _ _ _ ?_; show P _ _ _ _ _ _) | (refine hP _ _ _ _ _ _ (And.intro (hN _ _ _ rfl) ?_); show P _ _ (aR _ _ :: _) _ _ _) | refine hP _ _ _ _ _ _ (And.intro (fun _ => ?_) (fun hc => absurd hc (by decide))) | refine hP _ _ _ _ _ _ (And.intro (fun hc => absurd hc (by decide)) (fun _ => ?_)))
    refine hP _ _ _ _ _ _ (n_in0 (m := 2) (by omega) (by omega) ?_)
    rw [show isD 3 2 = true from by decide]
    repeat (first | (refine hP _ _ _ _ _ _ ?_; show P _ _ _ _ _ _) | (refine hP _ _ _ _ _ _ (And.intro (hN _ _ _ rfl) ?_); show P _ _ (aR _ _ :: _) _ _ _) | refine hP _ _ _ _ _ _ (And.intro (fun _ => ?_) (fun hc => absurd hc (by decide))) | refine hP _ _ _ _ _ _ (And.intro (fun hc => absurd hc (by decide)) (fun _ => ?_)))
    refine hP _ _ _ _ _ _ (n_areTwo (by omega) hX.2.1.1 hn5 ?_)
    rw [z]
    repeat (first | (refine hP _ _ _ _ _ _ ?_; show P _ _ _ _ _ _) | (refine hP _ _ _ _ _ _ (And.intro (hN _ _ _ rfl) ?_); show P _ _ (aR _ _ :: _) _ _ _) | refine hP _ _ _ _ _ _ (And.intro (fun _ => ?_) (fun hc => absurd hc (by decide))) | refine hP _ _ _ _ _ _ (And.intro (fun hc => absurd hc (by decide)) (fun _ => ?_)))
    exact hP _ _ _ _ _ _ (h)
theorem op_run (m x y w : Int32) : OpA m_X5_run m_X6_run [aI m, aI x, aI y, aI w] isI := by
  intro d S K hd hT hK
  obtain ⟨F, I, sh, T, nT, tb, hT⟩ := hT
  have hX := hT.fx
  have hM0 := hT.m1 (Ag.rf wTH S)
  have bad : rnB F.n m x y w → Call d m_X5_run [aR 0 0, aI m, aI x, aI y, aI w] S K := fun hb =>
    c_run_bad (by omega) hX hb (hK S _ ⟨_, rfl⟩ (by omega) (fun d' K' hd' hK' => n_run_bad (by omega) hM0 hb (hK' S ⟨F, I, sh, T, nT, tb, hT⟩)))
  cases h1 : isD 41 m with
  | false => exact bad (Or.inl h1)
  | true =>
    cases h2 : isD 3 w with
    | false => exact bad (Or.inr (Or.inl ⟨h1, h2⟩))
    | true =>
      obtain ⟨n, hn, -, rfl⟩ := isD_of h1
      obtain ⟨v, hv, -, rfl⟩ := isD_of h2
      have go : ∀ a b, (v = 2 → a < F.n ∧ b < F.n ∧ ¬ a = b ∧ x = nI a ∧ y = nI b) → Call d m_X5_run [aR 0 0, aI (nI n), aI x, aI y, aI (nI v)] S K := fun a b hab =>
        c_run (a := a) (b := b) (by omega) hX (by omega) (by omega) hab (fun S1 g1 => hK S1 _ ⟨_, rfl⟩ (by rw [g1.2]; omega) (fun d' K' hd' hK' => n_run (by omega) (hT.m1 g1) (by omega) (by omega) hab (fun S2 g2 => hK' S2 ⟨F, I, sh, T, nT, tb, hT.th2 g1 g2⟩)))
      by_cases e : v = 2
      · cases ht : isT F.n x y with
        | false => exact bad (Or.inr (Or.inr ⟨h1, by rw [e]; rfl, ht⟩))
        | true =>
          obtain ⟨a, b, ha, hb, hab, hx, hy⟩ := isT_of ht
          exact go a b (fun _ => ⟨ha, hb, hab, hx, hy⟩)
      · exact go 0 0 (fun z => absurd z e)
