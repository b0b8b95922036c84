/-! tells: the model's loop -/
def teI (tv : TV) (nT : Nat) (F : Fl) (sz : Nat) (v : Nat → Int32) (a o w : Nat) : Int32 := match w with
  | 0 => foN tv F a sz v
  | 1 => lkN (tF tv F 5 a sz v) 6
  | 2 => lkN (tF tv F 2 a sz v) 10
  | 3 => nI (cnT (tF tv F 0 a sz v) 100)
  | 4 => ff (tF tv F 0 a sz v) 100 0
  | 5 => nI (cnT (tF tv F 3 a sz v) 100)
  | 6 => ff (tF tv F 3 a sz v) 100 0
  | 7 => lkN (tF tv F 6 a sz v) nT
  | _ => lkN (liF tv F o sz v) F.n
theorem m0_mFl : ∀ j g k, m0 j g k → mFl j g k := by
  intro j g k z
  simp only [m0] at z
  simp only [mFl]
  omega
theorem mLy_mFl : ∀ j g k, mLy j g k → mFl j g k := by
  intro j g k z
  simp only [mLy] at z
  simp only [mFl]
  omega
theorem mFl_ok : okM mFl := by
  intro j g k z
  simp only [mFl] at z
  omega
theorem mLy_ok : okM mLy := by
  intro j g k z
  simp only [mLy] at z
  omega
theorem nI_dn (t : Nat) : nI t + -1 + 1 = nI t := by
  rw [Int32.add_assoc]
  exact Int32.add_zero _
theorem x_of {x : Int32} {t : Nat} (h : x + 1 = nI (t + 1)) : x = nI t := by
  have h2 := (Int32.add_sub_cancel x 1).symm
  rw [h, nI_pred] at h2
  exact h2
theorem x_of0 {x : Int32} (h : x + 1 = nI 0) : x = -1 := by
  have h2 := (Int32.add_sub_cancel x 1).symm
  rw [h] at h2
  rw [h2]
  decide
theorem n_tellsL {tv : TV} {nT g a o w L sz bef wh : Nat} {S : St} {K : KT} {P : PT} {e : Nat} (he : 104 ≤ e) (hP : ∀ pc L st S fc fs, F m_X6_tells (Call e) K P pc L st S fc fs → P pc L st S fc fs) {F : Fl} {v : Nat → Int32} (hX : MX tv nT S F) (hg : g < 4) (ha : a < F.n) (hw : w = 0 ∨ w = 2 ∨ w = 3 ∨ w = 5 ∨ w = 6) (hL : L ≤ 99) (hWF : ∀ k, k ≤ L → WF nT (stF F w a 0 k)) (hsz : S.1 57 0 g = nI sz) (hs40 : sz ≤ 40) (hv : ∀ k, k < sz → S.1 58 0 (40 * g + k) = v k)
    (hK : ∀ S' s c l, Ag mFl S S' → HM S' (stF F w a 0 bef) → (L ≤ 9 → s = lkN (tF tv F w a sz v) (L + 1)) → c = cnT (tF tv F w a sz v) (L + 1) → l = ff (tF tv F w a sz v) (L + 1) 0 → P 279 [some (aR 40 0), some (aI (nI g)), some (aI (nI a)), some (aI (nI o)), some (aI (nI wh)), some (aI (nI w)), some (aI (nI bef)), some (aI (nI L)), some (aI s), some (aI (nI c)), some (aI l), some (aI (-1))] [] S' 0 0) : ∀ t, t ≤ L + 1 → ∀ S1 F1 x s c l, x + 1 = nI t → Ag mFl S S1 → MX tv nT S1 F1 → F1.n = F.n → (∀ u, stF F1 w a 0 u = stF F w a 0 u) → (L ≤ 9 → s ||| lkN (tF tv F w a sz v) t = lkN (tF tv F w a sz v) (L + 1)) → c + cnT (tF tv F w a sz v) t = cnT (tF tv F w a sz v) (L + 1) → fsN (tF tv F w a sz v) t l = fsN (tF tv F w a sz v) (L + 1) (-1) → P 215 [some (aR 40 0), some (aI (nI g)), some (aI (nI a)), some (aI (nI o)), some (aI (nI wh)), some (aI (nI w)), some (aI (nI bef)), some (aI (nI L)), some (aI s), some (aI (nI c)), some (aI l), some (aI x)] [aI x] S1 0 0 := by
  intro t
  induction t with
  | zero =>
    intro _ S1 F1 x s c l hx g1 hX1 hn hst hs hc hl
    obtain rfl := x_of0 hx
    have hn5 := hX.2.2.1
    have hN := hX1.1.1
    refine hP _ _ _ _ _ _ (And.intro (fun _ => ?_) (fun hc => absurd (by decide) hc))
    repeat (first | (refine hP _ _ _ _ _ _ ?_; show P _ _ _ _ _ _) | (refine hP _ _ _ _ _ _ (And.intro (hN _ _ _ rfl) ?_); show P _ _ (aR _ _ :: _) _ _ _))
    refine hP _ _ _ _ _ _ (n_lays (b := 0) (by omega) hN hX1.2.1 (by omega) (by omega) (fun _ => ⟨by omega, rfl⟩) (fun z => by omega) (fun S2 g2 hM2 => ?_))
    rw [hst] at hM2
    refine hK S2 s c l (g1.tr (g2.mono mLy_mFl)) hM2 (fun z => ?_) hc ?_
    · have hs := hs z
      rw [show lkN (tF tv F w a sz v) 0 = 0 from rfl, or0] at hs
      exact hs
    · rw [← fsN_all _ (by omega)]
      exact hl
  | succ t ih =>
    intro htL S1 F1 x s c l hx g1 hX1 hn hst hs hc hl
    obtain rfl := x_of hx
    have hn5 := hX.2.2.1
    have hN := hX1.1.1
    refine hP _ _ _ _ _ _ (And.intro (fun hc => absurd hc (nI_pos (by omega))) (fun _ => ?_))
    repeat (first | (refine hP _ _ _ _ _ _ ?_; show P _ _ _ _ _ _) | (refine hP _ _ _ _ _ _ (And.intro (hN _ _ _ rfl) ?_); show P _ _ (aR _ _ :: _) _ _ _))
    refine hP _ _ _ _ _ _ (n_lays (b := 0) (by omega) hN hX1.2.1 (by omega) (by omega) (fun _ => ⟨by omega, rfl⟩) (fun z => by omega) (fun S2 g2 hM2 => ?_))
    rw [hst] at hM2
    have hX2 : MX tv nT S2 (stF F w a 0 t) := ⟨hX1.1.up g2 mLy_ok, hM2, hWF t (by omega)⟩
    have g12 := g1.tr (g2.mono mLy_mFl)
    repeat (first | (refine hP _ _ _ _ _ _ ?_; show P _ _ _ _ _ _) | (refine hP _ _ _ _ _ _ (And.intro (hN _ _ _ rfl) ?_); show P _ _ (aR _ _ :: _) _ _ _))
    refine hP _ _ _ _ _ _ (n_firstOther (v := v) (by omega) hX2 hg (by rw [stF_n hw]; exact ha) (by rw [g12.1 57 0 g (by simp [mFl])]; exact hsz) hs40 (fun i hi => by rw [g12.1 58 0 _ (by simp [mFl])]; exact hv i hi) (fun S3 g3 => ?_))
    have g13 := g12.tr (g3.mono m0_mFl)
    have hX3 := hX2.sc g3
    have hN := hX3.1.1
    have ih := fun x' s' c' l' => ih (by omega) S3 (stF F w a 0 t) x' s' c' l'
    repeat (first | (refine hP _ _ _ _ _ _ ?_; show P _ _ _ _ _ _) | (refine hP _ _ _ _ _ _ (And.intro (hN _ _ _ rfl) ?_); show P _ _ (aR _ _ :: _) _ _ _))
    refine hP _ _ _ _ _ _ (And.intro (fun hc2 => ?_) (fun hc2 => ?_))
    · have hf : tF tv F w a sz v t = false := decide_eq_false hc2
      have ih := ih (nI t + -1) s c l (nI_dn t) g13 hX3 (stF_n hw) (fun u => stF_st hw) (fun z => by
        have hs := hs z
        rw [show lkN (tF tv F w a sz v) (t + 1) = lkN (tF tv F w a sz v) t from if_neg (by rw [hf]; decide)] at hs
        exact hs) (by
        rw [show cnT (tF tv F w a sz v) (t + 1) = cnT (tF tv F w a sz v) t from by show _ + _ = _; rw [hf]; rfl] at hc
        exact hc) (by
        rw [show fsN (tF tv F w a sz v) (t + 1) l = fsN (tF tv F w a sz v) t l from by show fsN _ t (if _ then _ else _) = _; rw [hf]; rfl] at hl
        exact hl)
      repeat (first | (refine hP _ _ _ _ _ _ ?_; show P _ _ _ _ _ _) | (refine hP _ _ _ _ _ _ (And.intro (hN _ _ _ rfl) ?_); show P _ _ (aR _ _ :: _) _ _ _))
      exact ih
    · have hf : tF tv F w a sz v t = true := decide_eq_true hc2
      have hl' : fsN (tF tv F w a sz v) t (nI t) = fsN (tF tv F w a sz v) (L + 1) (-1) := by
        rw [show fsN (tF tv F w a sz v) (t + 1) l = fsN (tF tv F w a sz v) t (nI t) from by show fsN _ t (if _ then _ else _) = _; rw [hf]; rfl] at hl
        exact hl
      have hc' : c + 1 + cnT (tF tv F w a sz v) t = cnT (tF tv F w a sz v) (L + 1) := by
        rw [show cnT (tF tv F w a sz v) (t + 1) = cnT (tF tv F w a sz v) t + 1 from by show _ + _ = _; rw [hf]; rfl] at hc
        omega
      repeat (first | (refine hP _ _ _ _ _ _ ?_; show P _ _ _ _ _ _) | (refine hP _ _ _ _ _ _ (And.intro (hN _ _ _ rfl) ?_); show P _ _ (aR _ _ :: _) _ _ _))
      refine hP _ _ _ _ _ _ (geI (x := t) (y := 10) (by omega) (by omega) (fun hc3 => ?_) (fun hc3 => ?_))
      · have ih := ih (nI t + -1) (s ||| 0) (c + 1) (nI t) (nI_dn t) g13 hX3 (stF_n hw) (fun u => stF_st hw) (fun z => by omega) hc' hl'
        rw [nI_succ c] at ih
        repeat (first | (refine hP _ _ _ _ _ _ ?_; show P _ _ _ _ _ _) | (refine hP _ _ _ _ _ _ (And.intro (hN _ _ _ rfl) ?_); show P _ _ (aR _ _ :: _) _ _ _))
        exact ih
      · have ih := ih (nI t + -1) (s ||| ((1 : Int32) <<< (nI t &&& 31))) (c + 1) (nI t) (nI_dn t) g13 hX3 (stF_n hw) (fun u => stF_st hw) (fun z => by
          have hs := hs z
          rw [show lkN (tF tv F w a sz v) (t + 1) = lkN (tF tv F w a sz v) t ||| ((1 : Int32) <<< (nI t &&& 31)) from if_pos hf] at hs
          rw [Int32.or_assoc, Int32.or_comm (1 <<< (nI t &&& 31))]
          exact hs) hc' hl'
        rw [nI_succ c] at ih
        repeat (first | (refine hP _ _ _ _ _ _ ?_; show P _ _ _ _ _ _) | (refine hP _ _ _ _ _ _ (And.intro (hN _ _ _ rfl) ?_); show P _ _ (aR _ _ :: _) _ _ _))
        exact ih
theorem tdI_or {tv : TV} {F : Fl} {w a : Nat} (hn5 : F.n ≤ 5) (ha : a < F.n) (hw : w = 0 ∨ w = 2 ∨ w = 3 ∨ w = 5) : tdI tv F (nI a) w = nI (orF F w a) := by
  have h : isD F.n (nI a) = true := by
    rw [isD_N (by omega) (by omega)]
    exact decide_eq_true ha
  rcases hw with rfl | rfl | rfl | rfl
  · rfl
  · simp [tdI, h, nI_clamp (show a < 2 ^ 31 by omega), orF]
  · simp [tdI, h, nI_clamp (show a < 2 ^ 31 by omega), orF]
  · simp [tdI, h, nI_clamp (show a < 2 ^ 31 by omega), orF]
theorem n_tellsx {tv : TV} {nT d g a o sz wh : Nat} {S : St} {K : KT} {F : Fl} {v : Nat → Int32} (hd : 150 ≤ d) (hX : MX tv nT S F) (hg : g < 4) (ha : a < F.n) (ho : o < F.n) (hao : ¬ a = o) (hwh : wh ≤ 8) (ht : S.1 55 0 g = 1) (hsz : S.1 57 0 g = nI sz) (hs30 : sz ≤ 30) (hv : ∀ k, k < sz → S.1 58 0 (40 * g + k) = v k) (h3 : S.1 40 0 3 = nI nT) (h : ∀ S', Ag mFl S S' → HM S' F → K (some (aI (teI tv nT F sz v a o wh))) S') : Call d m_X6_tells [aR 40 0, aI (nI g), aI (nI a), aI (nI o), aI (nI wh)] S K := by
  refine Call.of (k := 149) hd (fun e he P hP => ?_)
  have hN := hX.1.1
  have hn5 := hX.2.2.1
  have hnT := hX.2.2.2.2.1
  have hru := hX.2.2.2.1
  have hT2 : isT F.n (nI a) (nI o) = true := by
    rw [isT_n hn5 (by omega) (by omega), decide_eq_true ha, decide_eq_true ho, decide_eq_true hao]
    rfl
  have hW := hX.2.2
  repeat (first | (refine hP _ _ _ _ _ _ ?_; show P _ _ _ _ _ _) | (refine hP _ _ _ _ _ _ (And.intro (hN _ _ _ rfl) ?_); show P _ _ (aR _ _ :: _) _ _ _))
  refine hP _ _ _ _ _ _ (n_isSheet (by omega) ?_)
  rw [isD_N (by omega) (by omega), decide_eq_true hg]
  repeat (first | (refine hP _ _ _ _ _ _ ?_; show P _ _ _ _ _ _) | (refine hP _ _ _ _ _ _ (And.intro (hN _ _ _ rfl) ?_); show P _ _ (aR _ _ :: _) _ _ _) | refine hP _ _ _ _ _ _ (And.intro (fun _ => ?_) (fun hc => absurd hc (by decide))) | refine hP _ _ _ _ _ _ (And.intro (fun hc => absurd hc (by decide)) (fun _ => ?_)))
  refine hP _ _ _ _ _ _ (n_areTwo (by omega) hX.2.1.1 hn5 ?_)
  rw [hT2]
  repeat (first | (refine hP _ _ _ _ _ _ ?_; show P _ _ _ _ _ _) | (refine hP _ _ _ _ _ _ (And.intro (hN _ _ _ rfl) ?_); show P _ _ (aR _ _ :: _) _ _ _) | refine hP _ _ _ _ _ _ (And.intro (fun _ => ?_) (fun hc => absurd hc (by decide))) | refine hP _ _ _ _ _ _ (And.intro (fun hc => absurd hc (by decide)) (fun _ => ?_)))
  refine hP _ _ _ _ _ _ (n_in0 (m := 8) (by omega) (by omega) ?_)
  rw [isD_N (by omega) (by omega), decide_eq_true (by omega)]
  repeat (first | (refine hP _ _ _ _ _ _ ?_; show P _ _ _ _ _ _) | (refine hP _ _ _ _ _ _ (And.intro (hN _ _ _ rfl) ?_); show P _ _ (aR _ _ :: _) _ _ _) | refine hP _ _ _ _ _ _ (And.intro (fun _ => ?_) (fun hc => absurd hc (by decide))) | refine hP _ _ _ _ _ _ (And.intro (fun hc => absurd hc (by decide)) (fun _ => ?_)))
  refine hP _ _ _ _ _ _ (Exists.intro (g) (And.intro (And.intro (rfl) (show g < 4 from hg)) ?_))
  rw [ht]
  repeat (first | (refine hP _ _ _ _ _ _ ?_; show P _ _ _ _ _ _) | (refine hP _ _ _ _ _ _ (And.intro (hN _ _ _ rfl) ?_); show P _ _ (aR _ _ :: _) _ _ _) | refine hP _ _ _ _ _ _ (And.intro (fun _ => ?_) (fun hc => absurd hc (by decide))) | refine hP _ _ _ _ _ _ (And.intro (fun hc => absurd hc (by decide)) (fun _ => ?_)))
  refine hP _ _ _ _ _ _ (Exists.intro (g) (And.intro (And.intro (rfl) (show g < 4 from hg)) ?_))
  rw [hsz]
  repeat (first | (refine hP _ _ _ _ _ _ ?_; show P _ _ _ _ _ _) | (refine hP _ _ _ _ _ _ (And.intro (hN _ _ _ rfl) ?_); show P _ _ (aR _ _ :: _) _ _ _))
  refine hP _ _ _ _ _ _ (And.intro (fun _ => ?_) (fun hc => absurd (nI_le (a := sz) (b := 30) hs30 (by omega)) hc))
  repeat (first | (refine hP _ _ _ _ _ _ ?_; show P _ _ _ _ _ _) | (refine hP _ _ _ _ _ _ (And.intro (hN _ _ _ rfl) ?_); show P _ _ (aR _ _ :: _) _ _ _))
  rcases (show wh = 0 ∨ wh = 1 ∨ wh = 2 ∨ wh = 3 ∨ wh = 4 ∨ wh = 5 ∨ wh = 6 ∨ wh = 7 ∨ wh = 8 by omega) with rfl | rfl | rfl | rfl | rfl | rfl | rfl | rfl | rfl
  · have h : ∀ S', Ag mFl S S' → HM S' F → K (some (aI (foN tv F a sz v))) S' := h
    repeat (first | (refine hP _ _ _ _ _ _ ?_; show P _ _ _ _ _ _) | (refine hP _ _ _ _ _ _ (And.intro (hN _ _ _ rfl) ?_); show P _ _ (aR _ _ :: _) _ _ _) | refine hP _ _ _ _ _ _ (And.intro (fun _ => ?_) (fun hc => absurd hc (by decide))) | refine hP _ _ _ _ _ _ (And.intro (fun hc => absurd hc (by decide)) (fun _ => ?_)))
    refine hP _ _ _ _ _ _ (n_firstOther (v := v) (by omega) hX hg ha hsz (by omega) hv (fun S1 g1 => ?_))
    have h := h S1 (g1.mono m0_mFl) (hX.sc g1).2.1
    repeat (first | (refine hP _ _ _ _ _ _ ?_; show P _ _ _ _ _ _) | (refine hP _ _ _ _ _ _ (And.intro (hN _ _ _ rfl) ?_); show P _ _ (aR _ _ :: _) _ _ _))
    exact hP _ _ _ _ _ _ (h)
  · have h : ∀ S', Ag mFl S S' → HM S' F → K (some (aI (lkN (tF tv F 5 a sz v) 6))) S' := h
    repeat (first | (refine hP _ _ _ _ _ _ ?_; show P _ _ _ _ _ _) | (refine hP _ _ _ _ _ _ (And.intro (hN _ _ _ rfl) ?_); show P _ _ (aR _ _ :: _) _ _ _) | refine hP _ _ _ _ _ _ (And.intro (fun _ => ?_) (fun hc => absurd hc (by decide))) | refine hP _ _ _ _ _ _ (And.intro (fun hc => absurd hc (by decide)) (fun _ => ?_)))
    refine hP _ _ _ _ _ _ (n_told (w := 5) (by omega) hX (by omega) (fun S1 g1 => ?_))
    have hX1 := hX.sc g1
    have hN := hX1.1.1
    rw [tdI_or hn5 ha (by omega)]
    repeat (first | (refine hP _ _ _ _ _ _ ?_; show P _ _ _ _ _ _) | (refine hP _ _ _ _ _ _ (And.intro (hN _ _ _ rfl) ?_); show P _ _ (aR _ _ :: _) _ _ _))
    refine hP _ _ _ _ _ _ (And.intro (fun _ => ?_) (fun hc => absurd hc (by decide)))
    repeat (first | (refine hP _ _ _ _ _ _ ?_; show P _ _ _ _ _ _) | (refine hP _ _ _ _ _ _ (And.intro (hN _ _ _ rfl) ?_); show P _ _ (aR _ _ :: _) _ _ _))
    refine hP _ _ _ _ _ _ (And.intro (fun hc => absurd rfl hc) (fun _ => ?_))
    repeat (first | (refine hP _ _ _ _ _ _ ?_; show P _ _ _ _ _ _) | (refine hP _ _ _ _ _ _ (And.intro (hN _ _ _ rfl) ?_); show P _ _ (aR _ _ :: _) _ _ _))
    refine n_tellsL (P := P) (tv := tv) (nT := nT) (w := 5) (L := 5) (bef := orF F 5 a) (wh := 1) (v := v) (F := F) (S := S1) (by omega) hP hX1 hg ha (by omega) (by omega) (fun k hk => stF_WF hW (by omega)) (by rw [g1.1 57 0 g (by simp [m0])]; exact hsz) (by omega) (fun i hi => by rw [g1.1 58 0 _ (by simp [m0])]; exact hv i hi) (fun S2 s c l g2 hM2 hs hc hl => ?_) (5 + 1) (Nat.le_refl _) S1 F (5) 0 0 (-1) rfl (Ag.rf _ _) hX1 rfl (fun _ => rfl) (fun _ => Int32.zero_or) (Nat.zero_add _) rfl
    have h := h S2 ((g1.mono m0_mFl).tr g2) (by rw [← stF_or (F := F) (w := 5) (a := a) (by omega)]; exact hM2)
    rw [show (lkN (tF tv F 5 a sz v) 6) = lkN (tF tv F 5 a sz v) (5 + 1) from rfl, ← hs (by omega)] at h
    repeat (first | (refine hP _ _ _ _ _ _ ?_; show P _ _ _ _ _ _) | (refine hP _ _ _ _ _ _ (And.intro (hN _ _ _ rfl) ?_); show P _ _ (aR _ _ :: _) _ _ _) | refine hP _ _ _ _ _ _ (And.intro (fun _ => ?_) (fun hc => absurd hc (by decide))) | refine hP _ _ _ _ _ _ (And.intro (fun hc => absurd hc (by decide)) (fun _ => ?_)))
    exact hP _ _ _ _ _ _ (h)
  · have h : ∀ S', Ag mFl S S' → HM S' F → K (some (aI (lkN (tF tv F 2 a sz v) 10))) S' := h
    repeat (first | (refine hP _ _ _ _ _ _ ?_; show P _ _ _ _ _ _) | (refine hP _ _ _ _ _ _ (And.intro (hN _ _ _ rfl) ?_); show P _ _ (aR _ _ :: _) _ _ _) | refine hP _ _ _ _ _ _ (And.intro (fun _ => ?_) (fun hc => absurd hc (by decide))) | refine hP _ _ _ _ _ _ (And.intro (fun hc => absurd hc (by decide)) (fun _ => ?_)))
    refine hP _ _ _ _ _ _ (n_told (w := 2) (by omega) hX (by omega) (fun S1 g1 => ?_))
    have hX1 := hX.sc g1
    have hN := hX1.1.1
    rw [tdI_or hn5 ha (by omega)]
    repeat (first | (refine hP _ _ _ _ _ _ ?_; show P _ _ _ _ _ _) | (refine hP _ _ _ _ _ _ (And.intro (hN _ _ _ rfl) ?_); show P _ _ (aR _ _ :: _) _ _ _))
    refine hP _ _ _ _ _ _ (And.intro (fun _ => ?_) (fun hc => absurd hc (by decide)))
    repeat (first | (refine hP _ _ _ _ _ _ ?_; show P _ _ _ _ _ _) | (refine hP _ _ _ _ _ _ (And.intro (hN _ _ _ rfl) ?_); show P _ _ (aR _ _ :: _) _ _ _))
    refine hP _ _ _ _ _ _ (And.intro (fun _ => ?_) (fun hc => absurd hc (by decide)))
    repeat (first | (refine hP _ _ _ _ _ _ ?_; show P _ _ _ _ _ _) | (refine hP _ _ _ _ _ _ (And.intro (hN _ _ _ rfl) ?_); show P _ _ (aR _ _ :: _) _ _ _))
    refine hP _ _ _ _ _ _ (And.intro (fun hc => absurd rfl hc) (fun _ => ?_))
    repeat (first | (refine hP _ _ _ _ _ _ ?_; show P _ _ _ _ _ _) | (refine hP _ _ _ _ _ _ (And.intro (hN _ _ _ rfl) ?_); show P _ _ (aR _ _ :: _) _ _ _))
    refine n_tellsL (P := P) (tv := tv) (nT := nT) (w := 2) (L := 9) (bef := orF F 2 a) (wh := 2) (v := v) (F := F) (S := S1) (by omega) hP hX1 hg ha (by omega) (by omega) (fun k hk => stF_WF hW (by omega)) (by rw [g1.1 57 0 g (by simp [m0])]; exact hsz) (by omega) (fun i hi => by rw [g1.1 58 0 _ (by simp [m0])]; exact hv i hi) (fun S2 s c l g2 hM2 hs hc hl => ?_) (9 + 1) (Nat.le_refl _) S1 F (9) 0 0 (-1) rfl (Ag.rf _ _) hX1 rfl (fun _ => rfl) (fun _ => Int32.zero_or) (Nat.zero_add _) rfl
    have h := h S2 ((g1.mono m0_mFl).tr g2) (by rw [← stF_or (F := F) (w := 2) (a := a) (by omega)]; exact hM2)
    rw [show (lkN (tF tv F 2 a sz v) 10) = lkN (tF tv F 2 a sz v) (9 + 1) from rfl, ← hs (by omega)] at h
    repeat (first | (refine hP _ _ _ _ _ _ ?_; show P _ _ _ _ _ _) | (refine hP _ _ _ _ _ _ (And.intro (hN _ _ _ rfl) ?_); show P _ _ (aR _ _ :: _) _ _ _) | refine hP _ _ _ _ _ _ (And.intro (fun _ => ?_) (fun hc => absurd hc (by decide))) | refine hP _ _ _ _ _ _ (And.intro (fun hc => absurd hc (by decide)) (fun _ => ?_)))
    exact hP _ _ _ _ _ _ (h)
  · have h : ∀ S', Ag mFl S S' → HM S' F → K (some (aI (nI (cnT (tF tv F 0 a sz v) 100)))) S' := h
    repeat (first | (refine hP _ _ _ _ _ _ ?_; show P _ _ _ _ _ _) | (refine hP _ _ _ _ _ _ (And.intro (hN _ _ _ rfl) ?_); show P _ _ (aR _ _ :: _) _ _ _) | refine hP _ _ _ _ _ _ (And.intro (fun _ => ?_) (fun hc => absurd hc (by decide))) | refine hP _ _ _ _ _ _ (And.intro (fun hc => absurd hc (by decide)) (fun _ => ?_)))
    refine hP _ _ _ _ _ _ (n_told (w := 0) (by omega) hX (by omega) (fun S1 g1 => ?_))
    have hX1 := hX.sc g1
    have hN := hX1.1.1
    rw [tdI_or hn5 ha (by omega)]
    repeat (first | (refine hP _ _ _ _ _ _ ?_; show P _ _ _ _ _ _) | (refine hP _ _ _ _ _ _ (And.intro (hN _ _ _ rfl) ?_); show P _ _ (aR _ _ :: _) _ _ _))
    refine hP _ _ _ _ _ _ (And.intro (fun _ => ?_) (fun hc => absurd hc (by decide)))
    repeat (first | (refine hP _ _ _ _ _ _ ?_; show P _ _ _ _ _ _) | (refine hP _ _ _ _ _ _ (And.intro (hN _ _ _ rfl) ?_); show P _ _ (aR _ _ :: _) _ _ _))
    refine hP _ _ _ _ _ _ (And.intro (fun _ => ?_) (fun hc => absurd hc (by decide)))
    repeat (first | (refine hP _ _ _ _ _ _ ?_; show P _ _ _ _ _ _) | (refine hP _ _ _ _ _ _ (And.intro (hN _ _ _ rfl) ?_); show P _ _ (aR _ _ :: _) _ _ _))
    refine hP _ _ _ _ _ _ (And.intro (fun _ => ?_) (fun hc => absurd hc (by decide)))
    repeat (first | (refine hP _ _ _ _ _ _ ?_; show P _ _ _ _ _ _) | (refine hP _ _ _ _ _ _ (And.intro (hN _ _ _ rfl) ?_); show P _ _ (aR _ _ :: _) _ _ _))
    refine n_tellsL (P := P) (tv := tv) (nT := nT) (w := 0) (L := 99) (bef := orF F 0 a) (wh := 3) (v := v) (F := F) (S := S1) (by omega) hP hX1 hg ha (by omega) (by omega) (fun k hk => stF_WF hW (by omega)) (by rw [g1.1 57 0 g (by simp [m0])]; exact hsz) (by omega) (fun i hi => by rw [g1.1 58 0 _ (by simp [m0])]; exact hv i hi) (fun S2 s c l g2 hM2 hs hc hl => ?_) (99 + 1) (Nat.le_refl _) S1 F (99) 0 0 (-1) rfl (Ag.rf _ _) hX1 rfl (fun _ => rfl) (fun _ => Int32.zero_or) (Nat.zero_add _) rfl
    have h := h S2 ((g1.mono m0_mFl).tr g2) (by rw [← stF_or (F := F) (w := 0) (a := a) (by omega)]; exact hM2)
    rw [show (nI (cnT (tF tv F 0 a sz v) 100)) = nI (cnT (tF tv F 0 a sz v) (99 + 1)) from rfl, ← hc] at h
    repeat (first | (refine hP _ _ _ _ _ _ ?_; show P _ _ _ _ _ _) | (refine hP _ _ _ _ _ _ (And.intro (hN _ _ _ rfl) ?_); show P _ _ (aR _ _ :: _) _ _ _) | refine hP _ _ _ _ _ _ (And.intro (fun _ => ?_) (fun hc => absurd hc (by decide))) | refine hP _ _ _ _ _ _ (And.intro (fun hc => absurd hc (by decide)) (fun _ => ?_)))
    exact hP _ _ _ _ _ _ (h)
  · have h : ∀ S', Ag mFl S S' → HM S' F → K (some (aI (ff (tF tv F 0 a sz v) 100 0))) S' := h
    repeat (first | (refine hP _ _ _ _ _ _ ?_; show P _ _ _ _ _ _) | (refine hP _ _ _ _ _ _ (And.intro (hN _ _ _ rfl) ?_); show P _ _ (aR _ _ :: _) _ _ _) | refine hP _ _ _ _ _ _ (And.intro (fun _ => ?_) (fun hc => absurd hc (by decide))) | refine hP _ _ _ _ _ _ (And.intro (fun hc => absurd hc (by decide)) (fun _ => ?_)))
    refine hP _ _ _ _ _ _ (n_told (w := 0) (by omega) hX (by omega) (fun S1 g1 => ?_))
    have hX1 := hX.sc g1
    have hN := hX1.1.1
    rw [tdI_or hn5 ha (by omega)]
    repeat (first | (refine hP _ _ _ _ _ _ ?_; show P _ _ _ _ _ _) | (refine hP _ _ _ _ _ _ (And.intro (hN _ _ _ rfl) ?_); show P _ _ (aR _ _ :: _) _ _ _))
    refine hP _ _ _ _ _ _ (And.intro (fun _ => ?_) (fun hc => absurd hc (by decide)))
    repeat (first | (refine hP _ _ _ _ _ _ ?_; show P _ _ _ _ _ _) | (refine hP _ _ _ _ _ _ (And.intro (hN _ _ _ rfl) ?_); show P _ _ (aR _ _ :: _) _ _ _))
    refine hP _ _ _ _ _ _ (And.intro (fun _ => ?_) (fun hc => absurd hc (by decide)))
    repeat (first | (refine hP _ _ _ _ _ _ ?_; show P _ _ _ _ _ _) | (refine hP _ _ _ _ _ _ (And.intro (hN _ _ _ rfl) ?_); show P _ _ (aR _ _ :: _) _ _ _))
    refine hP _ _ _ _ _ _ (And.intro (fun _ => ?_) (fun hc => absurd hc (by decide)))
    repeat (first | (refine hP _ _ _ _ _ _ ?_; show P _ _ _ _ _ _) | (refine hP _ _ _ _ _ _ (And.intro (hN _ _ _ rfl) ?_); show P _ _ (aR _ _ :: _) _ _ _))
    refine n_tellsL (P := P) (tv := tv) (nT := nT) (w := 0) (L := 99) (bef := orF F 0 a) (wh := 4) (v := v) (F := F) (S := S1) (by omega) hP hX1 hg ha (by omega) (by omega) (fun k hk => stF_WF hW (by omega)) (by rw [g1.1 57 0 g (by simp [m0])]; exact hsz) (by omega) (fun i hi => by rw [g1.1 58 0 _ (by simp [m0])]; exact hv i hi) (fun S2 s c l g2 hM2 hs hc hl => ?_) (99 + 1) (Nat.le_refl _) S1 F (99) 0 0 (-1) rfl (Ag.rf _ _) hX1 rfl (fun _ => rfl) (fun _ => Int32.zero_or) (Nat.zero_add _) rfl
    have h := h S2 ((g1.mono m0_mFl).tr g2) (by rw [← stF_or (F := F) (w := 0) (a := a) (by omega)]; exact hM2)
    rw [show (ff (tF tv F 0 a sz v) 100 0) = ff (tF tv F 0 a sz v) (99 + 1) 0 from rfl, ← hl] at h
    repeat (first | (refine hP _ _ _ _ _ _ ?_; show P _ _ _ _ _ _) | (refine hP _ _ _ _ _ _ (And.intro (hN _ _ _ rfl) ?_); show P _ _ (aR _ _ :: _) _ _ _) | refine hP _ _ _ _ _ _ (And.intro (fun _ => ?_) (fun hc => absurd hc (by decide))) | refine hP _ _ _ _ _ _ (And.intro (fun hc => absurd hc (by decide)) (fun _ => ?_)))
    exact hP _ _ _ _ _ _ (h)
  · have h : ∀ S', Ag mFl S S' → HM S' F → K (some (aI (nI (cnT (tF tv F 3 a sz v) 100)))) S' := h
    repeat (first | (refine hP _ _ _ _ _ _ ?_; show P _ _ _ _ _ _) | (refine hP _ _ _ _ _ _ (And.intro (hN _ _ _ rfl) ?_); show P _ _ (aR _ _ :: _) _ _ _) | refine hP _ _ _ _ _ _ (And.intro (fun _ => ?_) (fun hc => absurd hc (by decide))) | refine hP _ _ _ _ _ _ (And.intro (fun hc => absurd hc (by decide)) (fun _ => ?_)))
    refine hP _ _ _ _ _ _ (n_told (w := 3) (by omega) hX (by omega) (fun S1 g1 => ?_))
    have hX1 := hX.sc g1
    have hN := hX1.1.1
    rw [tdI_or hn5 ha (by omega)]
    repeat (first | (refine hP _ _ _ _ _ _ ?_; show P _ _ _ _ _ _) | (refine hP _ _ _ _ _ _ (And.intro (hN _ _ _ rfl) ?_); show P _ _ (aR _ _ :: _) _ _ _))
    refine hP _ _ _ _ _ _ (And.intro (fun _ => ?_) (fun hc => absurd hc (by decide)))
    repeat (first | (refine hP _ _ _ _ _ _ ?_; show P _ _ _ _ _ _) | (refine hP _ _ _ _ _ _ (And.intro (hN _ _ _ rfl) ?_); show P _ _ (aR _ _ :: _) _ _ _))
    refine hP _ _ _ _ _ _ (And.intro (fun _ => ?_) (fun hc => absurd hc (by decide)))
    repeat (first | (refine hP _ _ _ _ _ _ ?_; show P _ _ _ _ _ _) | (refine hP _ _ _ _ _ _ (And.intro (hN _ _ _ rfl) ?_); show P _ _ (aR _ _ :: _) _ _ _))
    refine hP _ _ _ _ _ _ (And.intro (fun _ => ?_) (fun hc => absurd hc (by decide)))
    repeat (first | (refine hP _ _ _ _ _ _ ?_; show P _ _ _ _ _ _) | (refine hP _ _ _ _ _ _ (And.intro (hN _ _ _ rfl) ?_); show P _ _ (aR _ _ :: _) _ _ _))
    refine n_tellsL (P := P) (tv := tv) (nT := nT) (w := 3) (L := 99) (bef := orF F 3 a) (wh := 5) (v := v) (F := F) (S := S1) (by omega) hP hX1 hg ha (by omega) (by omega) (fun k hk => stF_WF hW (by omega)) (by rw [g1.1 57 0 g (by simp [m0])]; exact hsz) (by omega) (fun i hi => by rw [g1.1 58 0 _ (by simp [m0])]; exact hv i hi) (fun S2 s c l g2 hM2 hs hc hl => ?_) (99 + 1) (Nat.le_refl _) S1 F (99) 0 0 (-1) rfl (Ag.rf _ _) hX1 rfl (fun _ => rfl) (fun _ => Int32.zero_or) (Nat.zero_add _) rfl
    have h := h S2 ((g1.mono m0_mFl).tr g2) (by rw [← stF_or (F := F) (w := 3) (a := a) (by omega)]; exact hM2)
    rw [show (nI (cnT (tF tv F 3 a sz v) 100)) = nI (cnT (tF tv F 3 a sz v) (99 + 1)) from rfl, ← hc] at h
    repeat (first | (refine hP _ _ _ _ _ _ ?_; show P _ _ _ _ _ _) | (refine hP _ _ _ _ _ _ (And.intro (hN _ _ _ rfl) ?_); show P _ _ (aR _ _ :: _) _ _ _) | refine hP _ _ _ _ _ _ (And.intro (fun _ => ?_) (fun hc => absurd hc (by decide))) | refine hP _ _ _ _ _ _ (And.intro (fun hc => absurd hc (by decide)) (fun _ => ?_)))
    exact hP _ _ _ _ _ _ (h)
  · have h : ∀ S', Ag mFl S S' → HM S' F → K (some (aI (ff (tF tv F 3 a sz v) 100 0))) S' := h
    repeat (first | (refine hP _ _ _ _ _ _ ?_; show P _ _ _ _ _ _) | (refine hP _ _ _ _ _ _ (And.intro (hN _ _ _ rfl) ?_); show P _ _ (aR _ _ :: _) _ _ _) | refine hP _ _ _ _ _ _ (And.intro (fun _ => ?_) (fun hc => absurd hc (by decide))) | refine hP _ _ _ _ _ _ (And.intro (fun hc => absurd hc (by decide)) (fun _ => ?_)))
    refine hP _ _ _ _ _ _ (n_told (w := 3) (by omega) hX (by omega) (fun S1 g1 => ?_))
    have hX1 := hX.sc g1
    have hN := hX1.1.1
    rw [tdI_or hn5 ha (by omega)]
    repeat (first | (refine hP _ _ _ _ _ _ ?_; show P _ _ _ _ _ _) | (refine hP _ _ _ _ _ _ (And.intro (hN _ _ _ rfl) ?_); show P _ _ (aR _ _ :: _) _ _ _))
    refine hP _ _ _ _ _ _ (And.intro (fun _ => ?_) (fun hc => absurd hc (by decide)))
    repeat (first | (refine hP _ _ _ _ _ _ ?_; show P _ _ _ _ _ _) | (refine hP _ _ _ _ _ _ (And.intro (hN _ _ _ rfl) ?_); show P _ _ (aR _ _ :: _) _ _ _))
    refine hP _ _ _ _ _ _ (And.intro (fun _ => ?_) (fun hc => absurd hc (by decide)))
    repeat (first | (refine hP _ _ _ _ _ _ ?_; show P _ _ _ _ _ _) | (refine hP _ _ _ _ _ _ (And.intro (hN _ _ _ rfl) ?_); show P _ _ (aR _ _ :: _) _ _ _))
    refine hP _ _ _ _ _ _ (And.intro (fun _ => ?_) (fun hc => absurd hc (by decide)))
    repeat (first | (refine hP _ _ _ _ _ _ ?_; show P _ _ _ _ _ _) | (refine hP _ _ _ _ _ _ (And.intro (hN _ _ _ rfl) ?_); show P _ _ (aR _ _ :: _) _ _ _))
    refine n_tellsL (P := P) (tv := tv) (nT := nT) (w := 3) (L := 99) (bef := orF F 3 a) (wh := 6) (v := v) (F := F) (S := S1) (by omega) hP hX1 hg ha (by omega) (by omega) (fun k hk => stF_WF hW (by omega)) (by rw [g1.1 57 0 g (by simp [m0])]; exact hsz) (by omega) (fun i hi => by rw [g1.1 58 0 _ (by simp [m0])]; exact hv i hi) (fun S2 s c l g2 hM2 hs hc hl => ?_) (99 + 1) (Nat.le_refl _) S1 F (99) 0 0 (-1) rfl (Ag.rf _ _) hX1 rfl (fun _ => rfl) (fun _ => Int32.zero_or) (Nat.zero_add _) rfl
    have h := h S2 ((g1.mono m0_mFl).tr g2) (by rw [← stF_or (F := F) (w := 3) (a := a) (by omega)]; exact hM2)
    rw [show (ff (tF tv F 3 a sz v) 100 0) = ff (tF tv F 3 a sz v) (99 + 1) 0 from rfl, ← hl] at h
    repeat (first | (refine hP _ _ _ _ _ _ ?_; show P _ _ _ _ _ _) | (refine hP _ _ _ _ _ _ (And.intro (hN _ _ _ rfl) ?_); show P _ _ (aR _ _ :: _) _ _ _) | refine hP _ _ _ _ _ _ (And.intro (fun _ => ?_) (fun hc => absurd hc (by decide))) | refine hP _ _ _ _ _ _ (And.intro (fun hc => absurd hc (by decide)) (fun _ => ?_)))
    exact hP _ _ _ _ _ _ (h)
  · have h : ∀ S', Ag mFl S S' → HM S' F → K (some (aI (lkN (tF tv F 6 a sz v) nT))) S' := h
    obtain ⟨m, rfl⟩ : ∃ m, nT = m + 1 := ⟨nT - 1, by omega⟩
    repeat (first | (refine hP _ _ _ _ _ _ ?_; show P _ _ _ _ _ _) | (refine hP _ _ _ _ _ _ (And.intro (hN _ _ _ rfl) ?_); show P _ _ (aR _ _ :: _) _ _ _) | refine hP _ _ _ _ _ _ (And.intro (fun _ => ?_) (fun hc => absurd hc (by decide))) | refine hP _ _ _ _ _ _ (And.intro (fun hc => absurd hc (by decide)) (fun _ => ?_)))
    rw [hX.2.1.2.2.2.1, h3, nI_pred]
    refine n_tellsL (P := P) (tv := tv) (nT := m + 1) (w := 6) (L := m) (bef := orF F 6 a) (wh := 7) (v := v) (F := F) (S := S) (by omega) hP hX hg ha (by omega) (by omega) (fun k hk => stF_WF hW (by omega)) hsz (by omega) hv (fun S2 s c l g2 hM2 hs hc hl => ?_) (m + 1) (Nat.le_refl _) S F (nI m) 0 0 (-1) (nI_1 m) (Ag.rf _ _) hX rfl (fun _ => rfl) (fun _ => Int32.zero_or) (Nat.zero_add _) rfl
    have h := h S2 g2 (by rw [← stF_or (F := F) (w := 6) (a := a) (by omega)]; exact hM2)
    rw [← hs (by omega)] at h
    repeat (first | (refine hP _ _ _ _ _ _ ?_; show P _ _ _ _ _ _) | (refine hP _ _ _ _ _ _ (And.intro (hN _ _ _ rfl) ?_); show P _ _ (aR _ _ :: _) _ _ _) | refine hP _ _ _ _ _ _ (And.intro (fun _ => ?_) (fun hc => absurd hc (by decide))) | refine hP _ _ _ _ _ _ (And.intro (fun hc => absurd hc (by decide)) (fun _ => ?_)))
    exact hP _ _ _ _ _ _ (h)
  · have h : ∀ S', Ag mFl S S' → HM S' F → K (some (aI (lkN (liF tv F o sz v) F.n))) S' := h
    repeat (first | (refine hP _ _ _ _ _ _ ?_; show P _ _ _ _ _ _) | (refine hP _ _ _ _ _ _ (And.intro (hN _ _ _ rfl) ?_); show P _ _ (aR _ _ :: _) _ _ _) | refine hP _ _ _ _ _ _ (And.intro (fun _ => ?_) (fun hc => absurd hc (by decide))) | refine hP _ _ _ _ _ _ (And.intro (fun hc => absurd hc (by decide)) (fun _ => ?_)))
    refine hP _ _ _ _ _ _ (n_likeSet (v := v) (by omega) hX hg ho hsz (by omega) hv (fun S1 g1 => ?_))
    have h := h S1 (g1.mono m0_mFl) (hX.sc g1).2.1
    repeat (first | (refine hP _ _ _ _ _ _ ?_; show P _ _ _ _ _ _) | (refine hP _ _ _ _ _ _ (And.intro (hN _ _ _ rfl) ?_); show P _ _ (aR _ _ :: _) _ _ _))
    exact hP _ _ _ _ _ _ (h)
