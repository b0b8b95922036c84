/-! the class, out of claim whole -/
theorem nI_p1n {a : Nat} (ha : 1 ≤ a) (ha2 : a < 2 ^ 31) : ¬ nI a - 1 = -1 := by
  obtain ⟨u, rfl⟩ : ∃ u, a = u + 1 := ⟨a - 1, by omega⟩
  rw [nI_pred]
  exact nI_m1 (by omega)
theorem uN_uN {f : Nat → Nat} {a u v : Nat} : uN (uN f a u) a v = uN f a v := by
  funext x
  unfold uN
  split <;> rfl
theorem stF_st {F : Fl} {w a u v : Nat} (hw : w = 0 ∨ w = 2 ∨ w = 3 ∨ w = 5 ∨ w = 6) : stF (stF F w a 0 u) w a 0 v = stF F w a 0 v := by
  rcases hw with rfl | rfl | rfl | rfl | rfl
  · rfl
  · show mkF F.n F.rd F.ni F.ru F.ki (uN (uN F.nu a u) a v) F.dn F.ow = _
    rw [uN_uN]
    rfl
  · show mkF F.n F.rd F.ni F.ru F.ki F.nu (uN (uN F.dn a u) a v) F.ow = _
    rw [uN_uN]
    rfl
  · show mkF F.n F.rd F.ni F.ru (uN (uN F.ki a u) a v) F.nu F.dn F.ow = _
    rw [uN_uN]
    rfl
  · rfl
theorem stF_n {F : Fl} {w a v : Nat} (hw : w = 0 ∨ w = 2 ∨ w = 3 ∨ w = 5 ∨ w = 6) : (stF F w a 0 v).n = F.n := by
  rcases hw with rfl | rfl | rfl | rfl | rfl <;> rfl
theorem stF_WF {nT : Nat} {F : Fl} {w a v : Nat} (hW : WF nT F) (hw : w = 0 ∨ (w = 2 ∧ v ≤ 9) ∨ (w = 3 ∧ v ≤ 99) ∨ (w = 5 ∧ v ≤ 5) ∨ (w = 6 ∧ v < nT)) : WF nT (stF F w a 0 v) := by
  rcases hw with rfl | ⟨rfl, h⟩ | ⟨rfl, h⟩ | ⟨rfl, h⟩ | ⟨rfl, h⟩
  · exact hW.sR v
  · exact hW.sNu a h
  · exact hW.sD a h
  · exact hW.sKi a h
  · exact ⟨hW.1, h, hW.2.2.1, hW.2.2.2⟩
/-- is all told so, were one thing of one so -/
def tF (tv : TV) (F : Fl) (w a sz : Nat) (v : Nat → Int32) (k : Nat) : Bool := decide (foN tv (stF F w a 0 k) a sz v = -1)
def cnT (f : Nat → Bool) : Nat → Nat
  | 0 => 0
  | k + 1 => cnT f k + (if f k = true then 1 else 0)
theorem c_kindsTold {tv : TV} {nT d g a sz : Nat} {S : St} {K : KT} {F : Fl} {v : Nat → Int32} (hd : 100 ≤ d) (hX : FX tv nT S 0 F) (ha : a < F.n) (hsz : S.1 20 g 1 = nI sz) (hs40 : sz ≤ 40) (hv : ∀ k, k < sz → S.1 21 g k = v k) (h : ∀ S', Ag wTH S S' → K (some (aI (lkN (tF tv F 5 a sz v) 6))) S') : Call d m_X5_kindsTold [aR 0 0, aR 20 g, aI (nI a)] S K := by
  refine Call.of (k := 99) hd (fun e he P hP => ?_)
  have hn5 := hX.2.2.1
  have hN := hX.1.1
  have loop : ∀ k, k ≤ 6 → ∀ S2 F1, Ag wTH S S2 → FX tv nT S2 2 F1 → F1.n = F.n → (∀ u, stF F1 5 a 0 u = stF F 5 a 0 u) → P 15 [some (aR 0 0), some (aR 20 g), some (aI (nI a)), some (aR 10 2), some (aI (lkN (tF tv F 5 a sz v) k)), some (aI (nI k))] [aI 6, aI (nI k)] S2 0 0 := by
    refine dn ?_ ?_
    · intro S2 F1 g2 hX2 hn hst
      refine hP _ _ _ _ _ _ (And.intro (fun _ => ?_) (fun hc => absurd (nI_le (Nat.le_refl 6) (by decide)) hc))
      repeat (first | (refine hP _ _ _ _ _ _ ?_; show P _ _ _ _ _ _) | (refine hP _ _ _ _ _ _ (And.intro (hN _ _ _ rfl) ?_); show P _ _ (aR _ _ :: _) _ _ _))
      exact hP _ _ _ _ _ _ (h S2 g2)
    · intro k hk ih S2 F1 g2 hX2 hn hst
      have hN := hX2.1.1
      rw [nI_succ] at ih
      refine hP _ _ _ _ _ _ (And.intro (fun hc => absurd hc (nI_ge hk (by decide))) (fun _ => ?_))
      repeat (first | (refine hP _ _ _ _ _ _ ?_; show P _ _ _ _ _ _) | (refine hP _ _ _ _ _ _ (And.intro (hN _ _ _ rfl) ?_); show P _ _ (aR _ _ :: _) _ _ _))
      refine hP _ _ _ _ _ _ (Exists.intro (a) (And.intro (And.intro (rfl) (by show a < 5; omega)) ?_))
      show P _ _ _ (ivSet S2 11 2 a (nI k)) _ _
      have g3 : Ag wTH S2 (ivSet S2 11 2 a (nI k)) := Ag.iv (by simp only [wTH]; omega)
      have hX3 : FX tv nT (ivSet S2 11 2 a (nI k)) 2 (stF F1 5 a 0 k) := ⟨hX2.1.up g3 wTH_ok, hX2.2.1.sKi a k, stF_WF hX2.2.2 (by omega)⟩
      rw [hst] at hX3
      generalize ivSet S2 11 2 a (nI k) = S3 at g3 hX3 ⊢
      have hN := hX3.1.1
      repeat (first | (refine hP _ _ _ _ _ _ ?_; show P _ _ _ _ _ _) | (refine hP _ _ _ _ _ _ (And.intro (hN _ _ _ rfl) ?_); show P _ _ (aR _ _ :: _) _ _ _))
      refine hP _ _ _ _ _ _ (q_paysAs (v := v) (by omega) hX3 (by rw [stF_n (by omega)]; exact ha) (by rw [(g2.tr g3).1 20 g 1 (by simp [wTH])]; exact hsz) hs40 (fun i hi => by rw [(g2.tr g3).1 21 g i (by simp [wTH])]; exact hv i hi) (fun S4 g4 => ?_))
      have ih := ih S4 (stF F 5 a 0 k) ((g2.tr g3).tr (g4.mono w0_th)) (hX3.sc g4) (stF_n (by omega)) (fun u => stF_st (by omega))
      rw [show decide (foN tv (stF F 5 a 0 k) a sz v = -1) = tF tv F 5 a sz v k from rfl]
      have hN := hX3.1.1.up g4

      cases hf : tF tv F 5 a sz v k with
      | false =>
        rw [show lkN (tF tv F 5 a sz v) (k + 1) = lkN (tF tv F 5 a sz v) k from if_neg (by rw [hf]; decide)] at ih
        repeat (first | (refine hP _ _ _ _ _ _ ?_; show P _ _ _ _ _ _) | (refine hP _ _ _ _ _ _ (And.intro (hN _ _ _ rfl) ?_); show P _ _ (aR _ _ :: _) _ _ _) | refine hP _ _ _ _ _ _ (And.intro (fun _ => ?_) (fun hc => absurd hc (by decide))) | refine hP _ _ _ _ _ _ (And.intro (fun hc => absurd hc (by decide)) (fun _ => ?_)))
        exact ih
      | true =>
        rw [show lkN (tF tv F 5 a sz v) (k + 1) = lkN (tF tv F 5 a sz v) k ||| ((1 : Int32) <<< (nI k &&& 31)) from if_pos hf] at ih
        repeat (first | (refine hP _ _ _ _ _ _ ?_; show P _ _ _ _ _ _) | (refine hP _ _ _ _ _ _ (And.intro (hN _ _ _ rfl) ?_); show P _ _ (aR _ _ :: _) _ _ _) | refine hP _ _ _ _ _ _ (And.intro (fun _ => ?_) (fun hc => absurd hc (by decide))) | refine hP _ _ _ _ _ _ (And.intro (fun hc => absurd hc (by decide)) (fun _ => ?_)))
        exact ih
  repeat (first | (refine hP _ _ _ _ _ _ ?_; show P _ _ _ _ _ _) | (refine hP _ _ _ _ _ _ (And.intro (hN _ _ _ rfl) ?_); show P _ _ (aR _ _ :: _) _ _ _))
  refine hP _ _ _ _ _ _ (q_think (by omega) hX (fun S1 g1 hX1 => ?_))
  have hN := hX1.1.1
  repeat (first | (refine hP _ _ _ _ _ _ ?_; show P _ _ _ _ _ _) | (refine hP _ _ _ _ _ _ (And.intro (hN _ _ _ rfl) ?_); show P _ _ (aR _ _ :: _) _ _ _))
  exact loop 0 (Nat.zero_le _) S1 F (g1.mono (wTk_th (by omega))) hX1 rfl (fun _ => rfl)
theorem c_numbersTold {tv : TV} {nT d g a sz : Nat} {S : St} {K : KT} {F : Fl} {v : Nat → Int32} (hd : 100 ≤ d) (hX : FX tv nT S 0 F) (ha : a < F.n) (hsz : S.1 20 g 1 = nI sz) (hs40 : sz ≤ 40) (hv : ∀ k, k < sz → S.1 21 g k = v k) (h : ∀ S', Ag wTH S S' → K (some (aI (lkN (tF tv F 2 a sz v) 10))) S') : Call d m_X5_numbersTold [aR 0 0, aR 20 g, aI (nI a)] S K := by
  refine Call.of (k := 99) hd (fun e he P hP => ?_)
  have hn5 := hX.2.2.1
  have hN := hX.1.1
  have loop : ∀ k, k ≤ 10 → ∀ S2 F1, Ag wTH S S2 → FX tv nT S2 2 F1 → F1.n = F.n → (∀ u, stF F1 2 a 0 u = stF F 2 a 0 u) → P 15 [some (aR 0 0), some (aR 20 g), some (aI (nI a)), some (aR 10 2), some (aI (lkN (tF tv F 2 a sz v) k)), some (aI (nI k))] [aI 9, aI (nI k)] S2 0 0 := by
    refine dn ?_ ?_
    · intro S2 F1 g2 hX2 hn hst
      refine hP _ _ _ _ _ _ (And.intro (fun _ => ?_) (fun hc => absurd (nI_lt (a := 9) (b := 10) (by decide) (by decide)) hc))
      repeat (first | (refine hP _ _ _ _ _ _ ?_; show P _ _ _ _ _ _) | (refine hP _ _ _ _ _ _ (And.intro (hN _ _ _ rfl) ?_); show P _ _ (aR _ _ :: _) _ _ _))
      exact hP _ _ _ _ _ _ (h S2 g2)
    · intro k hk ih S2 F1 g2 hX2 hn hst
      have hN := hX2.1.1
      rw [nI_succ] at ih
      refine hP _ _ _ _ _ _ (And.intro (fun hc => absurd hc (nI_nlt (a := 9) (b := k) (by omega) (by decide))) (fun _ => ?_))
      repeat (first | (refine hP _ _ _ _ _ _ ?_; show P _ _ _ _ _ _) | (refine hP _ _ _ _ _ _ (And.intro (hN _ _ _ rfl) ?_); show P _ _ (aR _ _ :: _) _ _ _))
      refine hP _ _ _ _ _ _ (Exists.intro (a) (And.intro (And.intro (rfl) (by show a < 5; omega)) ?_))
      show P _ _ _ (ivSet S2 12 2 a (nI k)) _ _
      have g3 : Ag wTH S2 (ivSet S2 12 2 a (nI k)) := Ag.iv (by simp only [wTH]; omega)
      have hX3 : FX tv nT (ivSet S2 12 2 a (nI k)) 2 (stF F1 2 a 0 k) := ⟨hX2.1.up g3 wTH_ok, hX2.2.1.sNu a k, stF_WF hX2.2.2 (by omega)⟩
      rw [hst] at hX3
      generalize ivSet S2 12 2 a (nI k) = S3 at g3 hX3 ⊢
      have hN := hX3.1.1
      repeat (first | (refine hP _ _ _ _ _ _ ?_; show P _ _ _ _ _ _) | (refine hP _ _ _ _ _ _ (And.intro (hN _ _ _ rfl) ?_); show P _ _ (aR _ _ :: _) _ _ _))
      refine hP _ _ _ _ _ _ (q_paysAs (v := v) (by omega) hX3 (by rw [stF_n (by omega)]; exact ha) (by rw [(g2.tr g3).1 20 g 1 (by simp [wTH])]; exact hsz) hs40 (fun i hi => by rw [(g2.tr g3).1 21 g i (by simp [wTH])]; exact hv i hi) (fun S4 g4 => ?_))
      have ih := ih S4 (stF F 2 a 0 k) ((g2.tr g3).tr (g4.mono w0_th)) (hX3.sc g4) (stF_n (by omega)) (fun u => stF_st (by omega))
      rw [show decide (foN tv (stF F 2 a 0 k) a sz v = -1) = tF tv F 2 a sz v k from rfl]
      have hN := hX3.1.1.up g4

      cases hf : tF tv F 2 a sz v k with
      | false =>
        rw [show lkN (tF tv F 2 a sz v) (k + 1) = lkN (tF tv F 2 a sz v) k from if_neg (by rw [hf]; decide)] at ih
        repeat (first | (refine hP _ _ _ _ _ _ ?_; show P _ _ _ _ _ _) | (refine hP _ _ _ _ _ _ (And.intro (hN _ _ _ rfl) ?_); show P _ _ (aR _ _ :: _) _ _ _) | refine hP _ _ _ _ _ _ (And.intro (fun _ => ?_) (fun hc => absurd hc (by decide))) | refine hP _ _ _ _ _ _ (And.intro (fun hc => absurd hc (by decide)) (fun _ => ?_)))
        exact ih
      | true =>
        rw [show lkN (tF tv F 2 a sz v) (k + 1) = lkN (tF tv F 2 a sz v) k ||| ((1 : Int32) <<< (nI k &&& 31)) from if_pos hf] at ih
        repeat (first | (refine hP _ _ _ _ _ _ ?_; show P _ _ _ _ _ _) | (refine hP _ _ _ _ _ _ (And.intro (hN _ _ _ rfl) ?_); show P _ _ (aR _ _ :: _) _ _ _) | refine hP _ _ _ _ _ _ (And.intro (fun _ => ?_) (fun hc => absurd hc (by decide))) | refine hP _ _ _ _ _ _ (And.intro (fun hc => absurd hc (by decide)) (fun _ => ?_)))
        exact ih
  repeat (first | (refine hP _ _ _ _ _ _ ?_; show P _ _ _ _ _ _) | (refine hP _ _ _ _ _ _ (And.intro (hN _ _ _ rfl) ?_); show P _ _ (aR _ _ :: _) _ _ _))
  refine hP _ _ _ _ _ _ (q_think (by omega) hX (fun S1 g1 hX1 => ?_))
  have hN := hX1.1.1
  repeat (first | (refine hP _ _ _ _ _ _ ?_; show P _ _ _ _ _ _) | (refine hP _ _ _ _ _ _ (And.intro (hN _ _ _ rfl) ?_); show P _ _ (aR _ _ :: _) _ _ _))
  exact loop 0 (Nat.zero_le _) S1 F (g1.mono (wTk_th (by omega))) hX1 rfl (fun _ => rfl)
theorem c_textsTold {tv : TV} {nT d g a sz : Nat} {S : St} {K : KT} {F : Fl} {v : Nat → Int32} (hd : 100 ≤ d) (hX : FX tv nT S 0 F) (ha : a < F.n) (hcn : S.1 1 0 1 = nI nT) (hsz : S.1 20 g 1 = nI sz) (hs40 : sz ≤ 40) (hv : ∀ k, k < sz → S.1 21 g k = v k) (h : ∀ S', Ag wTH S S' → K (some (aI (lkN (tF tv F 6 a sz v) nT))) S') : Call d m_X5_textsTold [aR 0 0, aR 20 g, aI (nI a)] S K := by
  refine Call.of (k := 99) hd (fun e he P hP => ?_)
  have hn5 := hX.2.2.1
  have hN := hX.1.1
  have loop : ∀ k, k ≤ nT → ∀ S2 F1, Ag wTH S S2 → FX tv nT S2 2 F1 → F1.n = F.n → (∀ u, stF F1 6 a 0 u = stF F 6 a 0 u) → P 20 [some (aR 0 0), some (aR 20 g), some (aI (nI a)), some (aR 10 2), some (aI (lkN (tF tv F 6 a sz v) k)), some (aI (nI k))] [aI (S2.1 1 0 1), aI (nI k)] S2 0 0 := by
    refine dn ?_ ?_
    · intro S2 F1 g2 hX2 hn hst
      rw [show S2.1 1 0 1 = nI nT by rw [g2.1 1 0 1 (by simp [wTH])]; exact hcn]
      refine hP _ _ _ _ _ _ (And.intro (fun _ => ?_) (fun hc => absurd (nI_le (Nat.le_refl nT) (by have := hX.2.2.2.2.1; omega)) hc))
      repeat (first | (refine hP _ _ _ _ _ _ ?_; show P _ _ _ _ _ _) | (refine hP _ _ _ _ _ _ (And.intro (hN _ _ _ rfl) ?_); show P _ _ (aR _ _ :: _) _ _ _))
      exact hP _ _ _ _ _ _ (h S2 g2)
    · intro k hk ih S2 F1 g2 hX2 hn hst
      have hN := hX2.1.1
      rw [nI_succ] at ih
      rw [show S2.1 1 0 1 = nI nT by rw [g2.1 1 0 1 (by simp [wTH])]; exact hcn]
      refine hP _ _ _ _ _ _ (And.intro (fun hc => absurd hc (nI_ge hk (by have := hX.2.2.2.2.1; omega))) (fun _ => ?_))
      repeat (first | (refine hP _ _ _ _ _ _ ?_; show P _ _ _ _ _ _) | (refine hP _ _ _ _ _ _ (And.intro (hN _ _ _ rfl) ?_); show P _ _ (aR _ _ :: _) _ _ _))
      show P _ _ _ (ivSet S2 10 2 4 (nI k)) _ _
      have g3 : Ag wTH S2 (ivSet S2 10 2 4 (nI k)) := Ag.iv (by simp only [wTH]; omega)
      have hX3 : FX tv nT (ivSet S2 10 2 4 (nI k)) 2 (stF F1 6 a 0 k) := ⟨hX2.1.up g3 wTH_ok, hX2.2.1.sRu k, stF_WF hX2.2.2 (by omega)⟩
      rw [hst] at hX3
      generalize ivSet S2 10 2 4 (nI k) = S3 at g3 hX3 ⊢
      have hN := hX3.1.1
      repeat (first | (refine hP _ _ _ _ _ _ ?_; show P _ _ _ _ _ _) | (refine hP _ _ _ _ _ _ (And.intro (hN _ _ _ rfl) ?_); show P _ _ (aR _ _ :: _) _ _ _))
      refine hP _ _ _ _ _ _ (q_paysAs (v := v) (by omega) hX3 (by rw [stF_n (by omega)]; exact ha) (by rw [(g2.tr g3).1 20 g 1 (by simp [wTH])]; exact hsz) hs40 (fun i hi => by rw [(g2.tr g3).1 21 g i (by simp [wTH])]; exact hv i hi) (fun S4 g4 => ?_))
      have ih := ih S4 (stF F 6 a 0 k) ((g2.tr g3).tr (g4.mono w0_th)) (hX3.sc g4) (stF_n (by omega)) (fun u => stF_st (by omega))
      rw [show decide (foN tv (stF F 6 a 0 k) a sz v = -1) = tF tv F 6 a sz v k from rfl]
      have hN := hX3.1.1.up g4

      cases hf : tF tv F 6 a sz v k with
      | false =>
        rw [show lkN (tF tv F 6 a sz v) (k + 1) = lkN (tF tv F 6 a sz v) k from if_neg (by rw [hf]; decide)] at ih
        repeat (first | (refine hP _ _ _ _ _ _ ?_; show P _ _ _ _ _ _) | (refine hP _ _ _ _ _ _ (And.intro (hN _ _ _ rfl) ?_); show P _ _ (aR _ _ :: _) _ _ _) | refine hP _ _ _ _ _ _ (And.intro (fun _ => ?_) (fun hc => absurd hc (by decide))) | refine hP _ _ _ _ _ _ (And.intro (fun hc => absurd hc (by decide)) (fun _ => ?_)))
        exact ih
      | true =>
        rw [show lkN (tF tv F 6 a sz v) (k + 1) = lkN (tF tv F 6 a sz v) k ||| ((1 : Int32) <<< (nI k &&& 31)) from if_pos hf] at ih
        repeat (first | (refine hP _ _ _ _ _ _ ?_; show P _ _ _ _ _ _) | (refine hP _ _ _ _ _ _ (And.intro (hN _ _ _ rfl) ?_); show P _ _ (aR _ _ :: _) _ _ _) | refine hP _ _ _ _ _ _ (And.intro (fun _ => ?_) (fun hc => absurd hc (by decide))) | refine hP _ _ _ _ _ _ (And.intro (fun hc => absurd hc (by decide)) (fun _ => ?_)))
        exact ih
  repeat (first | (refine hP _ _ _ _ _ _ ?_; show P _ _ _ _ _ _) | (refine hP _ _ _ _ _ _ (And.intro (hN _ _ _ rfl) ?_); show P _ _ (aR _ _ :: _) _ _ _))
  refine hP _ _ _ _ _ _ (q_think (by omega) hX (fun S1 g1 hX1 => ?_))
  have hN := hX1.1.1
  repeat (first | (refine hP _ _ _ _ _ _ ?_; show P _ _ _ _ _ _) | (refine hP _ _ _ _ _ _ (And.intro (hN _ _ _ rfl) ?_); show P _ _ (aR _ _ :: _) _ _ _))
  exact loop 0 (Nat.zero_le _) S1 F (g1.mono (wTk_th (by omega))) hX1 rfl (fun _ => rfl)
theorem c_roundsTold {tv : TV} {nT d g a sz : Nat} {S : St} {K : KT} {F : Fl} {v : Nat → Int32} {l : Bool} (hd : 100 ≤ d) (hX : FX tv nT S 0 F) (ha : a < F.n) (hsz : S.1 20 g 1 = nI sz) (hs40 : sz ≤ 40) (hv : ∀ k, k < sz → S.1 21 g k = v k) (h : ∀ S', Ag wTH S S' → K (some (aI (if l = true then ff (tF tv F 0 a sz v) 100 0 else nI (cnT (tF tv F 0 a sz v) 100)))) S') : Call d m_X5_roundsTold [aR 0 0, aR 20 g, aI (nI a), aI (b2 l)] S K := by
  refine Call.of (k := 99) hd (fun e he P hP => ?_)
  generalize hr : ff (tF tv F 0 a sz v) 100 0 = r at h
  have hn5 := hX.2.2.1
  have hN := hX.1.1
  have loop : ∀ k, k ≤ 100 → ∀ S2 F1, Ag wTH S S2 → FX tv nT S2 2 F1 → F1.n = F.n → (∀ u, stF F1 0 a 0 u = stF F 0 a 0 u) → (l = true → ff (tF tv F 0 a sz v) (100 - k) k = r) → P 16 [some (aR 0 0), some (aR 20 g), some (aI (nI a)), some (aI (b2 l)), some (aR 10 2), some (aI (nI (cnT (tF tv F 0 a sz v) k))), some (aI (nI k))] [aI 100, aI (nI k)] S2 0 0 := by
    refine dn ?_ ?_
    · intro S2 F1 g2 hX2 hn hst hl
      have h := h S2 g2
      refine hP _ _ _ _ _ _ (And.intro (fun _ => ?_) (fun hc => absurd (nI_le (Nat.le_refl 100) (by decide)) hc))
      repeat (first | (refine hP _ _ _ _ _ _ ?_; show P _ _ _ _ _ _) | (refine hP _ _ _ _ _ _ (And.intro (hN _ _ _ rfl) ?_); show P _ _ (aR _ _ :: _) _ _ _))
      cases l with
      | true =>
        rw [if_pos rfl, ← hl rfl] at h
        have h : K (some (aI (-1))) S2 := h
        repeat (first | (refine hP _ _ _ _ _ _ ?_; show P _ _ _ _ _ _) | (refine hP _ _ _ _ _ _ (And.intro (hN _ _ _ rfl) ?_); show P _ _ (aR _ _ :: _) _ _ _) | refine hP _ _ _ _ _ _ (And.intro (fun _ => ?_) (fun hc => absurd hc (by decide))) | refine hP _ _ _ _ _ _ (And.intro (fun hc => absurd hc (by decide)) (fun _ => ?_)))
        exact hP _ _ _ _ _ _ (h)
      | false =>
        rw [if_neg (by decide)] at h
        repeat (first | (refine hP _ _ _ _ _ _ ?_; show P _ _ _ _ _ _) | (refine hP _ _ _ _ _ _ (And.intro (hN _ _ _ rfl) ?_); show P _ _ (aR _ _ :: _) _ _ _) | refine hP _ _ _ _ _ _ (And.intro (fun _ => ?_) (fun hc => absurd hc (by decide))) | refine hP _ _ _ _ _ _ (And.intro (fun hc => absurd hc (by decide)) (fun _ => ?_)))
        exact hP _ _ _ _ _ _ (h)
    · intro k hk ih S2 F1 g2 hX2 hn hst hl
      have hN := hX2.1.1
      rw [nI_succ] at ih
      refine hP _ _ _ _ _ _ (And.intro (fun hc => absurd hc (nI_ge hk (by decide))) (fun _ => ?_))
      repeat (first | (refine hP _ _ _ _ _ _ ?_; show P _ _ _ _ _ _) | (refine hP _ _ _ _ _ _ (And.intro (hN _ _ _ rfl) ?_); show P _ _ (aR _ _ :: _) _ _ _))
      show P _ _ _ (ivSet S2 10 2 2 (nI k)) _ _
      have g3 : Ag wTH S2 (ivSet S2 10 2 2 (nI k)) := Ag.iv (by simp only [wTH]; omega)
      have hX3 : FX tv nT (ivSet S2 10 2 2 (nI k)) 2 (stF F1 0 a 0 k) := ⟨hX2.1.up g3 wTH_ok, hX2.2.1.sR k, stF_WF hX2.2.2 (by omega)⟩
      rw [hst] at hX3
      generalize ivSet S2 10 2 2 (nI k) = S3 at g3 hX3 ⊢
      have hN := hX3.1.1
      repeat (first | (refine hP _ _ _ _ _ _ ?_; show P _ _ _ _ _ _) | (refine hP _ _ _ _ _ _ (And.intro (hN _ _ _ rfl) ?_); show P _ _ (aR _ _ :: _) _ _ _))
      refine hP _ _ _ _ _ _ (q_paysAs (v := v) (by omega) hX3 (by rw [stF_n (by omega)]; exact ha) (by rw [(g2.tr g3).1 20 g 1 (by simp [wTH])]; exact hsz) hs40 (fun i hi => by rw [(g2.tr g3).1 21 g i (by simp [wTH])]; exact hv i hi) (fun S4 g4 => ?_))
      have g14 := (g2.tr g3).tr (g4.mono w0_th)
      have h := h S4 g14
      have ih := ih S4 (stF F 0 a 0 k) g14 (hX3.sc g4) (stF_n (by omega)) (fun u => stF_st (by omega))
      rw [show decide (foN tv (stF F 0 a 0 k) a sz v = -1) = tF tv F 0 a sz v k from rfl]
      have hN := hX3.1.1.up g4
      rw [show 100 - k = (100 - (k + 1)) + 1 by omega] at hl
      rw [show ff (tF tv F 0 a sz v) (100 - (k + 1) + 1) k = (if tF tv F 0 a sz v k = true then nI k else ff (tF tv F 0 a sz v) (100 - (k + 1)) (k + 1)) from rfl] at hl
      cases hf : tF tv F 0 a sz v k with
      | false =>
        rw [show cnT (tF tv F 0 a sz v) (k + 1) = cnT (tF tv F 0 a sz v) k from by show _ + _ = _; rw [hf]; rfl] at ih
        have ih := ih (fun z => by
          have hl := hl z
          rw [if_neg (by rw [hf]; decide)] at hl
          exact hl)
        repeat (first | (refine hP _ _ _ _ _ _ ?_; show P _ _ _ _ _ _) | (refine hP _ _ _ _ _ _ (And.intro (hN _ _ _ rfl) ?_); show P _ _ (aR _ _ :: _) _ _ _) | refine hP _ _ _ _ _ _ (And.intro (fun _ => ?_) (fun hc => absurd hc (by decide))) | refine hP _ _ _ _ _ _ (And.intro (fun hc => absurd hc (by decide)) (fun _ => ?_)))
        exact ih
      | true =>
        cases l with
        | true =>
          have hl := hl rfl
          rw [if_pos hf] at hl
          rw [if_pos rfl, ← hl] at h
          repeat (first | (refine hP _ _ _ _ _ _ ?_; show P _ _ _ _ _ _) | (refine hP _ _ _ _ _ _ (And.intro (hN _ _ _ rfl) ?_); show P _ _ (aR _ _ :: _) _ _ _) | refine hP _ _ _ _ _ _ (And.intro (fun _ => ?_) (fun hc => absurd hc (by decide))) | refine hP _ _ _ _ _ _ (And.intro (fun hc => absurd hc (by decide)) (fun _ => ?_)))
          exact hP _ _ _ _ _ _ (h)
        | false =>
          rw [show cnT (tF tv F 0 a sz v) (k + 1) = cnT (tF tv F 0 a sz v) k + 1 from by show _ + _ = _; rw [hf]; rfl, nI_succ (cnT (tF tv F 0 a sz v) k)] at ih
          have ih := ih (fun z => by cases z)
          repeat (first | (refine hP _ _ _ _ _ _ ?_; show P _ _ _ _ _ _) | (refine hP _ _ _ _ _ _ (And.intro (hN _ _ _ rfl) ?_); show P _ _ (aR _ _ :: _) _ _ _) | refine hP _ _ _ _ _ _ (And.intro (fun _ => ?_) (fun hc => absurd hc (by decide))) | refine hP _ _ _ _ _ _ (And.intro (fun hc => absurd hc (by decide)) (fun _ => ?_)))
          exact ih
  repeat (first | (refine hP _ _ _ _ _ _ ?_; show P _ _ _ _ _ _) | (refine hP _ _ _ _ _ _ (And.intro (hN _ _ _ rfl) ?_); show P _ _ (aR _ _ :: _) _ _ _))
  refine hP _ _ _ _ _ _ (q_think (by omega) hX (fun S1 g1 hX1 => ?_))
  have hN := hX1.1.1
  repeat (first | (refine hP _ _ _ _ _ _ ?_; show P _ _ _ _ _ _) | (refine hP _ _ _ _ _ _ (And.intro (hN _ _ _ rfl) ?_); show P _ _ (aR _ _ :: _) _ _ _))
  exact loop 0 (Nat.zero_le _) S1 F (g1.mono (wTk_th (by omega))) hX1 rfl (fun _ => rfl) (fun _ => hr)
theorem c_donesTold {tv : TV} {nT d g a sz : Nat} {S : St} {K : KT} {F : Fl} {v : Nat → Int32} {l : Bool} (hd : 100 ≤ d) (hX : FX tv nT S 0 F) (ha : a < F.n) (hsz : S.1 20 g 1 = nI sz) (hs40 : sz ≤ 40) (hv : ∀ k, k < sz → S.1 21 g k = v k) (h : ∀ S', Ag wTH S S' → K (some (aI (if l = true then ff (tF tv F 3 a sz v) 100 0 else nI (cnT (tF tv F 3 a sz v) 100)))) S') : Call d m_X5_donesTold [aR 0 0, aR 20 g, aI (nI a), aI (b2 l)] S K := by
  refine Call.of (k := 99) hd (fun e he P hP => ?_)
  generalize hr : ff (tF tv F 3 a sz v) 100 0 = r at h
  have hn5 := hX.2.2.1
  have hN := hX.1.1
  have loop : ∀ k, k ≤ 100 → ∀ S2 F1, Ag wTH S S2 → FX tv nT S2 2 F1 → F1.n = F.n → (∀ u, stF F1 3 a 0 u = stF F 3 a 0 u) → (l = true → ff (tF tv F 3 a sz v) (100 - k) k = r) → P 16 [some (aR 0 0), some (aR 20 g), some (aI (nI a)), some (aI (b2 l)), some (aR 10 2), some (aI (nI (cnT (tF tv F 3 a sz v) k))), some (aI (nI k))] [aI 100, aI (nI k)] S2 0 0 := by
    refine dn ?_ ?_
    · intro S2 F1 g2 hX2 hn hst hl
      have h := h S2 g2
      refine hP _ _ _ _ _ _ (And.intro (fun _ => ?_) (fun hc => absurd (nI_le (Nat.le_refl 100) (by decide)) hc))
      repeat (first | (refine hP _ _ _ _ _ _ ?_; show P _ _ _ _ _ _) | (refine hP _ _ _ _ _ _ (And.intro (hN _ _ _ rfl) ?_); show P _ _ (aR _ _ :: _) _ _ _))
      cases l with
      | true =>
        rw [if_pos rfl, ← hl rfl] at h
        have h : K (some (aI (-1))) S2 := h
        repeat (first | (refine hP _ _ _ _ _ _ ?_; show P _ _ _ _ _ _) | (refine hP _ _ _ _ _ _ (And.intro (hN _ _ _ rfl) ?_); show P _ _ (aR _ _ :: _) _ _ _) | refine hP _ _ _ _ _ _ (And.intro (fun _ => ?_) (fun hc => absurd hc (by decide))) | refine hP _ _ _ _ _ _ (And.intro (fun hc => absurd hc (by decide)) (fun _ => ?_)))
        exact hP _ _ _ _ _ _ (h)
      | false =>
        rw [if_neg (by decide)] at h
        repeat (first | (refine hP _ _ _ _ _ _ ?_; show P _ _ _ _ _ _) | (refine hP _ _ _ _ _ _ (And.intro (hN _ _ _ rfl) ?_); show P _ _ (aR _ _ :: _) _ _ _) | refine hP _ _ _ _ _ _ (And.intro (fun _ => ?_) (fun hc => absurd hc (by decide))) | refine hP _ _ _ _ _ _ (And.intro (fun hc => absurd hc (by decide)) (fun _ => ?_)))
        exact hP _ _ _ _ _ _ (h)
    · intro k hk ih S2 F1 g2 hX2 hn hst hl
      have hN := hX2.1.1
      rw [nI_succ] at ih
      refine hP _ _ _ _ _ _ (And.intro (fun hc => absurd hc (nI_ge hk (by decide))) (fun _ => ?_))
      repeat (first | (refine hP _ _ _ _ _ _ ?_; show P _ _ _ _ _ _) | (refine hP _ _ _ _ _ _ (And.intro (hN _ _ _ rfl) ?_); show P _ _ (aR _ _ :: _) _ _ _))
      refine hP _ _ _ _ _ _ (Exists.intro (a) (And.intro (And.intro (rfl) (by show a < 5; omega)) ?_))
      show P _ _ _ (ivSet S2 13 2 a (nI k)) _ _
      have g3 : Ag wTH S2 (ivSet S2 13 2 a (nI k)) := Ag.iv (by simp only [wTH]; omega)
      have hX3 : FX tv nT (ivSet S2 13 2 a (nI k)) 2 (stF F1 3 a 0 k) := ⟨hX2.1.up g3 wTH_ok, hX2.2.1.sD a k, stF_WF hX2.2.2 (by omega)⟩
      rw [hst] at hX3
      generalize ivSet S2 13 2 a (nI k) = S3 at g3 hX3 ⊢
      have hN := hX3.1.1
      repeat (first | (refine hP _ _ _ _ _ _ ?_; show P _ _ _ _ _ _) | (refine hP _ _ _ _ _ _ (And.intro (hN _ _ _ rfl) ?_); show P _ _ (aR _ _ :: _) _ _ _))
      refine hP _ _ _ _ _ _ (q_paysAs (v := v) (by omega) hX3 (by rw [stF_n (by omega)]; exact ha) (by rw [(g2.tr g3).1 20 g 1 (by simp [wTH])]; exact hsz) hs40 (fun i hi => by rw [(g2.tr g3).1 21 g i (by simp [wTH])]; exact hv i hi) (fun S4 g4 => ?_))
      have g14 := (g2.tr g3).tr (g4.mono w0_th)
      have h := h S4 g14
      have ih := ih S4 (stF F 3 a 0 k) g14 (hX3.sc g4) (stF_n (by omega)) (fun u => stF_st (by omega))
      rw [show decide (foN tv (stF F 3 a 0 k) a sz v = -1) = tF tv F 3 a sz v k from rfl]
      have hN := hX3.1.1.up g4
      rw [show 100 - k = (100 - (k + 1)) + 1 by omega] at hl
      rw [show ff (tF tv F 3 a sz v) (100 - (k + 1) + 1) k = (if tF tv F 3 a sz v k = true then nI k else ff (tF tv F 3 a sz v) (100 - (k + 1)) (k + 1)) from rfl] at hl
      cases hf : tF tv F 3 a sz v k with
      | false =>
        rw [show cnT (tF tv F 3 a sz v) (k + 1) = cnT (tF tv F 3 a sz v) k from by show _ + _ = _; rw [hf]; rfl] at ih
        have ih := ih (fun z => by
          have hl := hl z
          rw [if_neg (by rw [hf]; decide)] at hl
          exact hl)
        repeat (first | (refine hP _ _ _ _ _ _ ?_; show P _ _ _ _ _ _) | (refine hP _ _ _ _ _ _ (And.intro (hN _ _ _ rfl) ?_); show P _ _ (aR _ _ :: _) _ _ _) | refine hP _ _ _ _ _ _ (And.intro (fun _ => ?_) (fun hc => absurd hc (by decide))) | refine hP _ _ _ _ _ _ (And.intro (fun hc => absurd hc (by decide)) (fun _ => ?_)))
        exact ih
      | true =>
        cases l with
        | true =>
          have hl := hl rfl
          rw [if_pos hf] at hl
          rw [if_pos rfl, ← hl] at h
          repeat (first | (refine hP _ _ _ _ _ _ ?_; show P _ _ _ _ _ _) | (refine hP _ _ _ _ _ _ (And.intro (hN _ _ _ rfl) ?_); show P _ _ (aR _ _ :: _) _ _ _) | refine hP _ _ _ _ _ _ (And.intro (fun _ => ?_) (fun hc => absurd hc (by decide))) | refine hP _ _ _ _ _ _ (And.intro (fun hc => absurd hc (by decide)) (fun _ => ?_)))
          exact hP _ _ _ _ _ _ (h)
        | false =>
          rw [show cnT (tF tv F 3 a sz v) (k + 1) = cnT (tF tv F 3 a sz v) k + 1 from by show _ + _ = _; rw [hf]; rfl, nI_succ (cnT (tF tv F 3 a sz v) k)] at ih
          have ih := ih (fun z => by cases z)
          repeat (first | (refine hP _ _ _ _ _ _ ?_; show P _ _ _ _ _ _) | (refine hP _ _ _ _ _ _ (And.intro (hN _ _ _ rfl) ?_); show P _ _ (aR _ _ :: _) _ _ _) | refine hP _ _ _ _ _ _ (And.intro (fun _ => ?_) (fun hc => absurd hc (by decide))) | refine hP _ _ _ _ _ _ (And.intro (fun hc => absurd hc (by decide)) (fun _ => ?_)))
          exact ih
  repeat (first | (refine hP _ _ _ _ _ _ ?_; show P _ _ _ _ _ _) | (refine hP _ _ _ _ _ _ (And.intro (hN _ _ _ rfl) ?_); show P _ _ (aR _ _ :: _) _ _ _))
  refine hP _ _ _ _ _ _ (q_think (by omega) hX (fun S1 g1 hX1 => ?_))
  have hN := hX1.1.1
  repeat (first | (refine hP _ _ _ _ _ _ ?_; show P _ _ _ _ _ _) | (refine hP _ _ _ _ _ _ (And.intro (hN _ _ _ rfl) ?_); show P _ _ (aR _ _ :: _) _ _ _))
  exact loop 0 (Nat.zero_le _) S1 F (g1.mono (wTk_th (by omega))) hX1 rfl (fun _ => rfl) (fun _ => hr)
theorem c_dancersTold {tv : TV} {nT d g o sz : Nat} {S : St} {K : KT} {F : Fl} {v : Nat → Int32} (hd : 100 ≤ d) (hX : FX tv nT S 0 F) (ho : o < F.n) (hsz : S.1 20 g 1 = nI sz) (hs40 : sz ≤ 40) (hv : ∀ k, k < sz → S.1 21 g k = v k) (h : ∀ S', Ag wTH S S' → K (some (aI (lkN (liF tv F o sz v) F.n))) S') : Call d m_X5_dancersTold [aR 0 0, aR 20 g, aI (nI o)] S K := by
  refine Call.of (k := 99) hd (fun e he P hP => ?_)
  have hn5 := hX.2.2.1
  have hN := hX.1.1
  have loop : ∀ k, k ≤ F.n → ∀ S2, Ag w0 S S2 → P 14 [some (aR 0 0), some (aR 20 g), some (aI (nI o)), some (aI (lkN (liF tv F o sz v) k)), some (aI (nI k))] [aI (S2.1 10 0 1), aI (nI k)] S2 0 0 := by
    refine dn ?_ ?_
    · intro S2 g2
      have hX2 := hX.sc g2
      rw [hX2.2.1.1]
      refine hP _ _ _ _ _ _ (And.intro (fun _ => ?_) (fun hc => absurd (nI_le (Nat.le_refl _) (by omega)) hc))
      repeat (first | (refine hP _ _ _ _ _ _ ?_; show P _ _ _ _ _ _) | (refine hP _ _ _ _ _ _ (And.intro (hN _ _ _ rfl) ?_); show P _ _ (aR _ _ :: _) _ _ _))
      exact hP _ _ _ _ _ _ (h S2 (g2.mono w0_th))
    · intro k hk ih S2 g2
      have hX2 := hX.sc g2
      have hN := hX2.1.1
      rw [nI_succ] at ih
      rw [hX2.2.1.1]
      refine hP _ _ _ _ _ _ (And.intro (fun hc => absurd hc (nI_ge hk (by omega))) (fun _ => ?_))
      repeat (first | (refine hP _ _ _ _ _ _ ?_; show P _ _ _ _ _ _) | (refine hP _ _ _ _ _ _ (And.intro (hN _ _ _ rfl) ?_); show P _ _ (aR _ _ :: _) _ _ _))
      refine hP _ _ _ _ _ _ (And.intro (fun hc => ?_) (fun hc => ?_))
      · have e : k = o := (nI_eq (by omega) (by omega)).mp hc
        have ih := ih S2 g2
        rw [show lkN (liF tv F o sz v) (k + 1) = lkN (liF tv F o sz v) k from if_neg (by simp [liF, e])] at ih
        repeat (first | (refine hP _ _ _ _ _ _ ?_; show P _ _ _ _ _ _) | (refine hP _ _ _ _ _ _ (And.intro (hN _ _ _ rfl) ?_); show P _ _ (aR _ _ :: _) _ _ _))
        exact ih
      · have e : ¬ k = o := fun z => hc (by rw [z])
        repeat (first | (refine hP _ _ _ _ _ _ ?_; show P _ _ _ _ _ _) | (refine hP _ _ _ _ _ _ (And.intro (hN _ _ _ rfl) ?_); show P _ _ (aR _ _ :: _) _ _ _))
        refine hP _ _ _ _ _ _ (q_paysAs (v := v) (by omega) hX2 hk (by rw [g2.1 20 g 1 (by simp [w0])]; exact hsz) hs40 (fun i hi => by rw [g2.1 21 g i (by simp [w0])]; exact hv i hi) (fun S3 g3 => ?_))
        have hN := hX2.1.1.up g3
        have ih := ih S3 (g2.tr g3)
        cases hf : decide (foN tv F k sz v = -1) with
        | false =>
          rw [show lkN (liF tv F o sz v) (k + 1) = lkN (liF tv F o sz v) k from if_neg (by unfold liF; rw [hf]; simp)] at ih
          repeat (first | (refine hP _ _ _ _ _ _ ?_; show P _ _ _ _ _ _) | (refine hP _ _ _ _ _ _ (And.intro (hN _ _ _ rfl) ?_); show P _ _ (aR _ _ :: _) _ _ _) | refine hP _ _ _ _ _ _ (And.intro (fun _ => ?_) (fun hc => absurd hc (by decide))) | refine hP _ _ _ _ _ _ (And.intro (fun hc => absurd hc (by decide)) (fun _ => ?_)))
          exact ih
        | true =>
          rw [show lkN (liF tv F o sz v) (k + 1) = lkN (liF tv F o sz v) k ||| ((1 : Int32) <<< (nI k &&& 31)) from if_pos (by unfold liF; rw [hf, decide_eq_true e]; rfl)] at ih
          repeat (first | (refine hP _ _ _ _ _ _ ?_; show P _ _ _ _ _ _) | (refine hP _ _ _ _ _ _ (And.intro (hN _ _ _ rfl) ?_); show P _ _ (aR _ _ :: _) _ _ _) | refine hP _ _ _ _ _ _ (And.intro (fun _ => ?_) (fun hc => absurd hc (by decide))) | refine hP _ _ _ _ _ _ (And.intro (fun hc => absurd hc (by decide)) (fun _ => ?_)))
          exact ih
  repeat (first | (refine hP _ _ _ _ _ _ ?_; show P _ _ _ _ _ _) | (refine hP _ _ _ _ _ _ (And.intro (hN _ _ _ rfl) ?_); show P _ _ (aR _ _ :: _) _ _ _))
  exact loop 0 (Nat.zero_le _) S (Ag.rf _ _)

