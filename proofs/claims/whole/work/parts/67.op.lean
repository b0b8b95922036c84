/-! feed, dancer, image, back -/
def fdT (T : Tx) (c : Nat) : Tx := (T.1 + 1, fun k => if k = T.1 then c else T.2 k)
theorem op_feed (x : Int32) : OpA m_X5_feed m_X6_feed [aI x] isI := by
  intro d S K hd hT hK
  obtain ⟨F, I, sh, T, nT, tb, hT⟩ := hT
  have hX := hT.fx
  obtain ⟨htc, h160, htv⟩ := hT.2.2.2.1.2.2.2.2.2.2
  obtain ⟨htm, htw⟩ := hT.2.2.2.2.2.2.2.2.2
  refine Call.of (k := 199) hd (fun e he P hP => ?_)
  have hN := hX.1.1
  rcases rng (x := x) (n := 256) (by omega) with ⟨hf, hx⟩ | ⟨c, hc, hf, rfl⟩
  · have fin := hK S (aI (-2)) ⟨_, rfl⟩ (by omega) (fun d' K' hd' hK' => by
      have hK' := hK' S ⟨F, I, sh, T, nT, tb, hT⟩
      refine Call.of (k := 199) hd' (fun e he P hP => ?_)
      repeat (first | (refine hP _ _ _ _ _ _ ?_; show P _ _ _ _ _ _) | (refine hP _ _ _ _ _ _ (And.intro (hN _ _ _ rfl) ?_); show P _ _ (aR _ _ :: _) _ _ _))
      refine hP _ _ _ _ _ _ (n_in0 (m := 255) (by omega) (by omega) ?_)
      rw [hf]
      refine hP _ _ _ _ _ _ (And.intro (fun hc => absurd rfl hc) (fun _ => ?_))
      repeat (first | (refine hP _ _ _ _ _ _ ?_; show P _ _ _ _ _ _) | (refine hP _ _ _ _ _ _ (And.intro (hN _ _ _ rfl) ?_); show P _ _ (aR _ _ :: _) _ _ _))
      exact hP _ _ _ _ _ _ (hK'))
    repeat (first | (refine hP _ _ _ _ _ _ ?_; show P _ _ _ _ _ _) | (refine hP _ _ _ _ _ _ (And.intro (hN _ _ _ rfl) ?_); show P _ _ (aR _ _ :: _) _ _ _))
    rcases hx with h0 | ⟨h0, h1⟩
    · refine hP _ _ _ _ _ _ (And.intro (fun _ => ?_) (fun hc => absurd h0 hc))
      repeat (first | (refine hP _ _ _ _ _ _ ?_; show P _ _ _ _ _ _) | (refine hP _ _ _ _ _ _ (And.intro (hN _ _ _ rfl) ?_); show P _ _ (aR _ _ :: _) _ _ _))
      exact hP _ _ _ _ _ _ (fin)
    · refine hP _ _ _ _ _ _ (And.intro (fun hc => absurd hc h0) (fun _ => ?_))
      repeat (first | (refine hP _ _ _ _ _ _ ?_; show P _ _ _ _ _ _) | (refine hP _ _ _ _ _ _ (And.intro (hN _ _ _ rfl) ?_); show P _ _ (aR _ _ :: _) _ _ _))
      refine hP _ _ _ _ _ _ (And.intro (fun hc => absurd (Int32.le_trans h1 hc) (nI_ge (a := 255) (b := 256) (by decide) (by decide))) (fun _ => ?_))
      repeat (first | (refine hP _ _ _ _ _ _ ?_; show P _ _ _ _ _ _) | (refine hP _ _ _ _ _ _ (And.intro (hN _ _ _ rfl) ?_); show P _ _ (aR _ _ :: _) _ _ _))
      exact hP _ _ _ _ _ _ (fin)
  · repeat (first | (refine hP _ _ _ _ _ _ ?_; show P _ _ _ _ _ _) | (refine hP _ _ _ _ _ _ (And.intro (hN _ _ _ rfl) ?_); show P _ _ (aR _ _ :: _) _ _ _))
    refine hP _ _ _ _ _ _ (And.intro (fun hc => absurd hc (nI_pos (by omega))) (fun _ => ?_))
    repeat (first | (refine hP _ _ _ _ _ _ ?_; show P _ _ _ _ _ _) | (refine hP _ _ _ _ _ _ (And.intro (hN _ _ _ rfl) ?_); show P _ _ (aR _ _ :: _) _ _ _))
    refine hP _ _ _ _ _ _ (And.intro (fun _ => ?_) (fun hc => absurd (nI_le (a := c) (b := 255) (by omega) (by decide)) hc))
    repeat (first | (refine hP _ _ _ _ _ _ ?_; show P _ _ _ _ _ _) | (refine hP _ _ _ _ _ _ (And.intro (hN _ _ _ rfl) ?_); show P _ _ (aR _ _ :: _) _ _ _))
    by_cases hfull : T.1 = 160
    · have hold : ∀ {d : Nat} {K : KT}, 1 ≤ d → K (some (aI 0)) S → Call d m_X1_hold [aR 7 0, aI (nI c)] S K := by
        intro d K hd h
        refine Call.of (k := 0) hd (fun e he P hP => ?_)
        repeat (first | (refine hP _ _ _ _ _ _ ?_; show P _ _ _ _ _ _) | (refine hP _ _ _ _ _ _ (And.intro (hN _ _ _ rfl) ?_); show P _ _ (aR _ _ :: _) _ _ _))
        rw [htc, hfull]
        refine hP _ _ _ _ _ _ (And.intro (fun hc => absurd hc (nI_nlt (a := 160) (b := 160) (Nat.le_refl _) (by decide))) (fun _ => ?_))
        repeat (first | (refine hP _ _ _ _ _ _ ?_; show P _ _ _ _ _ _) | (refine hP _ _ _ _ _ _ (And.intro (hN _ _ _ rfl) ?_); show P _ _ (aR _ _ :: _) _ _ _))
        refine hP _ _ _ _ _ _ (And.intro (Or.inl rfl) h)
      refine hP _ _ _ _ _ _ (hold (by omega) ?_)
      repeat (first | (refine hP _ _ _ _ _ _ ?_; show P _ _ _ _ _ _) | (refine hP _ _ _ _ _ _ (And.intro (hN _ _ _ rfl) ?_); show P _ _ (aR _ _ :: _) _ _ _) | refine hP _ _ _ _ _ _ (And.intro (fun _ => ?_) (fun hc => absurd hc (by decide))) | refine hP _ _ _ _ _ _ (And.intro (fun hc => absurd hc (by decide)) (fun _ => ?_)))
      refine hP _ _ _ _ _ _ (hK S (aI (-4)) ⟨_, rfl⟩ (by omega) (fun d' K' hd' hK' => ?_))
      have hK' := hK' S ⟨F, I, sh, T, nT, tb, hT⟩
      refine Call.of (k := 199) hd' (fun e he P hP => ?_)
      repeat (first | (refine hP _ _ _ _ _ _ ?_; show P _ _ _ _ _ _) | (refine hP _ _ _ _ _ _ (And.intro (hN _ _ _ rfl) ?_); show P _ _ (aR _ _ :: _) _ _ _))
      refine hP _ _ _ _ _ _ (n_in0 (m := 255) (by omega) (by omega) ?_)
      rw [hf]
      refine hP _ _ _ _ _ _ (And.intro (fun _ => ?_) (fun hc => absurd hc (by decide)))
      repeat (first | (refine hP _ _ _ _ _ _ ?_; show P _ _ _ _ _ _) | (refine hP _ _ _ _ _ _ (And.intro (hN _ _ _ rfl) ?_); show P _ _ (aR _ _ :: _) _ _ _))
      rw [htm, hfull]
      refine hP _ _ _ _ _ _ (And.intro (fun hc => absurd rfl hc) (fun _ => ?_))
      repeat (first | (refine hP _ _ _ _ _ _ ?_; show P _ _ _ _ _ _) | (refine hP _ _ _ _ _ _ (And.intro (hN _ _ _ rfl) ?_); show P _ _ (aR _ _ :: _) _ _ _))
      exact hP _ _ _ _ _ _ (hK')
    · have hold : ∀ {d : Nat} {K : KT}, 1 ≤ d → K (some (aI 1)) (ivSet (ivSet S 8 0 T.1 (nI c)) 7 0 1 (nI (T.1 + 1))) → Call d m_X1_hold [aR 7 0, aI (nI c)] S K := by
        intro d K hd h
        refine Call.of (k := 0) hd (fun e he P hP => ?_)
        repeat (first | (refine hP _ _ _ _ _ _ ?_; show P _ _ _ _ _ _) | (refine hP _ _ _ _ _ _ (And.intro (hN _ _ _ rfl) ?_); show P _ _ (aR _ _ :: _) _ _ _))
        rw [htc]
        refine hP _ _ _ _ _ _ (And.intro (fun _ => ?_) (fun hc => absurd (nI_lt (b := 160) (a := T.1) (by omega) (by decide)) hc))
        repeat (first | (refine hP _ _ _ _ _ _ ?_; show P _ _ _ _ _ _) | (refine hP _ _ _ _ _ _ (And.intro (hN _ _ _ rfl) ?_); show P _ _ (aR _ _ :: _) _ _ _))
        rw [htc]
        refine hP _ _ _ _ _ _ (Exists.intro (T.1) (And.intro (And.intro (rfl) (by show _ < 160; omega)) ?_))
        have e : (ivSet S 8 0 T.1 (nI c)).1 7 0 1 + 1 = nI (T.1 + 1) := by rw [iv_ne (by omega), htc, nI_1]
        repeat (first | (refine hP _ _ _ _ _ _ ?_; show P _ _ _ _ _ _) | (refine hP _ _ _ _ _ _ (And.intro (hN _ _ _ rfl) ?_); show P _ _ (aR _ _ :: _) _ _ _))
        rw [e]
        refine hP _ _ _ _ _ _ (And.intro (Or.inr rfl) h)
      have g1 : Ag (fun j g k => (j = 7 ∧ k = 1) ∨ j = 8) S (ivSet (ivSet S 8 0 T.1 (nI c)) 7 0 1 (nI (T.1 + 1))) := (Ag.iv (by simp)).tr (Ag.iv (by simp))
      have tp1 : TP (ivSet (ivSet S 8 0 T.1 (nI c)) 7 0 1 (nI (T.1 + 1))) (fdT T c) := by
        refine ⟨iv_at, by show T.1 + 1 ≤ 160; omega, fun k hk => ?_⟩
        have hk : k < T.1 + 1 := hk
        rw [iv_ne (by omega)]
        by_cases ek : k = T.1
        · rw [ek, iv_at]
          show _ = nI (if T.1 = T.1 then c else T.2 T.1) ∧ (if T.1 = T.1 then c else T.2 T.1) ≤ 255
          rw [if_pos rfl]
          exact ⟨rfl, by omega⟩
        · rw [iv_ne (by omega)]
          show _ = nI (if k = T.1 then c else T.2 k) ∧ (if k = T.1 then c else T.2 k) ≤ 255
          rw [if_neg ek]
          exact htv k (by omega)
      have sz1 : (ivSet (ivSet S 8 0 T.1 (nI c)) 7 0 1 (nI (T.1 + 1))).1 7 0 1 = nI (T.1 + 1) := iv_at
      refine hP _ _ _ _ _ _ (hold (by omega) ?_)
      generalize ivSet (ivSet S 8 0 T.1 (nI c)) 7 0 1 (nI (T.1 + 1)) = S1 at g1 tp1 sz1 ⊢
      have hN := hT.1.up g1
      repeat (first | (refine hP _ _ _ _ _ _ ?_; show P _ _ _ _ _ _) | (refine hP _ _ _ _ _ _ (And.intro (hN _ _ _ rfl) ?_); show P _ _ (aR _ _ :: _) _ _ _) | refine hP _ _ _ _ _ _ (And.intro (fun _ => ?_) (fun hc => absurd hc (by decide))) | refine hP _ _ _ _ _ _ (And.intro (fun hc => absurd hc (by decide)) (fun _ => ?_)))
      rw [sz1]
      refine hP _ _ _ _ _ _ (hK S1 _ ⟨_, rfl⟩ (by rw [g1.2]; omega) (fun d' K' hd' hK' => ?_))
      have hmr := hT.2.2.2.2.ac g1 (fun j g k z => by omega)
      refine Call.of (k := 199) hd' (fun e he P hP => ?_)
      repeat (first | (refine hP _ _ _ _ _ _ ?_; show P _ _ _ _ _ _) | (refine hP _ _ _ _ _ _ (And.intro (hN _ _ _ rfl) ?_); show P _ _ (aR _ _ :: _) _ _ _))
      refine hP _ _ _ _ _ _ (n_in0 (m := 255) (by omega) (by omega) ?_)
      rw [hf]
      refine hP _ _ _ _ _ _ (And.intro (fun _ => ?_) (fun hc => absurd hc (by decide)))
      repeat (first | (refine hP _ _ _ _ _ _ ?_; show P _ _ _ _ _ _) | (refine hP _ _ _ _ _ _ (And.intro (hN _ _ _ rfl) ?_); show P _ _ (aR _ _ :: _) _ _ _))
      rw [show S1.1 40 0 6 = nI T.1 by rw [g1.1 40 0 6 (by simp)]; exact htm]
      refine hP _ _ _ _ _ _ (And.intro (fun _ => ?_) (fun hc2 => absurd ((nI_eq (b := 160) (by omega) (by decide)).mp hc2) hfull))
      repeat (first | (refine hP _ _ _ _ _ _ ?_; show P _ _ _ _ _ _) | (refine hP _ _ _ _ _ _ (And.intro (hN _ _ _ rfl) ?_); show P _ _ (aR _ _ :: _) _ _ _))
      rw [show S1.1 40 0 6 = nI T.1 by rw [g1.1 40 0 6 (by simp)]; exact htm]
      refine hP _ _ _ _ _ _ (Exists.intro (T.1) (And.intro (And.intro (rfl) (by show _ < 160; omega)) ?_))
      repeat (first | (refine hP _ _ _ _ _ _ ?_; show P _ _ _ _ _ _) | (refine hP _ _ _ _ _ _ (And.intro (hN _ _ _ rfl) ?_); show P _ _ (aR _ _ :: _) _ _ _))
      have e6 : (ivSet S1 43 0 T.1 (nI c)).1 40 0 6 + 1 = nI (T.1 + 1) := by rw [iv_ne (by omega), g1.1 40 0 6 (by simp), htm, nI_1]
      rw [e6]
      show P _ _ _ (ivSet (ivSet S1 43 0 T.1 (nI c)) 40 0 6 (nI (T.1 + 1))) _ _
      repeat (first | (refine hP _ _ _ _ _ _ ?_; show P _ _ _ _ _ _) | (refine hP _ _ _ _ _ _ (And.intro (hN _ _ _ rfl) ?_); show P _ _ (aR _ _ :: _) _ _ _))
      show P _ _ [aI ((ivSet (ivSet S1 43 0 T.1 (nI c)) 40 0 6 (nI (T.1 + 1))).1 40 0 6)] _ _ _
      rw [iv_at]
      have g2 : Ag (fun j g k => (j = 40 ∧ k = 6) ∨ j = 43) S1 (ivSet (ivSet S1 43 0 T.1 (nI c)) 40 0 6 (nI (T.1 + 1))) := (Ag.iv (by simp)).tr (Ag.iv (by simp))
      refine hP _ _ _ _ _ _ (hK' _ ⟨F, I, sh, fdT T c, nT, tb, (hT.1.up g1).up g2, hT.2.1, by rw [g2.2, g1.2]; exact hT.2.2.1, ?_, ?_⟩)
      · obtain ⟨c1, c2, c3, c4, c5, c6, c7⟩ := hT.2.2.2.1
        have h1 : CR S1 F I sh (fdT T c) nT tb := ⟨c1.ag g1 (fun j g k z => by omega), c2.up g1 (fun j g k z => by omega), c3.up g1 (fun j k z => by omega), c4.up g1 (fun j k z => by omega), c5.up g1 (fun j g k z => by omega), c6.up g1 (fun j g k z => by omega), tp1⟩
        exact h1.mo (g2.mono (fun j g k z => by simp only [wMo]; omega))
      · obtain ⟨m1, m2, m3, m4, m5, m6⟩ := hmr
        refine ⟨m1.up (fun j g k a b c => g2.1 j g k (by omega)), fun k hk => by rw [g2.1 47 0 k (by simp)]; exact m2 k hk, m3.up g2 (fun j g k z => by omega), m4.up (fun j g k a => g2.1 j g k (by omega)), m5.up (fun j g k a b => g2.1 j g k (by omega)), iv_at, fun k hk => ?_⟩
        have hk : k < T.1 + 1 := hk
        rw [iv_ne (by omega)]
        show _ = nI (if k = T.1 then c else T.2 k)
        by_cases ek : k = T.1
        · rw [ek, iv_at, if_pos rfl]
        · rw [iv_ne (by omega), if_neg ek, g1.1 43 0 k (by simp)]
          exact htw k (by omega)
