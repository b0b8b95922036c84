/-! dancer, image, back -/
theorem n_dancerx {tv : TV} {nT d k u : Nat} {S : St} {K : KT} {F : Fl} (hd : 2 ≤ d) (hX : MX tv nT S F) (hk : k ≤ 5) (hu : u ≤ 9) (hF : F.n = 5 → K (some (aI (-4))) S) (h : F.n < 5 → ∀ S', Ag mFl S S' → HM S' (jnF F k u) → K (some (aI (nI F.n))) S') : Call d m_X6_dancer [aR 40 0, aI (nI k), aI (nI u)] S K := by
  refine Call.of (k := 1) hd (fun e he P hP => ?_)
  have hN := hX.1.1
  have hN0 := hN
  have hn5 := hX.2.2.1
  have h12 := hX.2.1.1
  repeat (first | (refine hP _ _ _ _ _ _ ?_; show P _ _ _ _ _ _) | (refine hP _ _ _ _ _ _ (And.intro (hN _ _ _ rfl) ?_); show P _ _ (aR _ _ :: _) _ _ _))
  refine hP _ _ _ _ _ _ (n_in0 (m := 5) (by omega) (by omega) ?_)
  rw [isD_N (by omega) (by omega), decide_eq_true (by omega)]
  refine hP _ _ _ _ _ _ (And.intro (fun hc => absurd hc (by decide)) (fun _ => ?_))
  repeat (first | (refine hP _ _ _ _ _ _ ?_; show P _ _ _ _ _ _) | (refine hP _ _ _ _ _ _ (And.intro (hN _ _ _ rfl) ?_); show P _ _ (aR _ _ :: _) _ _ _))
  refine hP _ _ _ _ _ _ (n_in0 (m := 9) (by omega) (by omega) ?_)
  rw [isD_N (by omega) (by omega), decide_eq_true (by omega)]
  refine hP _ _ _ _ _ _ (And.intro (fun _ => ?_) (fun hc => absurd hc (by decide)))
  repeat (first | (refine hP _ _ _ _ _ _ ?_; show P _ _ _ _ _ _) | (refine hP _ _ _ _ _ _ (And.intro (hN _ _ _ rfl) ?_); show P _ _ (aR _ _ :: _) _ _ _))
  rw [h12]
  by_cases h5 : F.n = 5
  · refine hP _ _ _ _ _ _ (And.intro (fun hc => absurd (by rw [h5]; rfl) hc) (fun _ => ?_))
    repeat (first | (refine hP _ _ _ _ _ _ ?_; show P _ _ _ _ _ _) | (refine hP _ _ _ _ _ _ (And.intro (hN _ _ _ rfl) ?_); show P _ _ (aR _ _ :: _) _ _ _))
    exact hP _ _ _ _ _ _ (hF h5)
  · have hlt : F.n < 5 := by omega
    refine hP _ _ _ _ _ _ (And.intro (fun _ => ?_) (fun hc => absurd ((nI_eq (b := 5) (by omega) (by decide)).mp hc) h5))
    repeat (first | (refine hP _ _ _ _ _ _ ?_; show P _ _ _ _ _ _) | (refine hP _ _ _ _ _ _ (And.intro (hN _ _ _ rfl) ?_); show P _ _ (aR _ _ :: _) _ _ _))
    rw [h12]
    refine hP _ _ _ _ _ _ (Exists.intro (F.n) (And.intro (And.intro (rfl) (show F.n < 5 from hlt)) ?_))
    show P _ _ _ (ivSet S 44 0 F.n (nI k)) _ _
    repeat (first | (refine hP _ _ _ _ _ _ ?_; show P _ _ _ _ _ _) | (refine hP _ _ _ _ _ _ (And.intro (hN _ _ _ rfl) ?_); show P _ _ (aR _ _ :: _) _ _ _))
    rw [show (ivSet S 44 0 F.n (nI k)).1 40 0 12 = nI F.n by rw [iv_ne (by omega)]; exact h12]
    refine hP _ _ _ _ _ _ (Exists.intro (2 * F.n) (And.intro (And.intro (jx2 F.n) (by show 2 * F.n < 10; omega)) ?_))
    show P _ _ _ (ivSet (ivSet S 44 0 F.n (nI k)) 45 0 (2 * F.n) (nI u)) _ _
    repeat (first | (refine hP _ _ _ _ _ _ ?_; show P _ _ _ _ _ _) | (refine hP _ _ _ _ _ _ (And.intro (hN _ _ _ rfl) ?_); show P _ _ (aR _ _ :: _) _ _ _))
    rw [show (ivSet (ivSet S 44 0 F.n (nI k)) 45 0 (2 * F.n) (nI u)).1 40 0 12 = nI F.n by rw [iv_ne (by omega), iv_ne (by omega)]; exact h12]
    refine hP _ _ _ _ _ _ (Exists.intro (2 * F.n + 1) (And.intro (And.intro (jx3 F.n) (by show 2 * F.n + 1 < 10; omega)) ?_))
    show P _ _ _ (ivSet (ivSet (ivSet S 44 0 F.n (nI k)) 45 0 (2 * F.n) (nI u)) 45 0 (2 * F.n + 1) 0) _ _
    have g3 : Ag mFl S (ivSet (ivSet (ivSet S 44 0 F.n (nI k)) 45 0 (2 * F.n) (nI u)) 45 0 (2 * F.n + 1) 0) := ((Ag.iv (by simp [mFl])).tr (Ag.iv (by simp [mFl]))).tr (Ag.iv (by simp [mFl]))
    have k3 : ∀ j, (ivSet (ivSet (ivSet S 44 0 F.n (nI k)) 45 0 (2 * F.n) (nI u)) 45 0 (2 * F.n + 1) 0).1 44 0 j = if j = F.n then nI k else S.1 44 0 j := by
      intro j
      rw [iv_ne (by omega), iv_ne (by omega)]
      by_cases e : j = F.n
      · rw [e, iv_at, if_pos rfl]
      · rw [iv_ne (by omega), if_neg e]
    have r3 : ∀ j, (ivSet (ivSet (ivSet S 44 0 F.n (nI k)) 45 0 (2 * F.n) (nI u)) 45 0 (2 * F.n + 1) 0).1 45 0 j = if j = 2 * F.n + 1 then 0 else if j = 2 * F.n then nI u else S.1 45 0 j := by
      intro j
      by_cases e : j = 2 * F.n + 1
      · rw [e, iv_at, if_pos rfl]
      · rw [iv_ne (by omega), if_neg e]
        by_cases e2 : j = 2 * F.n
        · rw [e2, iv_at, if_pos rfl]
        · rw [iv_ne (by omega), iv_ne (by omega), if_neg e2]
    have d3 : ∀ j, (ivSet (ivSet (ivSet S 44 0 F.n (nI k)) 45 0 (2 * F.n) (nI u)) 45 0 (2 * F.n + 1) 0).1 46 0 j = S.1 46 0 j := fun j => by rw [iv_ne (by omega), iv_ne (by omega), iv_ne (by omega)]
    have f3 : ∀ j, (ivSet (ivSet (ivSet S 44 0 F.n (nI k)) 45 0 (2 * F.n) (nI u)) 45 0 (2 * F.n + 1) 0).1 40 0 j = S.1 40 0 j := fun j => by rw [iv_ne (by omega), iv_ne (by omega), iv_ne (by omega)]
    generalize ivSet (ivSet (ivSet S 44 0 F.n (nI k)) 45 0 (2 * F.n) (nI u)) 45 0 (2 * F.n + 1) 0 = S3 at g3 k3 r3 d3 f3 ⊢
    have loop : ∀ p, p ≤ 5 → ∀ S1, Ag (fun j g k => j = 46) S3 S1 → (∀ a b, a < 5 → b < 5 → ¬ (a = F.n ∨ b = F.n) → S1.1 46 0 (5 * a + b) = S.1 46 0 (5 * a + b)) → (∀ q, q < p → S1.1 46 0 (5 * q + F.n) = 0 ∧ S1.1 46 0 (5 * F.n + q) = 0) → P 78 [some (aR 40 0), some (aI (nI k)), some (aI (nI u)), some (aI (nI p))] [aI 5, aI (nI p)] S1 0 0 := by
      refine dn ?_ ?_
      · intro S1 g1 a1 a2
        have hN := (hN0.up g3).up g1
        refine hP _ _ _ _ _ _ (And.intro (fun _ => ?_) (fun hc => absurd (nI_le (Nat.le_refl 5) (by decide)) hc))
        repeat (first | (refine hP _ _ _ _ _ _ ?_; show P _ _ _ _ _ _) | (refine hP _ _ _ _ _ _ (And.intro (hN _ _ _ rfl) ?_); show P _ _ (aR _ _ :: _) _ _ _))
        have e12 : S1.1 40 0 12 + 1 = nI (F.n + 1) := by rw [g1.1 40 0 12 (by simp), f3, h12, nI_1]
        rw [e12]
        show P _ _ _ (ivSet S1 40 0 12 (nI (F.n + 1))) _ _
        repeat (first | (refine hP _ _ _ _ _ _ ?_; show P _ _ _ _ _ _) | (refine hP _ _ _ _ _ _ (And.intro (hN _ _ _ rfl) ?_); show P _ _ (aR _ _ :: _) _ _ _))
        show P _ _ [aI ((ivSet S1 40 0 12 (nI (F.n + 1))).1 40 0 12 - 1)] _ _ _
        rw [iv_at, nI_pred]
        obtain ⟨b1, b2', b3, b4, b5, b6⟩ := hX.2.1
        refine hP _ _ _ _ _ _ (h hlt _ ((g3.tr (g1.mono (fun j g k z => by simp only [mFl]; omega))).tr (Ag.iv (by simp [mFl]))) ⟨iv_at, ?_, ?_, ?_, fun a ha => ⟨?_, ?_, ?_⟩, fun a b ha hb => ?_⟩)
        · rw [iv_ne (by omega), g1.1 40 0 7 (by simp), f3]; exact b2'
        · rw [iv_ne (by omega), g1.1 40 0 8 (by simp), f3]; exact b3
        · rw [iv_ne (by omega), g1.1 40 0 4 (by simp), f3]; exact b4
        · have ha : a < F.n + 1 := ha
          rw [iv_ne (by omega), g1.1 44 0 a (by simp), k3]
          show _ = nI (if a = F.n then k else F.ki a)
          by_cases e : a = F.n
          · rw [if_pos e, if_pos e]
          · rw [if_neg e, if_neg e]
            exact (b5 a (by omega)).1
        · have ha : a < F.n + 1 := ha
          rw [iv_ne (by omega), g1.1 45 0 _ (by simp), r3, if_neg (by omega)]
          show _ = nI (if a = F.n then u else F.nu a)
          by_cases e : a = F.n
          · rw [if_pos (by omega), if_pos e]
          · rw [if_neg (by omega), if_neg e]
            exact (b5 a (by omega)).2.1
        · have ha : a < F.n + 1 := ha
          rw [iv_ne (by omega), g1.1 45 0 _ (by simp), r3]
          show _ = nI (if a = F.n then 0 else F.dn a)
          by_cases e : a = F.n
          · rw [if_pos (by omega), if_pos e]
            rfl
          · rw [if_neg (by omega), if_neg (by omega), if_neg e]
            exact (b5 a (by omega)).2.2
        · have ha : a < F.n + 1 := ha
          have hb : b < F.n + 1 := hb
          rw [iv_ne (by omega)]
          show _ = nI (if a = F.n ∨ b = F.n then 0 else F.ow a b)
          by_cases e : a = F.n ∨ b = F.n
          · rw [if_pos e]
            rcases e with e | e
            · rw [e]
              exact (a2 b (by omega)).2
            · rw [e]
              exact (a2 a (by omega)).1
          · rw [if_neg e, a1 a b (by omega) (by omega) e]
            exact b6 a b (by omega) (by omega)
      · intro p hp ih S1 g1 a1 a2
        have hN := (hN0.up g3).up g1
        rw [nI_succ] at ih
        refine hP _ _ _ _ _ _ (And.intro (fun hc => absurd hc (nI_ge (b := 5) hp (by decide))) (fun _ => ?_))
        repeat (first | (refine hP _ _ _ _ _ _ ?_; show P _ _ _ _ _ _) | (refine hP _ _ _ _ _ _ (And.intro (hN _ _ _ rfl) ?_); show P _ _ (aR _ _ :: _) _ _ _))
        rw [show S1.1 40 0 12 = nI F.n by rw [g1.1 40 0 12 (by simp), f3]; exact h12]
        refine hP _ _ _ _ _ _ (Exists.intro (5 * p + F.n) (And.intro (And.intro (jx5 p F.n) (by show 5 * p + F.n < 25; omega)) ?_))
        show P _ _ _ (ivSet S1 46 0 (5 * p + F.n) 0) _ _
        repeat (first | (refine hP _ _ _ _ _ _ ?_; show P _ _ _ _ _ _) | (refine hP _ _ _ _ _ _ (And.intro (hN _ _ _ rfl) ?_); show P _ _ (aR _ _ :: _) _ _ _))
        rw [show (ivSet S1 46 0 (5 * p + F.n) 0).1 40 0 12 = nI F.n by rw [iv_ne (by omega), g1.1 40 0 12 (by simp), f3]; exact h12]
        refine hP _ _ _ _ _ _ (Exists.intro (5 * F.n + p) (And.intro (And.intro (jx5 F.n p) (by show 5 * F.n + p < 25; omega)) ?_))
        show P _ _ _ (ivSet (ivSet S1 46 0 (5 * p + F.n) 0) 46 0 (5 * F.n + p) 0) _ _
        have := ih (ivSet (ivSet S1 46 0 (5 * p + F.n) 0) 46 0 (5 * F.n + p) 0) (g1.tr ((Ag.iv rfl).tr (Ag.iv rfl))) (fun a b ha hb hn => by rw [iv_ne (by omega), iv_ne (by omega)]; exact a1 a b ha hb hn) (fun q hq => by
          constructor
          · by_cases e1 : 5 * q + F.n = 5 * F.n + p
            · rw [e1, iv_at]
            · rw [iv_ne (by omega)]
              by_cases e2 : q = p
              · rw [e2, iv_at]
              · rw [iv_ne (by omega)]
                exact (a2 q (by omega)).1
          · by_cases e2 : q = p
            · rw [e2, iv_at]
            · rw [iv_ne (by omega)]
              by_cases e1 : 5 * F.n + q = 5 * p + F.n
              · rw [e1, iv_at]
              · rw [iv_ne (by omega)]
                exact (a2 q (by omega)).2)
        repeat (first | (refine hP _ _ _ _ _ _ ?_; show P _ _ _ _ _ _) | (refine hP _ _ _ _ _ _ (And.intro (hN _ _ _ rfl) ?_); show P _ _ (aR _ _ :: _) _ _ _))
        exact this
    repeat (first | (refine hP _ _ _ _ _ _ ?_; show P _ _ _ _ _ _) | (refine hP _ _ _ _ _ _ (And.intro (hN _ _ _ rfl) ?_); show P _ _ (aR _ _ :: _) _ _ _))
    exact loop 0 (by omega) S3 (Ag.rf _ _) (fun a b _ _ _ => d3 _) (fun q hq => by omega)
theorem n_dancer_bad {d : Nat} {S : St} {K : KT} {x y : Int32} (hd : 2 ≤ d) (hxy : isD 6 x = false ∨ (isD 6 x = true ∧ isD 10 y = false)) (h : K (some (aI (-2))) S) : Call d m_X6_dancer [aR 40 0, aI x, aI y] S K := by
  refine Call.of (k := 1) hd (fun e he P hP => ?_)
  have hN : True := trivial
  repeat (first | (refine hP _ _ _ _ _ _ ?_; show P _ _ _ _ _ _) | refine hP _ _ _ _ _ _ (And.intro (hN _ _ _ rfl) ?_))
  refine hP _ _ _ _ _ _ (n_in0 (m := 5) (by omega) (by omega) ?_)
  rcases hxy with e | ⟨e, e2⟩
  · rw [e]
    refine hP _ _ _ _ _ _ (And.intro (fun _ => ?_) (fun hc => absurd rfl hc))
    repeat (first | (refine hP _ _ _ _ _ _ ?_; show P _ _ _ _ _ _) | refine hP _ _ _ _ _ _ (And.intro (hN _ _ _ rfl) ?_))
    exact hP _ _ _ _ _ _ (h)
  · rw [e]
    refine hP _ _ _ _ _ _ (And.intro (fun hc => absurd hc (by decide)) (fun _ => ?_))
    repeat (first | (refine hP _ _ _ _ _ _ ?_; show P _ _ _ _ _ _) | refine hP _ _ _ _ _ _ (And.intro (hN _ _ _ rfl) ?_))
    refine hP _ _ _ _ _ _ (n_in0 (m := 9) (by omega) (by omega) ?_)
    rw [e2]
    refine hP _ _ _ _ _ _ (And.intro (fun hc => absurd rfl hc) (fun _ => ?_))
    repeat (first | (refine hP _ _ _ _ _ _ ?_; show P _ _ _ _ _ _) | refine hP _ _ _ _ _ _ (And.intro (hN _ _ _ rfl) ?_))
    exact hP _ _ _ _ _ _ (h)
/-- the class's dancer() -/
theorem c_dancer {tv : TV} {nT d : Nat} {S : St} {K : KT} {F : Fl} {x y : Int32} (hd : 2 ≤ d) (hX : FX tv nT S 0 F) (hz : zB S 0 F.n)
    (hB : (isD 6 x = false ∨ (isD 6 x = true ∧ isD 10 y = false)) → K (some (aI (-2))) S)
    (hF : ∀ k u, k ≤ 5 → u ≤ 9 → x = nI k → y = nI u → F.n = 5 → K (some (aI (-4))) S)
    (h1 : ∀ k u, k ≤ 5 → u ≤ 9 → x = nI k → y = nI u → F.n < 5 → ∀ S', Ag wFl S S' → FX tv nT S' 0 (jnF F k u) → zB S' 0 (F.n + 1) → K (some (aI (nI F.n))) S') : Call d m_X5_dancer [aR 0 0, aI x, aI y] S K := by
  refine Call.of (k := 1) hd (fun e he P hP => ?_)
  have hN := hX.1.1
  have hn5 := hX.2.2.1
  rcases rng (x := x) (n := 6) (by omega) with ⟨hf, hx⟩ | ⟨k, hk, hf, rfl⟩
  · have fin := hB (Or.inl hf)
    repeat (first | (refine hP _ _ _ _ _ _ ?_; show P _ _ _ _ _ _) | (refine hP _ _ _ _ _ _ (And.intro (hN _ _ _ rfl) ?_); show P _ _ (aR _ _ :: _) _ _ _))
    rcases hx with h0 | ⟨h0, h1'⟩
    · refine hP _ _ _ _ _ _ (And.intro (fun _ => ?_) (fun hc => absurd h0 hc))
      repeat (first | (refine hP _ _ _ _ _ _ ?_; show P _ _ _ _ _ _) | (refine hP _ _ _ _ _ _ (And.intro (hN _ _ _ rfl) ?_); show P _ _ (aR _ _ :: _) _ _ _))
      exact hP _ _ _ _ _ _ (fin)
    · refine hP _ _ _ _ _ _ (And.intro (fun hc => absurd hc h0) (fun _ => ?_))
      repeat (first | (refine hP _ _ _ _ _ _ ?_; show P _ _ _ _ _ _) | (refine hP _ _ _ _ _ _ (And.intro (hN _ _ _ rfl) ?_); show P _ _ (aR _ _ :: _) _ _ _))
      refine hP _ _ _ _ _ _ (And.intro (fun _ => ?_) (fun hc => absurd h1' hc))
      repeat (first | (refine hP _ _ _ _ _ _ ?_; show P _ _ _ _ _ _) | (refine hP _ _ _ _ _ _ (And.intro (hN _ _ _ rfl) ?_); show P _ _ (aR _ _ :: _) _ _ _))
      exact hP _ _ _ _ _ _ (fin)
  · repeat (first | (refine hP _ _ _ _ _ _ ?_; show P _ _ _ _ _ _) | (refine hP _ _ _ _ _ _ (And.intro (hN _ _ _ rfl) ?_); show P _ _ (aR _ _ :: _) _ _ _))
    refine hP _ _ _ _ _ _ (And.intro (fun hc => absurd hc (nI_pos (by omega))) (fun _ => ?_))
    repeat (first | (refine hP _ _ _ _ _ _ ?_; show P _ _ _ _ _ _) | (refine hP _ _ _ _ _ _ (And.intro (hN _ _ _ rfl) ?_); show P _ _ (aR _ _ :: _) _ _ _))
    refine hP _ _ _ _ _ _ (And.intro (fun hc => absurd hc (nI_ge (b := 6) hk (by decide))) (fun _ => ?_))
    repeat (first | (refine hP _ _ _ _ _ _ ?_; show P _ _ _ _ _ _) | (refine hP _ _ _ _ _ _ (And.intro (hN _ _ _ rfl) ?_); show P _ _ (aR _ _ :: _) _ _ _))
    rcases rng (x := y) (n := 10) (by omega) with ⟨hf2, hy⟩ | ⟨u, hu, hf2, rfl⟩
    · have fin := hB (Or.inr ⟨hf, hf2⟩)
      rcases hy with h0 | ⟨h0, h1'⟩
      · refine hP _ _ _ _ _ _ (And.intro (fun _ => ?_) (fun hc => absurd h0 hc))
        repeat (first | (refine hP _ _ _ _ _ _ ?_; show P _ _ _ _ _ _) | (refine hP _ _ _ _ _ _ (And.intro (hN _ _ _ rfl) ?_); show P _ _ (aR _ _ :: _) _ _ _))
        exact hP _ _ _ _ _ _ (fin)
      · refine hP _ _ _ _ _ _ (And.intro (fun hc => absurd hc h0) (fun _ => ?_))
        repeat (first | (refine hP _ _ _ _ _ _ ?_; show P _ _ _ _ _ _) | (refine hP _ _ _ _ _ _ (And.intro (hN _ _ _ rfl) ?_); show P _ _ (aR _ _ :: _) _ _ _))
        refine hP _ _ _ _ _ _ (And.intro (fun hc => absurd (Int32.le_trans h1' hc) (nI_ge (a := 9) (b := 10) (by decide) (by decide))) (fun _ => ?_))
        repeat (first | (refine hP _ _ _ _ _ _ ?_; show P _ _ _ _ _ _) | (refine hP _ _ _ _ _ _ (And.intro (hN _ _ _ rfl) ?_); show P _ _ (aR _ _ :: _) _ _ _))
        exact hP _ _ _ _ _ _ (fin)
    · refine hP _ _ _ _ _ _ (And.intro (fun hc => absurd hc (nI_pos (by omega))) (fun _ => ?_))
      repeat (first | (refine hP _ _ _ _ _ _ ?_; show P _ _ _ _ _ _) | (refine hP _ _ _ _ _ _ (And.intro (hN _ _ _ rfl) ?_); show P _ _ (aR _ _ :: _) _ _ _))
      refine hP _ _ _ _ _ _ (And.intro (fun _ => ?_) (fun hc => absurd (nI_le (a := u) (b := 9) (by omega) (by decide)) hc))
      repeat (first | (refine hP _ _ _ _ _ _ ?_; show P _ _ _ _ _ _) | (refine hP _ _ _ _ _ _ (And.intro (hN _ _ _ rfl) ?_); show P _ _ (aR _ _ :: _) _ _ _))
      rw [hX.2.1.1]
      by_cases h5 : F.n = 5
      · rw [h5]
        refine hP _ _ _ _ _ _ (And.intro (fun hc => absurd hc (nI_nlt (a := 5) (b := 5) (by decide) (by decide))) (fun _ => ?_))
        repeat (first | (refine hP _ _ _ _ _ _ ?_; show P _ _ _ _ _ _) | (refine hP _ _ _ _ _ _ (And.intro (hN _ _ _ rfl) ?_); show P _ _ (aR _ _ :: _) _ _ _))
        exact hP _ _ _ _ _ _ (hF k u (by omega) (by omega) rfl rfl h5)
      · refine hP _ _ _ _ _ _ (And.intro (fun _ => ?_) (fun hc => absurd (nI_lt (a := F.n) (b := 5) (by omega) (by decide)) hc))
        repeat (first | (refine hP _ _ _ _ _ _ ?_; show P _ _ _ _ _ _) | (refine hP _ _ _ _ _ _ (And.intro (hN _ _ _ rfl) ?_); show P _ _ (aR _ _ :: _) _ _ _))
        refine hP _ _ _ _ _ _ (q_join (by omega) hX hz (by omega) (show k ≤ 5 by omega) (show u ≤ 9 by omega) (fun S' g hX' hz' => ?_))
        repeat (first | (refine hP _ _ _ _ _ _ ?_; show P _ _ _ _ _ _) | (refine hP _ _ _ _ _ _ (And.intro (hN _ _ _ rfl) ?_); show P _ _ (aR _ _ :: _) _ _ _))
        exact hP _ _ _ _ _ _ (h1 k u (by omega) (by omega) rfl rfl (by omega) S' (g.mono (fun j g k z => by simp only [wJ] at z; simp only [wFl]; omega)) hX' hz')
theorem PV.jn {F : Fl} {I : Option Fl} {nT k u : Nat} (h : PV F I nT) (hW : WF nT (jnF F k u)) : PV (jnF F k u) I nT :=
  h.ch hW h.2.1 h.2.2.1 (by show F.n ≤ F.n + 1; omega) (fun a ha => by show uN F.ki F.n k a = _; unfold uN; rw [if_neg (by omega)])
theorem op_dancer (x y : Int32) : OpA m_X5_dancer m_X6_dancer [aI x, aI y] isI := by
  intro d S K hd hT hK
  obtain ⟨F, I, sh, T, nT, tb, hT⟩ := hT
  have hX := hT.fx
  have hM0 := hT.m1 (Ag.rf wTH S)
  refine c_dancer (by omega) hX hT.2.2.2.1.2.2.2.1 (fun hb => ?_) (fun k u hk hu ex ey h5 => ?_) (fun k u hk hu ex ey h5 S1 g1 hX1 hz1 => ?_)
  · exact hK S _ ⟨_, rfl⟩ (by omega) (fun d' K' hd' hK' => n_dancer_bad (by omega) hb (hK' S ⟨F, I, sh, T, nT, tb, hT⟩))
  · subst ex
    subst ey
    exact hK S _ ⟨_, rfl⟩ (by omega) (fun d' K' hd' hK' => n_dancerx (by omega) hM0 hk hu (fun _ => hK' S ⟨F, I, sh, T, nT, tb, hT⟩) (fun z => by omega))
  · subst ex
    subst ey
    refine hK S1 _ ⟨_, rfl⟩ (by rw [g1.2]; omega) (fun d' K' hd' hK' => n_dancerx (by omega) (hT.m2 g1) hk hu (fun z => by omega) (fun _ S2 g2 hM2 => hK' S2 ⟨jnF F k u, I, sh, T, nT, tb, ?_⟩))
    exact hT.fl2 g1 hX1.2.1 hz1 g2 hM2 (hT.2.1.jn hX1.2.2)
