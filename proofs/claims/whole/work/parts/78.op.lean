/-! taken -/
def tkB (k w : Nat) : Bool := match k with
  | 0 => decide (w = 0)
  | 1 => decide (w = 1) || decide (w = 0)
  | 2 => decide (w = 2) || decide (w = 0)
  | 3 => decide (w = 3) || (decide (w = 1) || decide (w = 0))
  | 4 => decide (w = 4) || (decide (w = 2) || decide (w = 0))
  | _ => decide (w = 5) || decide (w = 0)
/-- the chain of kinds, once for both -/
theorem tk_go {Q : Int32 → Nat → Prop} {w : Nat} {KN K13 : Prop} (hw : w ≤ 5) (base : K13 → ∀ t, t ≤ 6 → Q (-1) t)
    (step : ∀ k t, k ≤ 5 → t ≤ 5 → (k = w → KN) → (¬ k = w → Q (unI k) (t + 1)) → Q (nI k) t) : ∀ k, k ≤ 5 → (tkB k w = true → KN) → (tkB k w = false → K13) → Q (nI k) 0 := by
  have k0 : ∀ t, t ≤ 5 → (tkB 0 w = true → KN) → (tkB 0 w = false → K13) → Q (nI 0) t := fun t ht h1 h0 =>
    step 0 t (by omega) ht (fun e => h1 (by subst e; rfl)) (fun e => base (h0 (by simp [tkB]; omega)) (t + 1) (by omega))
  have one : ∀ k t, t ≤ 4 → k ≤ 5 → unI k = nI 0 → tkB k w = (decide (w = k) || tkB 0 w) → (tkB k w = true → KN) → (tkB k w = false → K13) → Q (nI k) t := by
    intro k t ht hk hu hb h1 h0
    refine step k t hk (by omega) (fun e => h1 (by rw [hb, e, decide_eq_true rfl]; rfl)) (fun e => ?_)
    rw [hu]
    rw [hb, decide_eq_false (fun z => e z.symm), Bool.false_or] at h1 h0
    exact k0 (t + 1) (by omega) h1 h0
  have k1 : ∀ t, t ≤ 4 → (tkB 1 w = true → KN) → (tkB 1 w = false → K13) → Q (nI 1) t := fun t ht => one 1 t ht (by omega) rfl rfl
  have k2 : ∀ t, t ≤ 4 → (tkB 2 w = true → KN) → (tkB 2 w = false → K13) → Q (nI 2) t := fun t ht => one 2 t ht (by omega) rfl rfl
  intro k hk h1 h0
  rcases (show k = 0 ∨ k = 1 ∨ k = 2 ∨ k = 3 ∨ k = 4 ∨ k = 5 by omega) with rfl | rfl | rfl | rfl | rfl | rfl
  · exact k0 0 (by omega) h1 h0
  · exact k1 0 (by omega) h1 h0
  · exact k2 0 (by omega) h1 h0
  · refine step 3 0 (by omega) (by omega) (fun e => h1 (by subst e; rfl)) (fun e => ?_)
    have hb : tkB 3 w = tkB 1 w := by
      show (decide (w = 3) || tkB 1 w) = tkB 1 w
      rw [decide_eq_false (fun z => e z.symm), Bool.false_or]
    rw [hb] at h1 h0
    exact k1 (0 + 1) (by omega) h1 h0
  · refine step 4 0 (by omega) (by omega) (fun e => h1 (by subst e; rfl)) (fun e => ?_)
    have hb : tkB 4 w = tkB 2 w := by
      show (decide (w = 4) || tkB 2 w) = tkB 2 w
      rw [decide_eq_false (fun z => e z.symm), Bool.false_or]
    rw [hb] at h1 h0
    exact k2 (0 + 1) (by omega) h1 h0
  · exact one 5 0 (by omega) (by omega) rfl rfl h1 h0
theorem c_taken {tv : TV} {nT d a w : Nat} {S : St} {K : KT} {F : Fl} (hd : 100 ≤ d) (hX : FX tv nT S 0 F) (hs : STA S) (ha : a < F.n) (hw : w ≤ 5) (h1 : tkB (F.ki a) w = true → K (some (aI (nI (F.nu a)))) S) (h0 : tkB (F.ki a) w = false → K (some (aI (-13))) S) : Call d m_X5_taken [aR 0 0, aI (nI a), aI (nI w)] S K := by
  refine Call.of (k := 99) hd (fun e he P hP => ?_)
  have hN := hX.1.1
  have hn5 := hX.2.2.1
  have hki := (hX.2.2.2.2.2 a ha).1
  have base : K (some (aI (-13))) S → ∀ t, t ≤ 6 → P 41 [some (aR 0 0), some (aI (nI a)), some (aI (nI w)), some (aI (-1)), some (aI (nI t))] [aI 6, aI (nI t)] S 0 0 := by
    intro hk t ht
    refine hP _ _ _ _ _ _ (geI (x := t) (y := 6) (by omega) (by omega) (fun hc => ?_) (fun hc => ?_))
    · repeat (first | (refine hP _ _ _ _ _ _ ?_; show P _ _ _ _ _ _) | (refine hP _ _ _ _ _ _ (And.intro (hN _ _ _ rfl) ?_); show P _ _ (aR _ _ :: _) _ _ _))
      exact hP _ _ _ _ _ _ (hk)
    · repeat (first | (refine hP _ _ _ _ _ _ ?_; show P _ _ _ _ _ _) | (refine hP _ _ _ _ _ _ (And.intro (hN _ _ _ rfl) ?_); show P _ _ (aR _ _ :: _) _ _ _))
      refine hP _ _ _ _ _ _ (And.intro (fun _ => ?_) (fun hc => absurd (by decide) hc))
      repeat (first | (refine hP _ _ _ _ _ _ ?_; show P _ _ _ _ _ _) | (refine hP _ _ _ _ _ _ (And.intro (hN _ _ _ rfl) ?_); show P _ _ (aR _ _ :: _) _ _ _))
      exact hP _ _ _ _ _ _ (hk)
  have step : ∀ k t, k ≤ 5 → t ≤ 5 → (k = w → K (some (aI (nI (F.nu a)))) S) → (¬ k = w → P 41 [some (aR 0 0), some (aI (nI a)), some (aI (nI w)), some (aI (unI k)), some (aI (nI (t + 1)))] [aI 6, aI (nI (t + 1))] S 0 0) → P 41 [some (aR 0 0), some (aI (nI a)), some (aI (nI w)), some (aI (nI k)), some (aI (nI t))] [aI 6, aI (nI t)] S 0 0 := by
    intro k t hk ht hy hn
    rw [nI_succ t] at hn
    refine hP _ _ _ _ _ _ (And.intro (fun hc => absurd hc (nI_ge (a := t) (b := 6) (by omega) (by omega))) (fun _ => ?_))
    repeat (first | (refine hP _ _ _ _ _ _ ?_; show P _ _ _ _ _ _) | (refine hP _ _ _ _ _ _ (And.intro (hN _ _ _ rfl) ?_); show P _ _ (aR _ _ :: _) _ _ _))
    refine hP _ _ _ _ _ _ (And.intro (fun hc => absurd hc (nI_pos (by omega))) (fun _ => ?_))
    repeat (first | (refine hP _ _ _ _ _ _ ?_; show P _ _ _ _ _ _) | (refine hP _ _ _ _ _ _ (And.intro (hN _ _ _ rfl) ?_); show P _ _ (aR _ _ :: _) _ _ _))
    by_cases e : k = w
    · subst e
      have hy := hy rfl
      refine hP _ _ _ _ _ _ (And.intro (fun hc => absurd hc (fun z => z rfl)) (fun _ => ?_))
      repeat (first | (refine hP _ _ _ _ _ _ ?_; show P _ _ _ _ _ _) | (refine hP _ _ _ _ _ _ (And.intro (hN _ _ _ rfl) ?_); show P _ _ (aR _ _ :: _) _ _ _))
      refine hP _ _ _ _ _ _ (Exists.intro (a) (And.intro (And.intro (rfl) (by show a < 5; omega)) ?_))
      rw [hX.2.1.nu ha]
      exact hP _ _ _ _ _ _ (hy)
    · have hn := hn e
      refine hP _ _ _ _ _ _ (And.intro (fun _ => ?_) (fun hc => absurd ((nI_eq (by omega) (by omega)).mp hc) e))
      repeat (first | (refine hP _ _ _ _ _ _ ?_; show P _ _ _ _ _ _) | (refine hP _ _ _ _ _ _ (And.intro (hN _ _ _ rfl) ?_); show P _ _ (aR _ _ :: _) _ _ _))
      refine hP _ _ _ _ _ _ (Exists.intro (k) (And.intro (And.intro (rfl) (by show k < 6; omega)) ?_))
      rw [hs.2.2.2 k (by omega)]
      repeat (first | (refine hP _ _ _ _ _ _ ?_; show P _ _ _ _ _ _) | (refine hP _ _ _ _ _ _ (And.intro (hN _ _ _ rfl) ?_); show P _ _ (aR _ _ :: _) _ _ _))
      exact hn
  repeat (first | (refine hP _ _ _ _ _ _ ?_; show P _ _ _ _ _ _) | (refine hP _ _ _ _ _ _ (And.intro (hN _ _ _ rfl) ?_); show P _ _ (aR _ _ :: _) _ _ _))
  refine hP _ _ _ _ _ _ (And.intro (fun hc => absurd hc (nI_pos (by omega))) (fun _ => ?_))
  repeat (first | (refine hP _ _ _ _ _ _ ?_; show P _ _ _ _ _ _) | (refine hP _ _ _ _ _ _ (And.intro (hN _ _ _ rfl) ?_); show P _ _ (aR _ _ :: _) _ _ _))
  refine hP _ _ _ _ _ _ (And.intro (fun _ => ?_) (fun hc => absurd (nI_lt (a := w) (b := 6) (by omega) (by omega)) hc))
  repeat (first | (refine hP _ _ _ _ _ _ ?_; show P _ _ _ _ _ _) | (refine hP _ _ _ _ _ _ (And.intro (hN _ _ _ rfl) ?_); show P _ _ (aR _ _ :: _) _ _ _))
  refine hP _ _ _ _ _ _ (c_isDancer (by omega) hN hX.2.1.1 hn5 ?_)
  rw [isD_N (by omega) (by omega), decide_eq_true ha]
  repeat (first | (refine hP _ _ _ _ _ _ ?_; show P _ _ _ _ _ _) | (refine hP _ _ _ _ _ _ (And.intro (hN _ _ _ rfl) ?_); show P _ _ (aR _ _ :: _) _ _ _) | refine hP _ _ _ _ _ _ (And.intro (fun _ => ?_) (fun hc => absurd hc (by decide))) | refine hP _ _ _ _ _ _ (And.intro (fun hc => absurd hc (by decide)) (fun _ => ?_)))
  refine hP _ _ _ _ _ _ (Exists.intro (a) (And.intro (And.intro (rfl) (by show a < 5; omega)) ?_))
  rw [hX.2.1.ki ha]
  repeat (first | (refine hP _ _ _ _ _ _ ?_; show P _ _ _ _ _ _) | (refine hP _ _ _ _ _ _ (And.intro (hN _ _ _ rfl) ?_); show P _ _ (aR _ _ :: _) _ _ _))
  exact tk_go (Q := fun i3 t => P 41 [some (aR 0 0), some (aI (nI a)), some (aI (nI w)), some (aI i3), some (aI (nI t))] [aI 6, aI (nI t)] S 0 0) hw base step (F.ki a) hki h1 h0
theorem n_over {d k : Nat} {S : St} {K : KT} (hd : 1 ≤ d) (hk : k ≤ 5) (h : K (some (aI (unI k))) S) : Call d m_X6_over [aI (nI k)] S K := by
  refine Call.of (k := 0) hd (fun e he P hP => ?_)
  have hN : True := trivial
  rcases (show k = 0 ∨ k = 1 ∨ k = 2 ∨ k = 3 ∨ k = 4 ∨ k = 5 by omega) with rfl | rfl | rfl | rfl | rfl | rfl
  · repeat (first | (refine hP _ _ _ _ _ _ ?_; show P _ _ _ _ _ _) | (refine hP _ _ _ _ _ _ (And.intro (hN _ _ _ rfl) ?_); show P _ _ (aR _ _ :: _) _ _ _) | refine hP _ _ _ _ _ _ (And.intro (fun _ => ?_) (fun hc => absurd hc (by decide))) | refine hP _ _ _ _ _ _ (And.intro (fun hc => absurd hc (by decide)) (fun _ => ?_)))
    exact hP _ _ _ _ _ _ (h)
  · repeat (first | (refine hP _ _ _ _ _ _ ?_; show P _ _ _ _ _ _) | (refine hP _ _ _ _ _ _ (And.intro (hN _ _ _ rfl) ?_); show P _ _ (aR _ _ :: _) _ _ _) | refine hP _ _ _ _ _ _ (And.intro (fun _ => ?_) (fun hc => absurd hc (by decide))) | refine hP _ _ _ _ _ _ (And.intro (fun hc => absurd hc (by decide)) (fun _ => ?_)))
    exact hP _ _ _ _ _ _ (h)
  · repeat (first | (refine hP _ _ _ _ _ _ ?_; show P _ _ _ _ _ _) | (refine hP _ _ _ _ _ _ (And.intro (hN _ _ _ rfl) ?_); show P _ _ (aR _ _ :: _) _ _ _) | refine hP _ _ _ _ _ _ (And.intro (fun _ => ?_) (fun hc => absurd hc (by decide))) | refine hP _ _ _ _ _ _ (And.intro (fun hc => absurd hc (by decide)) (fun _ => ?_)))
    exact hP _ _ _ _ _ _ (h)
  · repeat (first | (refine hP _ _ _ _ _ _ ?_; show P _ _ _ _ _ _) | (refine hP _ _ _ _ _ _ (And.intro (hN _ _ _ rfl) ?_); show P _ _ (aR _ _ :: _) _ _ _) | refine hP _ _ _ _ _ _ (And.intro (fun _ => ?_) (fun hc => absurd hc (by decide))) | refine hP _ _ _ _ _ _ (And.intro (fun hc => absurd hc (by decide)) (fun _ => ?_)))
    exact hP _ _ _ _ _ _ (h)
  · repeat (first | (refine hP _ _ _ _ _ _ ?_; show P _ _ _ _ _ _) | (refine hP _ _ _ _ _ _ (And.intro (hN _ _ _ rfl) ?_); show P _ _ (aR _ _ :: _) _ _ _) | refine hP _ _ _ _ _ _ (And.intro (fun _ => ?_) (fun hc => absurd hc (by decide))) | refine hP _ _ _ _ _ _ (And.intro (fun hc => absurd hc (by decide)) (fun _ => ?_)))
    exact hP _ _ _ _ _ _ (h)
  · repeat (first | (refine hP _ _ _ _ _ _ ?_; show P _ _ _ _ _ _) | (refine hP _ _ _ _ _ _ (And.intro (hN _ _ _ rfl) ?_); show P _ _ (aR _ _ :: _) _ _ _) | refine hP _ _ _ _ _ _ (And.intro (fun _ => ?_) (fun hc => absurd hc (by decide))) | refine hP _ _ _ _ _ _ (And.intro (fun hc => absurd hc (by decide)) (fun _ => ?_)))
    exact hP _ _ _ _ _ _ (h)
theorem nI_m1 {k : Nat} (hk : k < 2 ^ 31) : ¬ nI k = -1 := fun z => by
  have := congrArg Int32.toInt z
  rw [nI_toInt hk] at this
  have e : (-1 : Int32).toInt = -1 := by decide
  omega
theorem n_taken {tv : TV} {nT d a w : Nat} {S : St} {K : KT} {F : Fl} (hd : 100 ≤ d) (hX : MX tv nT S F) (ha : a < F.n) (hw : w ≤ 5) (h1 : tkB (F.ki a) w = true → K (some (aI (nI (F.nu a)))) S) (h0 : tkB (F.ki a) w = false → K (some (aI (-13))) S) : Call d m_X6_taken [aR 40 0, aI (nI a), aI (nI w)] S K := by
  refine Call.of (k := 99) hd (fun e he P hP => ?_)
  have hN := hX.1.1
  have hn5 := hX.2.2.1
  have hki := (hX.2.2.2.2.2 a ha).1
  have base : K (some (aI (-13))) S → ∀ t, t ≤ 6 → P 35 [some (aR 40 0), some (aI (nI a)), some (aI (nI w)), some (aI (-1))] [aI (-1), aI (-1)] S 0 0 := by
    intro hk t ht
    refine hP _ _ _ _ _ _ (And.intro (fun _ => ?_) (fun hc => absurd rfl hc))
    repeat (first | (refine hP _ _ _ _ _ _ ?_; show P _ _ _ _ _ _) | (refine hP _ _ _ _ _ _ (And.intro (hN _ _ _ rfl) ?_); show P _ _ (aR _ _ :: _) _ _ _))
    refine hP _ _ _ _ _ _ (And.intro (fun _ => ?_) (fun hc => absurd hc.symm (nI_m1 (by omega))))
    repeat (first | (refine hP _ _ _ _ _ _ ?_; show P _ _ _ _ _ _) | (refine hP _ _ _ _ _ _ (And.intro (hN _ _ _ rfl) ?_); show P _ _ (aR _ _ :: _) _ _ _))
    exact hP _ _ _ _ _ _ (hk)
  have step : ∀ k t, k ≤ 5 → t ≤ 5 → (k = w → K (some (aI (nI (F.nu a)))) S) → (¬ k = w → P 35 [some (aR 40 0), some (aI (nI a)), some (aI (nI w)), some (aI (unI k))] [aI (-1), aI (unI k)] S 0 0) → P 35 [some (aR 40 0), some (aI (nI a)), some (aI (nI w)), some (aI (nI k))] [aI (-1), aI (nI k)] S 0 0 := by
    intro k t hk ht hy hn
    refine hP _ _ _ _ _ _ (And.intro (fun hc => absurd hc (nI_m1 (by omega))) (fun _ => ?_))
    repeat (first | (refine hP _ _ _ _ _ _ ?_; show P _ _ _ _ _ _) | (refine hP _ _ _ _ _ _ (And.intro (hN _ _ _ rfl) ?_); show P _ _ (aR _ _ :: _) _ _ _))
    by_cases e : k = w
    · subst e
      have hy := hy rfl
      refine hP _ _ _ _ _ _ (And.intro (fun _ => ?_) (fun hc => absurd rfl hc))
      repeat (first | (refine hP _ _ _ _ _ _ ?_; show P _ _ _ _ _ _) | (refine hP _ _ _ _ _ _ (And.intro (hN _ _ _ rfl) ?_); show P _ _ (aR _ _ :: _) _ _ _))
      refine hP _ _ _ _ _ _ (And.intro (fun hc => absurd hc (fun z => z rfl)) (fun _ => ?_))
      repeat (first | (refine hP _ _ _ _ _ _ ?_; show P _ _ _ _ _ _) | (refine hP _ _ _ _ _ _ (And.intro (hN _ _ _ rfl) ?_); show P _ _ (aR _ _ :: _) _ _ _))
      refine hP _ _ _ _ _ _ (Exists.intro (2 * a) (And.intro (And.intro (jx2 a) (by show 2 * a < 10; omega)) ?_))
      rw [(hX.2.1.2.2.2.2.1 a ha).2.1]
      repeat (first | (refine hP _ _ _ _ _ _ ?_; show P _ _ _ _ _ _) | (refine hP _ _ _ _ _ _ (And.intro (hN _ _ _ rfl) ?_); show P _ _ (aR _ _ :: _) _ _ _))
      exact hP _ _ _ _ _ _ (hy)
    · have hn := hn e
      refine hP _ _ _ _ _ _ (And.intro (fun hc => absurd ((nI_eq (by omega) (by omega)).mp hc) e) (fun _ => ?_))
      repeat (first | (refine hP _ _ _ _ _ _ ?_; show P _ _ _ _ _ _) | (refine hP _ _ _ _ _ _ (And.intro (hN _ _ _ rfl) ?_); show P _ _ (aR _ _ :: _) _ _ _))
      refine hP _ _ _ _ _ _ (n_over (by omega) hk ?_)
      repeat (first | (refine hP _ _ _ _ _ _ ?_; show P _ _ _ _ _ _) | (refine hP _ _ _ _ _ _ (And.intro (hN _ _ _ rfl) ?_); show P _ _ (aR _ _ :: _) _ _ _))
      exact hn
  repeat (first | (refine hP _ _ _ _ _ _ ?_; show P _ _ _ _ _ _) | (refine hP _ _ _ _ _ _ (And.intro (hN _ _ _ rfl) ?_); show P _ _ (aR _ _ :: _) _ _ _))
  refine hP _ _ _ _ _ _ (n_in0 (m := 5) (by omega) (by omega) ?_)
  rw [isD_N (by omega) (by omega), decide_eq_true (by omega)]
  repeat (first | (refine hP _ _ _ _ _ _ ?_; show P _ _ _ _ _ _) | (refine hP _ _ _ _ _ _ (And.intro (hN _ _ _ rfl) ?_); show P _ _ (aR _ _ :: _) _ _ _) | refine hP _ _ _ _ _ _ (And.intro (fun _ => ?_) (fun hc => absurd hc (by decide))) | refine hP _ _ _ _ _ _ (And.intro (fun hc => absurd hc (by decide)) (fun _ => ?_)))
  refine hP _ _ _ _ _ _ (n_isOne (by omega) hX.2.1.1 hn5 ?_)
  rw [isD_N (by omega) (by omega), decide_eq_true ha]
  repeat (first | (refine hP _ _ _ _ _ _ ?_; show P _ _ _ _ _ _) | (refine hP _ _ _ _ _ _ (And.intro (hN _ _ _ rfl) ?_); show P _ _ (aR _ _ :: _) _ _ _) | refine hP _ _ _ _ _ _ (And.intro (fun _ => ?_) (fun hc => absurd hc (by decide))) | refine hP _ _ _ _ _ _ (And.intro (fun hc => absurd hc (by decide)) (fun _ => ?_)))
  refine hP _ _ _ _ _ _ (Exists.intro (a) (And.intro (And.intro (rfl) (by show a < 5; omega)) ?_))
  rw [(hX.2.1.2.2.2.2.1 a ha).1]
  repeat (first | (refine hP _ _ _ _ _ _ ?_; show P _ _ _ _ _ _) | (refine hP _ _ _ _ _ _ (And.intro (hN _ _ _ rfl) ?_); show P _ _ (aR _ _ :: _) _ _ _))
  exact tk_go (Q := fun i3 _ => P 35 [some (aR 40 0), some (aI (nI a)), some (aI (nI w)), some (aI i3)] [aI (-1), aI i3] S 0 0) hw base step (F.ki a) hki h1 h0
theorem op_taken (x y : Int32) : OpA m_X5_taken m_X6_taken [aI x, aI y] isI := by
  intro d S K hd hT hK
  obtain ⟨F, I, sh, T, nT, tb, hT⟩ := hT
  have hX := hT.fx
  have hM := hT.m1 (Ag.rf wTH S)
  have hn5 := hX.2.2.1
  have hTT : TTx S := ⟨F, I, sh, T, nT, tb, hT⟩
  cases h1 : isD 6 y with
  | false =>
    have fin := hK S (aI (-2)) ⟨_, rfl⟩ (by omega) (fun d' K' hd' hK' => by
      have hK' := hK' S hTT
      refine Call.of (k := 199) hd' (fun e he P hP => ?_)
      have hN := hX.1.1
      repeat (first | (refine hP _ _ _ _ _ _ ?_; show P _ _ _ _ _ _) | (refine hP _ _ _ _ _ _ (And.intro (hN _ _ _ rfl) ?_); show P _ _ (aR _ _ :: _) _ _ _))
      refine hP _ _ _ _ _ _ (n_in0 (m := 5) (by omega) (by omega) ?_)
      rw [h1]
      repeat (first | (refine hP _ _ _ _ _ _ ?_; show P _ _ _ _ _ _) | (refine hP _ _ _ _ _ _ (And.intro (hN _ _ _ rfl) ?_); show P _ _ (aR _ _ :: _) _ _ _) | refine hP _ _ _ _ _ _ (And.intro (fun _ => ?_) (fun hc => absurd hc (by decide))) | refine hP _ _ _ _ _ _ (And.intro (fun hc => absurd hc (by decide)) (fun _ => ?_)))
      exact hP _ _ _ _ _ _ (hK'))
    refine Call.of (k := 199) hd (fun e he P hP => ?_)
    have hN := hX.1.1
    repeat (first | (refine hP _ _ _ _ _ _ ?_; show P _ _ _ _ _ _) | (refine hP _ _ _ _ _ _ (And.intro (hN _ _ _ rfl) ?_); show P _ _ (aR _ _ :: _) _ _ _))
    rcases rng (x := y) (n := 6) (by omega) with ⟨hf, h0 | ⟨h0, h2⟩⟩ | ⟨u, hu, hf, rfl⟩
    · refine hP _ _ _ _ _ _ (And.intro (fun _ => ?_) (fun hc => absurd h0 hc))
      repeat (first | (refine hP _ _ _ _ _ _ ?_; show P _ _ _ _ _ _) | (refine hP _ _ _ _ _ _ (And.intro (hN _ _ _ rfl) ?_); show P _ _ (aR _ _ :: _) _ _ _))
      exact hP _ _ _ _ _ _ (fin)
    · refine hP _ _ _ _ _ _ (And.intro (fun hc => absurd hc h0) (fun _ => ?_))
      repeat (first | (refine hP _ _ _ _ _ _ ?_; show P _ _ _ _ _ _) | (refine hP _ _ _ _ _ _ (And.intro (hN _ _ _ rfl) ?_); show P _ _ (aR _ _ :: _) _ _ _))
      refine hP _ _ _ _ _ _ (And.intro (fun hc => absurd h2 (Int32.not_le.mpr hc)) (fun _ => ?_))
      repeat (first | (refine hP _ _ _ _ _ _ ?_; show P _ _ _ _ _ _) | (refine hP _ _ _ _ _ _ (And.intro (hN _ _ _ rfl) ?_); show P _ _ (aR _ _ :: _) _ _ _))
      exact hP _ _ _ _ _ _ (fin)
    · rw [hf] at h1
      cases h1
  | true =>
    obtain ⟨w, hw, -, rfl⟩ := isD_of h1
    cases h2 : isD F.n x with
    | false =>
      have fin := hK S (aI (-11)) ⟨_, rfl⟩ (by omega) (fun d' K' hd' hK' => by
        have hK' := hK' S hTT
        refine Call.of (k := 199) hd' (fun e he P hP => ?_)
        have hN := hX.1.1
        repeat (first | (refine hP _ _ _ _ _ _ ?_; show P _ _ _ _ _ _) | (refine hP _ _ _ _ _ _ (And.intro (hN _ _ _ rfl) ?_); show P _ _ (aR _ _ :: _) _ _ _))
        refine hP _ _ _ _ _ _ (n_in0 (m := 5) (by omega) (by omega) ?_)
        rw [h1]
        repeat (first | (refine hP _ _ _ _ _ _ ?_; show P _ _ _ _ _ _) | (refine hP _ _ _ _ _ _ (And.intro (hN _ _ _ rfl) ?_); show P _ _ (aR _ _ :: _) _ _ _) | refine hP _ _ _ _ _ _ (And.intro (fun _ => ?_) (fun hc => absurd hc (by decide))) | refine hP _ _ _ _ _ _ (And.intro (fun hc => absurd hc (by decide)) (fun _ => ?_)))
        refine hP _ _ _ _ _ _ (n_isOne (by omega) hM.2.1.1 hn5 ?_)
        rw [h2]
        repeat (first | (refine hP _ _ _ _ _ _ ?_; show P _ _ _ _ _ _) | (refine hP _ _ _ _ _ _ (And.intro (hN _ _ _ rfl) ?_); show P _ _ (aR _ _ :: _) _ _ _) | refine hP _ _ _ _ _ _ (And.intro (fun _ => ?_) (fun hc => absurd hc (by decide))) | refine hP _ _ _ _ _ _ (And.intro (fun hc => absurd hc (by decide)) (fun _ => ?_)))
        exact hP _ _ _ _ _ _ (hK'))
      refine Call.of (k := 199) hd (fun e he P hP => ?_)
      have hN := hX.1.1
      repeat (first | (refine hP _ _ _ _ _ _ ?_; show P _ _ _ _ _ _) | (refine hP _ _ _ _ _ _ (And.intro (hN _ _ _ rfl) ?_); show P _ _ (aR _ _ :: _) _ _ _))
      refine hP _ _ _ _ _ _ (And.intro (fun hc => absurd hc (nI_pos (by omega))) (fun _ => ?_))
      repeat (first | (refine hP _ _ _ _ _ _ ?_; show P _ _ _ _ _ _) | (refine hP _ _ _ _ _ _ (And.intro (hN _ _ _ rfl) ?_); show P _ _ (aR _ _ :: _) _ _ _))
      refine hP _ _ _ _ _ _ (And.intro (fun _ => ?_) (fun hc => absurd (nI_lt (a := w) (b := 6) (by omega) (by omega)) hc))
      repeat (first | (refine hP _ _ _ _ _ _ ?_; show P _ _ _ _ _ _) | (refine hP _ _ _ _ _ _ (And.intro (hN _ _ _ rfl) ?_); show P _ _ (aR _ _ :: _) _ _ _))
      refine hP _ _ _ _ _ _ (c_isDancer (by omega) hN hX.2.1.1 hn5 ?_)
      rw [h2]
      repeat (first | (refine hP _ _ _ _ _ _ ?_; show P _ _ _ _ _ _) | (refine hP _ _ _ _ _ _ (And.intro (hN _ _ _ rfl) ?_); show P _ _ (aR _ _ :: _) _ _ _) | refine hP _ _ _ _ _ _ (And.intro (fun _ => ?_) (fun hc => absurd hc (by decide))) | refine hP _ _ _ _ _ _ (And.intro (fun hc => absurd hc (by decide)) (fun _ => ?_)))
      exact hP _ _ _ _ _ _ (fin)
    | true =>
      obtain ⟨a, ha, -, rfl⟩ := isD_of h2
      refine c_taken (by omega) hX hT.2.2.2.1.2.1 ha (by omega) (fun hb => ?_) (fun hb => ?_)
      · exact hK S _ ⟨_, rfl⟩ (by omega) (fun d' K' hd' hK' => n_taken (by omega) hM ha (by omega) (fun _ => hK' S hTT) (fun z => by rw [hb] at z; cases z))
      · exact hK S _ ⟨_, rfl⟩ (by omega) (fun d' K' hd' hK' => n_taken (by omega) hM ha (by omega) (fun z => by rw [hb] at z; cases z) (fun _ => hK' S hTT))
