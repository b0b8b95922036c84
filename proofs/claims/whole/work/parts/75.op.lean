/-! cell, film -/
def nrw (s : Nat) (v : Int32) : Int32 := if s = 1 then v.toInt8.toInt32 else if s = 2 then v.toInt16.toInt32 else v
theorem c_put {d g i s : Nat} {S : St} {K : KT} {v : Int32} (hd : 1 ≤ d) (hN : NN S) (hs : S.1 20 g 0 = nI s - 1) (hs1 : 1 ≤ s) (hs3 : s ≤ 3) (hi : i < 40) (h : K none (ivSet S 21 g i (nrw s v))) : Call d m_X3_put [aR 20 g, aI (nI i), aI v] S K := by
  refine Call.of (k := 0) hd (fun e he P hP => ?_)
  repeat (first | (refine hP _ _ _ _ _ _ ?_; show P _ _ _ _ _ _) | (refine hP _ _ _ _ _ _ (And.intro (hN _ _ _ rfl) ?_); show P _ _ (aR _ _ :: _) _ _ _))
  rw [hs]
  rcases (show s = 1 ∨ s = 2 ∨ s = 3 by omega) with rfl | rfl | rfl
  · have h : K none (ivSet S 21 g i v.toInt8.toInt32) := h
    repeat (first | (refine hP _ _ _ _ _ _ ?_; show P _ _ _ _ _ _) | (refine hP _ _ _ _ _ _ (And.intro (hN _ _ _ rfl) ?_); show P _ _ (aR _ _ :: _) _ _ _) | refine hP _ _ _ _ _ _ (And.intro (fun _ => ?_) (fun hc => absurd hc (by decide))) | refine hP _ _ _ _ _ _ (And.intro (fun hc => absurd hc (by decide)) (fun _ => ?_)))
    refine hP _ _ _ _ _ _ (Exists.intro (i) (And.intro (And.intro (rfl) (show i < 40 from hi)) ?_))
    exact hP _ _ _ _ _ _ (h)
  · have h : K none (ivSet S 21 g i v.toInt16.toInt32) := h
    refine hP _ _ _ _ _ _ (And.intro (fun _ => ?_) (fun hc => absurd hc (by decide)))
    repeat (first | (refine hP _ _ _ _ _ _ ?_; show P _ _ _ _ _ _) | (refine hP _ _ _ _ _ _ (And.intro (hN _ _ _ rfl) ?_); show P _ _ (aR _ _ :: _) _ _ _))
    rw [hs]
    repeat (first | (refine hP _ _ _ _ _ _ ?_; show P _ _ _ _ _ _) | (refine hP _ _ _ _ _ _ (And.intro (hN _ _ _ rfl) ?_); show P _ _ (aR _ _ :: _) _ _ _) | refine hP _ _ _ _ _ _ (And.intro (fun _ => ?_) (fun hc => absurd hc (by decide))) | refine hP _ _ _ _ _ _ (And.intro (fun hc => absurd hc (by decide)) (fun _ => ?_)))
    refine hP _ _ _ _ _ _ (Exists.intro (i) (And.intro (And.intro (rfl) (show i < 40 from hi)) ?_))
    exact hP _ _ _ _ _ _ (h)
  · have h : K none (ivSet S 21 g i v) := h
    refine hP _ _ _ _ _ _ (And.intro (fun _ => ?_) (fun hc => absurd hc (by decide)))
    repeat (first | (refine hP _ _ _ _ _ _ ?_; show P _ _ _ _ _ _) | (refine hP _ _ _ _ _ _ (And.intro (hN _ _ _ rfl) ?_); show P _ _ (aR _ _ :: _) _ _ _))
    rw [hs]
    repeat (first | (refine hP _ _ _ _ _ _ ?_; show P _ _ _ _ _ _) | (refine hP _ _ _ _ _ _ (And.intro (hN _ _ _ rfl) ?_); show P _ _ (aR _ _ :: _) _ _ _) | refine hP _ _ _ _ _ _ (And.intro (fun _ => ?_) (fun hc => absurd hc (by decide))) | refine hP _ _ _ _ _ _ (And.intro (fun hc => absurd hc (by decide)) (fun _ => ?_)))
    refine hP _ _ _ _ _ _ (Exists.intro (i) (And.intro (And.intro (rfl) (show i < 40 from hi)) ?_))
    exact hP _ _ _ _ _ _ (h)
def hoB (sz : Nat) (i n : Int32) : Bool := decide (0 ≤ i ∧ 0 ≤ n ∧ n ≤ nI sz ∧ i ≤ nI sz - n)
theorem hoB_1 {sz : Nat} {i : Int32} (hs : sz ≤ 40) : hoB sz i 1 = isD sz i := by
  unfold hoB isD
  apply decide_eq_decide.mpr
  have e1 : (1 : Int32).toInt = 1 := by decide
  have e0 : (0 : Int32).toInt = 0 := by decide
  rw [Int32.lt_iff_toInt_lt, Int32.le_iff_toInt_le, Int32.le_iff_toInt_le, Int32.le_iff_toInt_le, Int32.le_iff_toInt_le, nI_toInt (by omega), e0, e1]
  rcases Nat.eq_zero_or_pos sz with z | z
  · subst z
    omega
  · obtain ⟨m, rfl⟩ : ∃ m, sz = m + 1 := ⟨sz - 1, by omega⟩
    rw [nI_pred, nI_toInt (by omega)]
    omega
theorem c_holds {d g sz : Nat} {S : St} {K : KT} {i n : Int32} (hd : 1 ≤ d) (hN : NN S) (hs : S.1 20 g 1 = nI sz) (h : K (some (aI (b2 (hoB sz i n)))) S) : Call d m_X3_holds [aR 20 g, aI i, aI n] S K := by
  refine Call.of (k := 0) hd (fun e he P hP => ?_)
  repeat (first | (refine hP _ _ _ _ _ _ ?_; show P _ _ _ _ _ _) | (refine hP _ _ _ _ _ _ (And.intro (hN _ _ _ rfl) ?_); show P _ _ (aR _ _ :: _) _ _ _))
  refine hP _ _ _ _ _ _ (And.intro (fun h1 => ?_) (fun h1 => ?_))
  · rw [show hoB sz i n = false from decide_eq_false (fun z => absurd h1 (Int32.not_lt.mpr z.1))] at h
    repeat (first | (refine hP _ _ _ _ _ _ ?_; show P _ _ _ _ _ _) | (refine hP _ _ _ _ _ _ (And.intro (hN _ _ _ rfl) ?_); show P _ _ (aR _ _ :: _) _ _ _))
    refine hP _ _ _ _ _ _ (And.intro (Or.inl rfl) h)
  · repeat (first | (refine hP _ _ _ _ _ _ ?_; show P _ _ _ _ _ _) | (refine hP _ _ _ _ _ _ (And.intro (hN _ _ _ rfl) ?_); show P _ _ (aR _ _ :: _) _ _ _))
    refine hP _ _ _ _ _ _ (And.intro (fun h2 => ?_) (fun h2 => ?_))
    · rw [show hoB sz i n = false from decide_eq_false (fun z => absurd h2 (Int32.not_lt.mpr z.2.1))] at h
      repeat (first | (refine hP _ _ _ _ _ _ ?_; show P _ _ _ _ _ _) | (refine hP _ _ _ _ _ _ (And.intro (hN _ _ _ rfl) ?_); show P _ _ (aR _ _ :: _) _ _ _))
      refine hP _ _ _ _ _ _ (And.intro (Or.inl rfl) h)
    · repeat (first | (refine hP _ _ _ _ _ _ ?_; show P _ _ _ _ _ _) | (refine hP _ _ _ _ _ _ (And.intro (hN _ _ _ rfl) ?_); show P _ _ (aR _ _ :: _) _ _ _))
      rw [hs]
      refine hP _ _ _ _ _ _ (And.intro (fun h3 => ?_) (fun h3 => ?_))
      · rw [show hoB sz i n = false from decide_eq_false (fun z => absurd h3 (Int32.not_lt.mpr z.2.2.1))] at h
        repeat (first | (refine hP _ _ _ _ _ _ ?_; show P _ _ _ _ _ _) | (refine hP _ _ _ _ _ _ (And.intro (hN _ _ _ rfl) ?_); show P _ _ (aR _ _ :: _) _ _ _))
        refine hP _ _ _ _ _ _ (And.intro (Or.inl rfl) h)
      · repeat (first | (refine hP _ _ _ _ _ _ ?_; show P _ _ _ _ _ _) | (refine hP _ _ _ _ _ _ (And.intro (hN _ _ _ rfl) ?_); show P _ _ (aR _ _ :: _) _ _ _))
        rw [hs]
        repeat (first | (refine hP _ _ _ _ _ _ ?_; show P _ _ _ _ _ _) | (refine hP _ _ _ _ _ _ (And.intro (hN _ _ _ rfl) ?_); show P _ _ (aR _ _ :: _) _ _ _))
        refine hP _ _ _ _ _ _ (And.intro (fun h4 => ?_) (fun h4 => ?_))
        · rw [show hoB sz i n = false from decide_eq_false (fun z => absurd h4 (Int32.not_lt.mpr z.2.2.2))] at h
          repeat (first | (refine hP _ _ _ _ _ _ ?_; show P _ _ _ _ _ _) | (refine hP _ _ _ _ _ _ (And.intro (hN _ _ _ rfl) ?_); show P _ _ (aR _ _ :: _) _ _ _))
          refine hP _ _ _ _ _ _ (And.intro (Or.inl rfl) h)
        · rw [show hoB sz i n = true from decide_eq_true ⟨Int32.not_lt.mp h1, Int32.not_lt.mp h2, Int32.not_lt.mp h3, Int32.not_lt.mp h4⟩] at h
          repeat (first | (refine hP _ _ _ _ _ _ ?_; show P _ _ _ _ _ _) | (refine hP _ _ _ _ _ _ (And.intro (hN _ _ _ rfl) ?_); show P _ _ (aR _ _ :: _) _ _ _))
          refine hP _ _ _ _ _ _ (And.intro (Or.inr rfl) h)
theorem SHm.there {S : St} {sh : Shs} {g : Nat} (h : SHm S sh) (hg : g < 4) : S.1 55 0 g = b2 (decide (¬ (sh g).1 = 0)) := by
  rw [(h g hg).1]
  by_cases e : (sh g).1 = 0
  · simp [e, b2]
  · simp [e, b2]
def clS (v : Nat × Nat × (Nat → Int32)) (i : Nat) (x : Int32) : Nat × Nat × (Nat → Int32) := (v.1, v.2.1, fun k => if k = i then nrw v.1 x else v.2.2 k)
theorem op_cell (x i v : Int32) : OpA m_X5_cell m_X6_cell [aI x, aI i, aI v] isI := by
  intro d S K hd hT hK
  obtain ⟨F, I, sh, T, nT, tb, hT⟩ := hT
  have hX := hT.fx
  have hN0 := hX.1.1
  have hc0 := hT.2.2.2.1.2.2.2.2.2.1
  have hm0 := hT.2.2.2.2.2.2.2.2.1
  have hcl : ∀ i, i < 4 → (sh i).2.1 ≤ 40 := fun i hi => (hc0 i hi).2.2.2.1
  have hTT : TTx S := ⟨F, I, sh, T, nT, tb, hT⟩
  refine Call.of (k := 199) hd (fun e he P hP => ?_)
  have hN := hN0
  repeat (first | (refine hP _ _ _ _ _ _ ?_; show P _ _ _ _ _ _) | (refine hP _ _ _ _ _ _ (And.intro (hN _ _ _ rfl) ?_); show P _ _ (aR _ _ :: _) _ _ _))
  refine hP _ _ _ _ _ _ (c_isSheet (by omega) ?_)
  cases hx : isD 4 x with
  | false =>
    have fin := hK S (aI (-2)) ⟨_, rfl⟩ (by omega) (fun d' K' hd' hK' => by
      have hK' := hK' S hTT
      refine Call.of (k := 199) hd' (fun e he P hP => ?_)
      repeat (first | (refine hP _ _ _ _ _ _ ?_; show P _ _ _ _ _ _) | (refine hP _ _ _ _ _ _ (And.intro (hN _ _ _ rfl) ?_); show P _ _ (aR _ _ :: _) _ _ _))
      refine hP _ _ _ _ _ _ (n_isSheet (by omega) ?_)
      rw [hx]
      repeat (first | (refine hP _ _ _ _ _ _ ?_; show P _ _ _ _ _ _) | (refine hP _ _ _ _ _ _ (And.intro (hN _ _ _ rfl) ?_); show P _ _ (aR _ _ :: _) _ _ _) | refine hP _ _ _ _ _ _ (And.intro (fun _ => ?_) (fun hc => absurd hc (by decide))) | refine hP _ _ _ _ _ _ (And.intro (fun hc => absurd hc (by decide)) (fun _ => ?_)))
      exact hP _ _ _ _ _ _ (hK'))
    repeat (first | (refine hP _ _ _ _ _ _ ?_; show P _ _ _ _ _ _) | (refine hP _ _ _ _ _ _ (And.intro (hN _ _ _ rfl) ?_); show P _ _ (aR _ _ :: _) _ _ _) | refine hP _ _ _ _ _ _ (And.intro (fun _ => ?_) (fun hc => absurd hc (by decide))) | refine hP _ _ _ _ _ _ (And.intro (fun hc => absurd hc (by decide)) (fun _ => ?_)))
    exact hP _ _ _ _ _ _ (fin)
  | true =>
    obtain ⟨g, hg, -, rfl⟩ := isD_of hx
    obtain ⟨a1, a2, a3, a4, a5⟩ := hc0 g hg
    have ht := hm0.there hg
    repeat (first | (refine hP _ _ _ _ _ _ ?_; show P _ _ _ _ _ _) | (refine hP _ _ _ _ _ _ (And.intro (hN _ _ _ rfl) ?_); show P _ _ (aR _ _ :: _) _ _ _) | refine hP _ _ _ _ _ _ (And.intro (fun _ => ?_) (fun hc => absurd hc (by decide))) | refine hP _ _ _ _ _ _ (And.intro (fun hc => absurd hc (by decide)) (fun _ => ?_)))
    refine hP _ _ _ _ _ _ (Exists.intro (g) (And.intro (And.intro (rfl) (show g < 4 from hg)) ?_))
    refine And.intro (hN _ _ _ (nn18 hg)) ?_
    show P _ _ (aR 20 g :: _) _ _ _
    repeat (first | (refine hP _ _ _ _ _ _ ?_; show P _ _ _ _ _ _) | (refine hP _ _ _ _ _ _ (And.intro (hN _ _ _ rfl) ?_); show P _ _ (aR _ _ :: _) _ _ _))
    rw [a1]
    by_cases hs0 : (sh g).1 = 0
    · have fin := hK S (aI (-11)) ⟨_, rfl⟩ (by omega) (fun d' K' hd' hK' => by
        have hK' := hK' S hTT
        refine Call.of (k := 199) hd' (fun e he P hP => ?_)
        repeat (first | (refine hP _ _ _ _ _ _ ?_; show P _ _ _ _ _ _) | (refine hP _ _ _ _ _ _ (And.intro (hN _ _ _ rfl) ?_); show P _ _ (aR _ _ :: _) _ _ _))
        refine hP _ _ _ _ _ _ (n_isSheet (by omega) ?_)
        rw [hx]
        repeat (first | (refine hP _ _ _ _ _ _ ?_; show P _ _ _ _ _ _) | (refine hP _ _ _ _ _ _ (And.intro (hN _ _ _ rfl) ?_); show P _ _ (aR _ _ :: _) _ _ _) | refine hP _ _ _ _ _ _ (And.intro (fun _ => ?_) (fun hc => absurd hc (by decide))) | refine hP _ _ _ _ _ _ (And.intro (fun hc => absurd hc (by decide)) (fun _ => ?_)))
        refine hP _ _ _ _ _ _ (Exists.intro (g) (And.intro (And.intro (rfl) (show g < 4 from hg)) ?_))
        rw [ht, hs0]
        repeat (first | (refine hP _ _ _ _ _ _ ?_; show P _ _ _ _ _ _) | (refine hP _ _ _ _ _ _ (And.intro (hN _ _ _ rfl) ?_); show P _ _ (aR _ _ :: _) _ _ _) | refine hP _ _ _ _ _ _ (And.intro (fun _ => ?_) (fun hc => absurd hc (by decide))) | refine hP _ _ _ _ _ _ (And.intro (fun hc => absurd hc (by decide)) (fun _ => ?_)))
        exact hP _ _ _ _ _ _ (hK'))
      rw [hs0]
      repeat (first | (refine hP _ _ _ _ _ _ ?_; show P _ _ _ _ _ _) | (refine hP _ _ _ _ _ _ (And.intro (hN _ _ _ rfl) ?_); show P _ _ (aR _ _ :: _) _ _ _) | refine hP _ _ _ _ _ _ (And.intro (fun _ => ?_) (fun hc => absurd hc (by decide))) | refine hP _ _ _ _ _ _ (And.intro (fun hc => absurd hc (by decide)) (fun _ => ?_)))
      exact hP _ _ _ _ _ _ (fin)
    · obtain ⟨m1, m2, m3⟩ := (hm0 g hg).2 hs0
      have ht1 : S.1 55 0 g = 1 := by rw [ht, decide_eq_true hs0]; rfl
      have hsn : ¬ nI (sh g).1 - 1 = -1 := by
        obtain ⟨u, hu⟩ : ∃ u, (sh g).1 = u + 1 := ⟨(sh g).1 - 1, by omega⟩
        rw [hu, nI_pred]
        intro z
        have := congrArg Int32.toInt z
        rw [nI_toInt (by omega)] at this
        have e : (-1 : Int32).toInt = -1 := by decide
        omega
      refine hP _ _ _ _ _ _ (And.intro (fun _ => ?_) (fun hc => absurd hc hsn))
      repeat (first | (refine hP _ _ _ _ _ _ ?_; show P _ _ _ _ _ _) | (refine hP _ _ _ _ _ _ (And.intro (hN _ _ _ rfl) ?_); show P _ _ (aR _ _ :: _) _ _ _))
      refine hP _ _ _ _ _ _ (c_holds (by omega) hN a3 ?_)
      rw [hoB_1 a4]
      cases hi : isD (sh g).2.1 i with
      | false =>
        have fin := hK S (aI (-12)) ⟨_, rfl⟩ (by omega) (fun d' K' hd' hK' => by
          have hK' := hK' S hTT
          refine Call.of (k := 199) hd' (fun e he P hP => ?_)
          repeat (first | (refine hP _ _ _ _ _ _ ?_; show P _ _ _ _ _ _) | (refine hP _ _ _ _ _ _ (And.intro (hN _ _ _ rfl) ?_); show P _ _ (aR _ _ :: _) _ _ _))
          refine hP _ _ _ _ _ _ (n_isSheet (by omega) ?_)
          rw [hx]
          repeat (first | (refine hP _ _ _ _ _ _ ?_; show P _ _ _ _ _ _) | (refine hP _ _ _ _ _ _ (And.intro (hN _ _ _ rfl) ?_); show P _ _ (aR _ _ :: _) _ _ _) | refine hP _ _ _ _ _ _ (And.intro (fun _ => ?_) (fun hc => absurd hc (by decide))) | refine hP _ _ _ _ _ _ (And.intro (fun hc => absurd hc (by decide)) (fun _ => ?_)))
          refine hP _ _ _ _ _ _ (Exists.intro (g) (And.intro (And.intro (rfl) (show g < 4 from hg)) ?_))
          rw [ht1]
          repeat (first | (refine hP _ _ _ _ _ _ ?_; show P _ _ _ _ _ _) | (refine hP _ _ _ _ _ _ (And.intro (hN _ _ _ rfl) ?_); show P _ _ (aR _ _ :: _) _ _ _) | refine hP _ _ _ _ _ _ (And.intro (fun _ => ?_) (fun hc => absurd hc (by decide))) | refine hP _ _ _ _ _ _ (And.intro (fun hc => absurd hc (by decide)) (fun _ => ?_)))
          refine hP _ _ _ _ _ _ (Exists.intro (g) (And.intro (And.intro (rfl) (show g < 4 from hg)) ?_))
          rw [m2]
          repeat (first | (refine hP _ _ _ _ _ _ ?_; show P _ _ _ _ _ _) | (refine hP _ _ _ _ _ _ (And.intro (hN _ _ _ rfl) ?_); show P _ _ (aR _ _ :: _) _ _ _))
          refine hP _ _ _ _ _ _ (n_inN (by omega) (by omega) ?_)
          rw [hi]
          repeat (first | (refine hP _ _ _ _ _ _ ?_; show P _ _ _ _ _ _) | (refine hP _ _ _ _ _ _ (And.intro (hN _ _ _ rfl) ?_); show P _ _ (aR _ _ :: _) _ _ _) | refine hP _ _ _ _ _ _ (And.intro (fun _ => ?_) (fun hc => absurd hc (by decide))) | refine hP _ _ _ _ _ _ (And.intro (fun hc => absurd hc (by decide)) (fun _ => ?_)))
          exact hP _ _ _ _ _ _ (hK'))
        repeat (first | (refine hP _ _ _ _ _ _ ?_; show P _ _ _ _ _ _) | (refine hP _ _ _ _ _ _ (And.intro (hN _ _ _ rfl) ?_); show P _ _ (aR _ _ :: _) _ _ _) | refine hP _ _ _ _ _ _ (And.intro (fun _ => ?_) (fun hc => absurd hc (by decide))) | refine hP _ _ _ _ _ _ (And.intro (fun hc => absurd hc (by decide)) (fun _ => ?_)))
        exact hP _ _ _ _ _ _ (fin)
      | true =>
        obtain ⟨c, hc, -, rfl⟩ := isD_of hi
        repeat (first | (refine hP _ _ _ _ _ _ ?_; show P _ _ _ _ _ _) | (refine hP _ _ _ _ _ _ (And.intro (hN _ _ _ rfl) ?_); show P _ _ (aR _ _ :: _) _ _ _) | refine hP _ _ _ _ _ _ (And.intro (fun _ => ?_) (fun hc => absurd hc (by decide))) | refine hP _ _ _ _ _ _ (And.intro (fun hc => absurd hc (by decide)) (fun _ => ?_)))
        refine hP _ _ _ _ _ _ (c_put (by omega) hN a1 (by omega) a2 (by omega) ?_)
        repeat (first | (refine hP _ _ _ _ _ _ ?_; show P _ _ _ _ _ _) | (refine hP _ _ _ _ _ _ (And.intro (hN _ _ _ rfl) ?_); show P _ _ (aR _ _ :: _) _ _ _))
        have g1 : Ag (wS1 g) S (ivSet S 21 g c (nrw (sh g).1 v)) := Ag.iv ⟨rfl, Or.inr rfl⟩
        have hc1 : SHc (ivSet S 21 g c (nrw (sh g).1 v)) (upS sh g (clS (sh g) c v)) := hc0.set g1 (fun j i k z e => by simp only [wS1] at z; omega) ⟨by rw [iv_ne (by omega)]; exact a1, a2, by rw [iv_ne (by omega)]; exact a3, a4, fun k hk => by
          show _ = if k = c then nrw (sh g).1 v else (sh g).2.2 k
          by_cases e : k = c
          · rw [e, iv_at, if_pos rfl]
          · rw [iv_ne (by omega), if_neg e]
            exact a5 k hk⟩
        refine hP _ _ _ _ _ _ (hK _ _ ⟨_, rfl⟩ (by rw [g1.2]; omega) (fun d' K' hd' hK' => ?_))
        generalize ivSet S 21 g c (nrw (sh g).1 v) = S1 at g1 hc1 hK' ⊢
        have hN := hN0.up g1
        have g1w : Ag wSH S S1 := g1.mono (fun j i k z => by simp only [wS1] at z; simp only [wSH]; omega)
        have hm1 : SHm S1 sh := hm0.up (fun j i k a b => g1.1 j i k (by simp only [wS1]; omega))
        have ht1 : S1.1 55 0 g = 1 := by rw [g1.1 55 0 g (by simp [wS1])]; exact ht1
        obtain ⟨m1, m2, m3⟩ := (hm1 g hg).2 hs0
        have m0' := (hm1 g hg).1
        have hK' := hK' (ivSet S1 58 0 (40 * g + c) (nrw (sh g).1 v)) ⟨_, _, _, _, _, _, hT.sh2 g1w hc1 (Ag.iv (Or.inr ⟨by omega, by omega⟩)) (hm1.set hcl (W := mS1 g) (Ag.iv (Or.inr ⟨rfl, by omega, by omega⟩)) (fun j i k z => by simp only [mS1] at z; omega) ⟨by rw [iv_ne (by omega)]; exact m0', fun _ => ⟨by rw [iv_ne (by omega)]; exact m1, by rw [iv_ne (by omega)]; exact m2, fun k hk => by
          show _ = if k = c then nrw (sh g).1 v else (sh g).2.2 k
          by_cases e : k = c
          · rw [e, iv_at, if_pos rfl]
          · rw [iv_ne (by omega), if_neg e]
            exact m3 k hk⟩⟩)⟩
        refine Call.of (k := 199) hd' (fun e he P hP => ?_)
        repeat (first | (refine hP _ _ _ _ _ _ ?_; show P _ _ _ _ _ _) | (refine hP _ _ _ _ _ _ (And.intro (hN _ _ _ rfl) ?_); show P _ _ (aR _ _ :: _) _ _ _))
        refine hP _ _ _ _ _ _ (n_isSheet (by omega) ?_)
        rw [hx]
        repeat (first | (refine hP _ _ _ _ _ _ ?_; show P _ _ _ _ _ _) | (refine hP _ _ _ _ _ _ (And.intro (hN _ _ _ rfl) ?_); show P _ _ (aR _ _ :: _) _ _ _) | refine hP _ _ _ _ _ _ (And.intro (fun _ => ?_) (fun hc => absurd hc (by decide))) | refine hP _ _ _ _ _ _ (And.intro (fun hc => absurd hc (by decide)) (fun _ => ?_)))
        refine hP _ _ _ _ _ _ (Exists.intro (g) (And.intro (And.intro (rfl) (show g < 4 from hg)) ?_))
        rw [ht1]
        repeat (first | (refine hP _ _ _ _ _ _ ?_; show P _ _ _ _ _ _) | (refine hP _ _ _ _ _ _ (And.intro (hN _ _ _ rfl) ?_); show P _ _ (aR _ _ :: _) _ _ _) | refine hP _ _ _ _ _ _ (And.intro (fun _ => ?_) (fun hc => absurd hc (by decide))) | refine hP _ _ _ _ _ _ (And.intro (fun hc => absurd hc (by decide)) (fun _ => ?_)))
        refine hP _ _ _ _ _ _ (Exists.intro (g) (And.intro (And.intro (rfl) (show g < 4 from hg)) ?_))
        rw [m2]
        repeat (first | (refine hP _ _ _ _ _ _ ?_; show P _ _ _ _ _ _) | (refine hP _ _ _ _ _ _ (And.intro (hN _ _ _ rfl) ?_); show P _ _ (aR _ _ :: _) _ _ _))
        refine hP _ _ _ _ _ _ (n_inN (by omega) (by omega) ?_)
        rw [hi]
        repeat (first | (refine hP _ _ _ _ _ _ ?_; show P _ _ _ _ _ _) | (refine hP _ _ _ _ _ _ (And.intro (hN _ _ _ rfl) ?_); show P _ _ (aR _ _ :: _) _ _ _) | refine hP _ _ _ _ _ _ (And.intro (fun _ => ?_) (fun hc => absurd hc (by decide))) | refine hP _ _ _ _ _ _ (And.intro (fun hc => absurd hc (by decide)) (fun _ => ?_)))
        refine hP _ _ _ _ _ _ (Exists.intro (g) (And.intro (And.intro (rfl) (show g < 4 from hg)) ?_))
        rw [m1]
        rcases (show (sh g).1 = 1 ∨ (sh g).1 = 2 ∨ (sh g).1 = 3 by omega) with e1 | e1 | e1
        · rw [e1] at m1 hK' ⊢
          have hK' : K' (some (aI 1)) (ivSet S1 58 0 (40 * g + c) v.toInt8.toInt32) := hK'
          repeat (first | (refine hP _ _ _ _ _ _ ?_; show P _ _ _ _ _ _) | (refine hP _ _ _ _ _ _ (And.intro (hN _ _ _ rfl) ?_); show P _ _ (aR _ _ :: _) _ _ _) | refine hP _ _ _ _ _ _ (And.intro (fun _ => ?_) (fun hc => absurd hc (by decide))) | refine hP _ _ _ _ _ _ (And.intro (fun hc => absurd hc (by decide)) (fun _ => ?_)))
          refine hP _ _ _ _ _ _ (Exists.intro (40 * g + c) (And.intro (And.intro (jx40 g c) (by show 40 * g + c < 160; omega)) ?_))
          repeat (first | (refine hP _ _ _ _ _ _ ?_; show P _ _ _ _ _ _) | (refine hP _ _ _ _ _ _ (And.intro (hN _ _ _ rfl) ?_); show P _ _ (aR _ _ :: _) _ _ _))
          exact hP _ _ _ _ _ _ (hK')
        · rw [e1] at m1 hK' ⊢
          have hK' : K' (some (aI 1)) (ivSet S1 58 0 (40 * g + c) v.toInt16.toInt32) := hK'
          refine hP _ _ _ _ _ _ (And.intro (fun _ => ?_) (fun hc => absurd hc (by decide)))
          repeat (first | (refine hP _ _ _ _ _ _ ?_; show P _ _ _ _ _ _) | (refine hP _ _ _ _ _ _ (And.intro (hN _ _ _ rfl) ?_); show P _ _ (aR _ _ :: _) _ _ _))
          refine hP _ _ _ _ _ _ (Exists.intro (g) (And.intro (And.intro (rfl) (show g < 4 from hg)) ?_))
          rw [m1]
          repeat (first | (refine hP _ _ _ _ _ _ ?_; show P _ _ _ _ _ _) | (refine hP _ _ _ _ _ _ (And.intro (hN _ _ _ rfl) ?_); show P _ _ (aR _ _ :: _) _ _ _) | refine hP _ _ _ _ _ _ (And.intro (fun _ => ?_) (fun hc => absurd hc (by decide))) | refine hP _ _ _ _ _ _ (And.intro (fun hc => absurd hc (by decide)) (fun _ => ?_)))
          refine hP _ _ _ _ _ _ (Exists.intro (40 * g + c) (And.intro (And.intro (jx40 g c) (by show 40 * g + c < 160; omega)) ?_))
          repeat (first | (refine hP _ _ _ _ _ _ ?_; show P _ _ _ _ _ _) | (refine hP _ _ _ _ _ _ (And.intro (hN _ _ _ rfl) ?_); show P _ _ (aR _ _ :: _) _ _ _))
          exact hP _ _ _ _ _ _ (hK')
        · rw [e1] at m1 hK' ⊢
          have hK' : K' (some (aI 1)) (ivSet S1 58 0 (40 * g + c) v) := hK'
          refine hP _ _ _ _ _ _ (And.intro (fun _ => ?_) (fun hc => absurd hc (by decide)))
          repeat (first | (refine hP _ _ _ _ _ _ ?_; show P _ _ _ _ _ _) | (refine hP _ _ _ _ _ _ (And.intro (hN _ _ _ rfl) ?_); show P _ _ (aR _ _ :: _) _ _ _))
          refine hP _ _ _ _ _ _ (Exists.intro (g) (And.intro (And.intro (rfl) (show g < 4 from hg)) ?_))
          rw [m1]
          repeat (first | (refine hP _ _ _ _ _ _ ?_; show P _ _ _ _ _ _) | (refine hP _ _ _ _ _ _ (And.intro (hN _ _ _ rfl) ?_); show P _ _ (aR _ _ :: _) _ _ _) | refine hP _ _ _ _ _ _ (And.intro (fun _ => ?_) (fun hc => absurd hc (by decide))) | refine hP _ _ _ _ _ _ (And.intro (fun hc => absurd hc (by decide)) (fun _ => ?_)))
          refine hP _ _ _ _ _ _ (Exists.intro (40 * g + c) (And.intro (And.intro (jx40 g c) (by show 40 * g + c < 160; omega)) ?_))
          repeat (first | (refine hP _ _ _ _ _ _ ?_; show P _ _ _ _ _ _) | (refine hP _ _ _ _ _ _ (And.intro (hN _ _ _ rfl) ?_); show P _ _ (aR _ _ :: _) _ _ _))
          exact hP _ _ _ _ _ _ (hK')
