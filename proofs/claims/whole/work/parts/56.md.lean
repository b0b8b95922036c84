/-! The model: who is owed, sets of twos -/
theorem shl0 (s : Int32) : (0 : Int32) <<< s = 0 := by
  apply Int32.toBitVec_inj.mp
  rw [Int32.toBitVec_shiftLeft]
  simp
theorem or0 (x : Int32) : x ||| 0 = x := by
  apply Int32.toBitVec_inj.mp
  rw [Int32.toBitVec_or]
  simp
theorem n_owedSet {tv : TV} {nT d : Nat} {S : St} {K : KT} {F : Fl} (hd : 3 ≤ d) (hX : MX tv nT S F) (h : K (some (aI (soN F F.n))) S) : Call d m_X6_owedSet [aR 40 0] S K := by
  refine Call.of (k := 2) hd (fun e he P hP => ?_)
  have hN := hX.1.1
  have hn5 := hX.2.2.1
  have loop : ∀ k, k ≤ F.n → P 9 [some (aR 40 0), some (aI (soN F k)), some (aI (nI k))] [aI (S.1 40 0 12), aI (nI k)] S 0 0 := by
    refine dn ?_ ?_
    · rw [hX.2.1.1]
      refine hP _ _ _ _ _ _ (And.intro (fun _ => ?_) (fun hc => absurd (nI_le (Nat.le_refl _) (by omega)) hc))
      repeat (first | (refine hP _ _ _ _ _ _ ?_; show P _ _ _ _ _ _) | (refine hP _ _ _ _ _ _ (And.intro (hN _ _ _ rfl) ?_); show P _ _ (aR _ _ :: _) _ _ _))
      exact hP _ _ _ _ _ _ (h)
    · intro k hk ih
      rw [nI_succ] at ih
      have hT := hX.2.2.bT hk
      rw [hX.2.1.1]
      refine hP _ _ _ _ _ _ (And.intro (fun hc => absurd hc (nI_ge hk (by omega))) (fun _ => ?_))
      repeat (first | (refine hP _ _ _ _ _ _ ?_; show P _ _ _ _ _ _) | (refine hP _ _ _ _ _ _ (And.intro (hN _ _ _ rfl) ?_); show P _ _ (aR _ _ :: _) _ _ _))
      refine hP _ _ _ _ _ _ (n_owedTo (by omega) hX hk ?_)
      repeat (first | (refine hP _ _ _ _ _ _ ?_; show P _ _ _ _ _ _) | (refine hP _ _ _ _ _ _ (And.intro (hN _ _ _ rfl) ?_); show P _ _ (aR _ _ :: _) _ _ _))
      refine hP _ _ _ _ _ _ (le0 (by omega) (fun hc => ?_) (fun hc => ?_))
      · simp only [soN, if_neg hc] at ih
        repeat (first | (refine hP _ _ _ _ _ _ ?_; show P _ _ _ _ _ _) | (refine hP _ _ _ _ _ _ (And.intro (hN _ _ _ rfl) ?_); show P _ _ (aR _ _ :: _) _ _ _))
        rw [shl0, or0]
        exact ih
      · simp only [soN, if_pos hc] at ih
        repeat (first | (refine hP _ _ _ _ _ _ ?_; show P _ _ _ _ _ _) | (refine hP _ _ _ _ _ _ (And.intro (hN _ _ _ rfl) ?_); show P _ _ (aR _ _ :: _) _ _ _))
        exact ih
  repeat (first | (refine hP _ _ _ _ _ _ ?_; show P _ _ _ _ _ _) | (refine hP _ _ _ _ _ _ (And.intro (hN _ _ _ rfl) ?_); show P _ _ (aR _ _ :: _) _ _ _))
  exact loop 0 (by omega)
theorem n_keeper {tv : TV} {nT d : Nat} {S : St} {K : KT} {F : Fl} (hd : 3 ≤ d) (hX : MX tv nT S F) (h : K (some (aI (kpN F F.n).1)) S) : Call d m_X6_keeper [aR 40 0] S K := by
  refine Call.of (k := 2) hd (fun e he P hP => ?_)
  have hN := hX.1.1
  have hn5 := hX.2.2.1
  have loop : ∀ k, k ≤ F.n → P 11 [some (aR 40 0), some (aI (kpN F k).1), some (aI (nI (kpN F k).2)), some (aI (nI k))] [aI (S.1 40 0 12), aI (nI k)] S 0 0 := by
    refine dn ?_ ?_
    · rw [hX.2.1.1]
      refine hP _ _ _ _ _ _ (And.intro (fun _ => ?_) (fun hc => absurd (nI_le (Nat.le_refl _) (by omega)) hc))
      repeat (first | (refine hP _ _ _ _ _ _ ?_; show P _ _ _ _ _ _) | (refine hP _ _ _ _ _ _ (And.intro (hN _ _ _ rfl) ?_); show P _ _ (aR _ _ :: _) _ _ _))
      exact hP _ _ _ _ _ _ (h)
    · intro k hk ih
      rw [nI_succ] at ih
      have hT := hX.2.2.bT hk
      have hK := kpN_le hX.2.2 k (by omega)
      rw [hX.2.1.1]
      refine hP _ _ _ _ _ _ (And.intro (fun hc => absurd hc (nI_ge hk (by omega))) (fun _ => ?_))
      repeat (first | (refine hP _ _ _ _ _ _ ?_; show P _ _ _ _ _ _) | (refine hP _ _ _ _ _ _ (And.intro (hN _ _ _ rfl) ?_); show P _ _ (aR _ _ :: _) _ _ _))
      refine hP _ _ _ _ _ _ (n_owedTo (by omega) hX hk ?_)
      repeat (first | (refine hP _ _ _ _ _ _ ?_; show P _ _ _ _ _ _) | (refine hP _ _ _ _ _ _ (And.intro (hN _ _ _ rfl) ?_); show P _ _ (aR _ _ :: _) _ _ _))
      refine hP _ _ _ _ _ _ (gtI (by omega) (by omega) (fun hc => ?_) (fun hc => ?_))
      · simp only [kpN, if_neg hc] at ih
        repeat (first | (refine hP _ _ _ _ _ _ ?_; show P _ _ _ _ _ _) | (refine hP _ _ _ _ _ _ (And.intro (hN _ _ _ rfl) ?_); show P _ _ (aR _ _ :: _) _ _ _))
        exact ih
      · simp only [kpN, if_pos hc] at ih
        repeat (first | (refine hP _ _ _ _ _ _ ?_; show P _ _ _ _ _ _) | (refine hP _ _ _ _ _ _ (And.intro (hN _ _ _ rfl) ?_); show P _ _ (aR _ _ :: _) _ _ _))
        refine hP _ _ _ _ _ _ (n_owedTo (by omega) hX hk ?_)
        repeat (first | (refine hP _ _ _ _ _ _ ?_; show P _ _ _ _ _ _) | (refine hP _ _ _ _ _ _ (And.intro (hN _ _ _ rfl) ?_); show P _ _ (aR _ _ :: _) _ _ _))
        exact ih
  repeat (first | (refine hP _ _ _ _ _ _ ?_; show P _ _ _ _ _ _) | (refine hP _ _ _ _ _ _ (And.intro (hN _ _ _ rfl) ?_); show P _ _ (aR _ _ :: _) _ _ _))
  exact loop 0 (by omega)
theorem n_leastOwed {tv : TV} {nT d : Nat} {S : St} {K : KT} {F : Fl} (hd : 3 ≤ d) (hX : MX tv nT S F) (h : K (some (aI (nI (ltN F)))) S) : Call d m_X6_leastOwed [aR 40 0] S K := by
  refine Call.of (k := 2) hd (fun e he P hP => ?_)
  have hN := hX.1.1
  have hn5 := hX.2.2.1
  have loop : ∀ k, k ≤ F.n → P 9 [some (aR 40 0), some (aI (nI (sN (fun a => oS F a - oT F a) k))), some (aI (nI k))] [aI (S.1 40 0 12), aI (nI k)] S 0 0 := by
    refine dn ?_ ?_
    · rw [hX.2.1.1]
      refine hP _ _ _ _ _ _ (And.intro (fun _ => ?_) (fun hc => absurd (nI_le (Nat.le_refl _) (by omega)) hc))
      repeat (first | (refine hP _ _ _ _ _ _ ?_; show P _ _ _ _ _ _) | (refine hP _ _ _ _ _ _ (And.intro (hN _ _ _ rfl) ?_); show P _ _ (aR _ _ :: _) _ _ _))
      exact hP _ _ _ _ _ _ (h)
    · intro k hk ih
      rw [nI_succ] at ih
      have hT := hX.2.2.bT hk
      have hS := hX.2.2.bS hk
      rw [hX.2.1.1]
      refine hP _ _ _ _ _ _ (And.intro (fun hc => absurd hc (nI_ge hk (by omega))) (fun _ => ?_))
      repeat (first | (refine hP _ _ _ _ _ _ ?_; show P _ _ _ _ _ _) | (refine hP _ _ _ _ _ _ (And.intro (hN _ _ _ rfl) ?_); show P _ _ (aR _ _ :: _) _ _ _))
      refine hP _ _ _ _ _ _ (n_owesOf (by omega) hX hk ?_)
      repeat (first | (refine hP _ _ _ _ _ _ ?_; show P _ _ _ _ _ _) | (refine hP _ _ _ _ _ _ (And.intro (hN _ _ _ rfl) ?_); show P _ _ (aR _ _ :: _) _ _ _))
      refine hP _ _ _ _ _ _ (n_owedTo (by omega) hX hk ?_)
      repeat (first | (refine hP _ _ _ _ _ _ ?_; show P _ _ _ _ _ _) | (refine hP _ _ _ _ _ _ (And.intro (hN _ _ _ rfl) ?_); show P _ _ (aR _ _ :: _) _ _ _))
      refine hP _ _ _ _ _ _ (n_within (by omega) ?_)
      have e : wI (nI (oS F k) - nI (oT F k)) 99999 = nI (oS F k - oT F k) := by
        unfold wI
        by_cases hlt : oS F k < oT F k
        · rw [if_pos (pk_sneg (by omega) hlt), show oS F k - oT F k = 0 by omega]
          rfl
        · rw [pk_sub (by omega), if_neg (nI_pos (by omega)), show (99999 : Int32) = nI 99999 from rfl, if_neg (nI_nlt (by omega) (by omega))]
      show P _ _ (aI (wI (nI (oS F k) - nI (oT F k)) 99999) :: _) _ _ _
      rw [e]
      repeat (first | (refine hP _ _ _ _ _ _ ?_; show P _ _ _ _ _ _) | (refine hP _ _ _ _ _ _ (And.intro (hN _ _ _ rfl) ?_); show P _ _ (aR _ _ :: _) _ _ _))
      rw [nI_add]
      exact ih
  repeat (first | (refine hP _ _ _ _ _ _ ?_; show P _ _ _ _ _ _) | (refine hP _ _ _ _ _ _ (And.intro (hN _ _ _ rfl) ?_); show P _ _ (aR _ _ :: _) _ _ _))
  exact loop 0 (by omega)
def boN (k : Nat) : Nat := [3, 5, 9, 17, 6, 10, 18, 12, 20, 24].getD k 0
theorem n_both {d k : Nat} {S : St} {K : KT} (hd : 1 ≤ d) (hk : k < 10) (h : K (some (aI (nI (boN k)))) S) : Call d m_X6_both_ [aI (nI k)] S K := by
  refine Call.of (k := 0) hd (fun e he P hP => ?_)
  rcases (show k = 0 ∨ k = 1 ∨ k = 2 ∨ k = 3 ∨ k = 4 ∨ k = 5 ∨ k = 6 ∨ k = 7 ∨ k = 8 ∨ k = 9 by omega) with rfl | rfl | rfl | rfl | rfl | rfl | rfl | rfl | rfl | rfl
  all_goals
    repeat (first | (refine hP _ _ _ _ _ _ ?_; show P _ _ _ _ _ _) | refine hP _ _ _ _ _ _ (And.intro (fun _ => ?_) (fun hc => absurd hc (by decide))) | refine hP _ _ _ _ _ _ (And.intro (fun hc => absurd hc (by decide)) (fun _ => ?_)))
    exact hP _ _ _ _ _ _ h
theorem n_lesser {d k : Nat} {S : St} {K : KT} (hd : 1 ≤ d) (hk : k < 10) (h : K (some (aI (nI (prA k)))) S) : Call d m_X6_lesser [aI (nI (boN k))] S K := by
  refine Call.of (k := 0) hd (fun e he P hP => ?_)
  rcases (show k = 0 ∨ k = 1 ∨ k = 2 ∨ k = 3 ∨ k = 4 ∨ k = 5 ∨ k = 6 ∨ k = 7 ∨ k = 8 ∨ k = 9 by omega) with rfl | rfl | rfl | rfl | rfl | rfl | rfl | rfl | rfl | rfl
  all_goals
    repeat (first | (refine hP _ _ _ _ _ _ ?_; show P _ _ _ _ _ _) | refine hP _ _ _ _ _ _ (And.intro (fun _ => ?_) (fun hc => absurd hc (by decide))) | refine hP _ _ _ _ _ _ (And.intro (fun hc => absurd hc (by decide)) (fun _ => ?_)))
    exact hP _ _ _ _ _ _ h
theorem n_greater {d k : Nat} {S : St} {K : KT} (hd : 1 ≤ d) (hk : k < 10) (h : K (some (aI (nI (prB k)))) S) : Call d m_X6_greater [aI (nI (boN k))] S K := by
  refine Call.of (k := 0) hd (fun e he P hP => ?_)
  rcases (show k = 0 ∨ k = 1 ∨ k = 2 ∨ k = 3 ∨ k = 4 ∨ k = 5 ∨ k = 6 ∨ k = 7 ∨ k = 8 ∨ k = 9 by omega) with rfl | rfl | rfl | rfl | rfl | rfl | rfl | rfl | rfl | rfl
  all_goals
    repeat (first | (refine hP _ _ _ _ _ _ ?_; show P _ _ _ _ _ _) | refine hP _ _ _ _ _ _ (And.intro (fun _ => ?_) (fun hc => absurd hc (by decide))) | refine hP _ _ _ _ _ _ (And.intro (fun hc => absurd hc (by decide)) (fun _ => ?_)))
    exact hP _ _ _ _ _ _ h
/-- is x one of the first n -/
def isD (n : Nat) (x : Int32) : Bool := decide (0 ≤ x ∧ x < nI n)
theorem n_isOne {d n : Nat} {S : St} {K : KT} {x : Int32} (hd : 2 ≤ d) (h12 : S.1 40 0 12 = nI n) (hn : n ≤ 5) (h : K (some (aI (b2 (isD n x)))) S) : Call d m_X6_isOne [aR 40 0, aI x] S K := by
  refine Call.of (k := 1) hd (fun e he P hP => ?_)
  have hN : True := trivial
  repeat (first | (refine hP _ _ _ _ _ _ ?_; show P _ _ _ _ _ _) | refine hP _ _ _ _ _ _ (And.intro (hN _ _ _ rfl) ?_))
  rw [h12]
  refine hP _ _ _ _ _ _ (n_in (by omega) ?_)
  repeat (first | (refine hP _ _ _ _ _ _ ?_; show P _ _ _ _ _ _) | refine hP _ _ _ _ _ _ (And.intro (hN _ _ _ rfl) ?_))
  have e : (decide (Int64.ofNat 0 ≤ x.toInt64) && decide (x.toInt64 ≤ (nI n - 1).toInt64)) = isD n x := by
    unfold isD
    have h1 : (Int64.ofNat 0 ≤ x.toInt64) ↔ 0 ≤ x := by
      rw [Int64.le_iff_toInt_le, Int32.le_iff_toInt_le, Int32.toInt_toInt64]
      rfl
    have h2 : (x.toInt64 ≤ (nI n - 1).toInt64) ↔ x < nI n := by
      rw [Int64.le_iff_toInt_le, Int32.lt_iff_toInt_lt, Int32.toInt_toInt64, Int32.toInt_toInt64, show (1 : Int32) = nI 1 from rfl, pk_sub_toInt (by omega) (by omega), nI_toInt (by omega)]
      omega
    rw [show decide (Int64.ofNat 0 ≤ x.toInt64) = decide (0 ≤ x) from decide_eq_decide.mpr h1, show decide (x.toInt64 ≤ (nI n - 1).toInt64) = decide (x < nI n) from decide_eq_decide.mpr h2]
    by_cases c1 : 0 ≤ x <;> by_cases c2 : x < nI n <;> simp [c1, c2]
  show P _ _ (aI (b2 (decide (Int64.ofNat 0 ≤ x.toInt64) && decide (x.toInt64 ≤ (nI n - 1).toInt64))) :: _) _ _ _
  rw [e]
  refine hP _ _ _ _ _ _ (And.intro (by cases isD n x <;> simp [b2]) h)
theorem isD_n {n k : Nat} (hk : k < 2 ^ 31) (hn : n ≤ 5) : isD n (nI k) = decide (k < n) := by
  unfold isD
  have h1 : 0 ≤ nI k := nI_pos' hk
  have h2 := nI_ltI hk (show n < 2 ^ 31 by omega)
  simp [h1, h2]
theorem n_isSet {tv : TV} {nT d i : Nat} {S : St} {K : KT} {F : Fl} (hd : 105 ≤ d) (hX : MX tv nT S F) (hi : i < 26) (h : ∀ S', Ag m0 S S' → K (some (aI (b2 (okS tv F i)))) S') : Call d m_X6_isSet [aR 40 0, aI (nI (setN i))] S K := by
  refine Call.of (k := 104) hd (fun e he P hP => ?_)
  have hn5 := hX.2.2.1
  have loop : ∀ k, k ≤ 10 → ∀ S1 x3, Ag m0 S S1 → (∀ j, j < k → sb i j = true → okN tv F j = true) → P 5 [some (aR 40 0), some (aI (nI (setN i))), some (aI (nI k)), x3] [aI 10, aI (nI k)] S1 0 0 := by
    refine dn ?_ ?_
    · intro S1 x3 g1 ha
      have h := h S1 g1
      rw [okS_iff.mpr ha] at h
      refine hP _ _ _ _ _ _ (And.intro (fun _ => ?_) (fun hc => absurd (nI_le (Nat.le_refl 10) (by decide)) hc))
      repeat (first | (refine hP _ _ _ _ _ _ ?_; show P _ _ _ _ _ _) | (refine hP _ _ _ _ _ _ (And.intro (hN _ _ _ rfl) ?_); show P _ _ (aR _ _ :: _) _ _ _))
      refine hP _ _ _ _ _ _ (And.intro (Or.inr rfl) h)
    · intro k hk ih S1 x3 g1 ha
      have hX1 := hX.sc g1
      have hN := hX1.1.1
      obtain ⟨p1, p2⟩ := pr_lt k hk
      refine hP _ _ _ _ _ _ (And.intro (fun hc => absurd hc (nI_ge (b := 10) hk (by decide))) (fun _ => ?_))
      repeat (first | (refine hP _ _ _ _ _ _ ?_; show P _ _ _ _ _ _) | (refine hP _ _ _ _ _ _ (And.intro (hN _ _ _ rfl) ?_); show P _ _ (aR _ _ :: _) _ _ _))
      refine hP _ _ _ _ _ _ (n_both (by omega) hk ?_)
      repeat (first | (refine hP _ _ _ _ _ _ ?_; show P _ _ _ _ _ _) | (refine hP _ _ _ _ _ _ (And.intro (hN _ _ _ rfl) ?_); show P _ _ (aR _ _ :: _) _ _ _))
      have no : ∀ S2, Ag m0 S S2 → sb i k = true → okN tv F k = false → P 48 [some (aR 40 0), some (aI (nI (setN i))), some (aI (nI k)), some (aI (nI (boN k)))] [] S2 0 0 := by
        intro S2 g2 hs ho
        have h := h S2 g2
        have : okS tv F i = false := by
          cases e : okS tv F i with
          | false => rfl
          | true => rw [okS_iff.mp e k hk hs] at ho; cases ho
        rw [this] at h
        repeat (first | (refine hP _ _ _ _ _ _ ?_; show P _ _ _ _ _ _) | (refine hP _ _ _ _ _ _ (And.intro (hN _ _ _ rfl) ?_); show P _ _ (aR _ _ :: _) _ _ _))
        refine hP _ _ _ _ _ _ (And.intro (Or.inl rfl) h)
      have go : ∀ S2, Ag m0 S S2 → (sb i k = true → okN tv F k = true) → P 50 [some (aR 40 0), some (aI (nI (setN i))), some (aI (nI k)), some (aI (nI (boN k)))] [] S2 0 0 := by
        intro S2 g2 ho
        have := ih S2 (some (aI (nI (boN k)))) g2 (fun j hj hs => by
          by_cases e : j = k
          · rw [e] at hs ⊢
            exact ho hs
          · exact ha j (by omega) hs)
        rw [nI_succ] at this
        repeat (first | (refine hP _ _ _ _ _ _ ?_; show P _ _ _ _ _ _) | (refine hP _ _ _ _ _ _ (And.intro (hN _ _ _ rfl) ?_); show P _ _ (aR _ _ :: _) _ _ _))
        exact this
      refine hP _ _ _ _ _ _ (And.intro (fun hc => ?_) (fun hc => ?_))
      · exact go S1 g1 (fun z => absurd ((sb_bit i hi k hk).mpr z) hc)
      · have hs : sb i k = true := (sb_bit i hi k hk).mp hc
        repeat (first | (refine hP _ _ _ _ _ _ ?_; show P _ _ _ _ _ _) | (refine hP _ _ _ _ _ _ (And.intro (hN _ _ _ rfl) ?_); show P _ _ (aR _ _ :: _) _ _ _))
        refine hP _ _ _ _ _ _ (n_greater (by omega) hk ?_)
        repeat (first | (refine hP _ _ _ _ _ _ ?_; show P _ _ _ _ _ _) | (refine hP _ _ _ _ _ _ (And.intro (hN _ _ _ rfl) ?_); show P _ _ (aR _ _ :: _) _ _ _))
        refine hP _ _ _ _ _ _ (n_isOne (by omega) hX1.2.1.1 hn5 ?_)
        rw [isD_n (by omega) hn5]
        repeat (first | (refine hP _ _ _ _ _ _ ?_; show P _ _ _ _ _ _) | (refine hP _ _ _ _ _ _ (And.intro (hN _ _ _ rfl) ?_); show P _ _ (aR _ _ :: _) _ _ _))
        refine hP _ _ _ _ _ _ (bn2 (fun hb => ?_) (fun hb => ?_))
        · have hb := of_decide_eq_false hb
          exact no S1 g1 hs (by simp [okN, hb])
        · have hb := of_decide_eq_true hb
          repeat (first | (refine hP _ _ _ _ _ _ ?_; show P _ _ _ _ _ _) | (refine hP _ _ _ _ _ _ (And.intro (hN _ _ _ rfl) ?_); show P _ _ (aR _ _ :: _) _ _ _))
          refine hP _ _ _ _ _ _ (n_lesser (by omega) hk ?_)
          repeat (first | (refine hP _ _ _ _ _ _ ?_; show P _ _ _ _ _ _) | (refine hP _ _ _ _ _ _ (And.intro (hN _ _ _ rfl) ?_); show P _ _ (aR _ _ :: _) _ _ _))
          refine hP _ _ _ _ _ _ (n_greater (by omega) hk ?_)
          repeat (first | (refine hP _ _ _ _ _ _ ?_; show P _ _ _ _ _ _) | (refine hP _ _ _ _ _ _ (And.intro (hN _ _ _ rfl) ?_); show P _ _ (aR _ _ :: _) _ _ _))
          refine hP _ _ _ _ _ _ (n_mayDance (by omega) hX1 (by omega) hb (fun S2 g2 => ?_))
          repeat (first | (refine hP _ _ _ _ _ _ ?_; show P _ _ _ _ _ _) | (refine hP _ _ _ _ _ _ (And.intro (hN _ _ _ rfl) ?_); show P _ _ (aR _ _ :: _) _ _ _))
          refine hP _ _ _ _ _ _ (bn3 (fun hm => ?_) (fun hm => ?_))
          · exact go S2 (g1.tr g2) (fun _ => by simp [okN, hb, hm])
          · have := no S2 (g1.tr g2) hs (by simp [okN, hm])
            exact this
  repeat (first | (refine hP _ _ _ _ _ _ ?_; show P _ _ _ _ _ _) | (refine hP _ _ _ _ _ _ (And.intro (hN _ _ _ rfl) ?_); show P _ _ (aR _ _ :: _) _ _ _))
  exact loop 0 (by omega) S _ (Ag.rf _ _) (fun j hj => by omega)
