/-! The model: told, lays -/
theorem isD_N {n k : Nat} (hk : k < 2 ^ 31) (hn : n < 2 ^ 31) : isD n (nI k) = decide (k < n) := by
  unfold isD
  have h1 : 0 ≤ nI k := nI_pos' hk
  have h2 := nI_ltI hk hn
  simp [h1, h2]
theorem isD_f {n : Nat} {x : Int32} (h : isD n x = false) : x < 0 ∨ nI n ≤ x := by
  simp only [isD, decide_eq_false_iff_not] at h
  by_cases h0 : x < 0
  · exact Or.inl h0
  · exact Or.inr (Int32.not_lt.mp (fun z => h ⟨Int32.not_lt.mp h0, z⟩))
theorem n_in0 {d m : Nat} {S : St} {K : KT} {x : Int32} (hd : 1 ≤ d) (hm : m < 2 ^ 30) (h : K (some (aI (b2 (isD (m + 1) x)))) S) : Call d m_X6_in [aL x.toInt64, aL (Int64.ofNat 0), aL (lN m)] S K := by
  refine n_in hd ?_
  have e : (decide (Int64.ofNat 0 ≤ x.toInt64) && decide (x.toInt64 ≤ lN m)) = isD (m + 1) x := by
    unfold isD
    have h1 : (Int64.ofNat 0 ≤ x.toInt64) ↔ 0 ≤ x := by
      rw [Int64.le_iff_toInt_le, Int32.le_iff_toInt_le, Int32.toInt_toInt64]
      rfl
    have h2 : (x.toInt64 ≤ lN m) ↔ x < nI (m + 1) := by
      rw [Int64.le_iff_toInt_le, Int32.lt_iff_toInt_lt, Int32.toInt_toInt64, lN_toInt (by omega), nI_toInt (by omega)]
      omega
    rw [show decide (Int64.ofNat 0 ≤ x.toInt64) = decide (0 ≤ x) from decide_eq_decide.mpr h1, show decide (x.toInt64 ≤ lN m) = decide (x < nI (m + 1)) from decide_eq_decide.mpr h2]
    by_cases c1 : 0 ≤ x <;> by_cases c2 : x < nI (m + 1) <;> simp [c1, c2]
  rw [e]
  exact h
def isOfB (n w : Nat) (x : Int32) : Bool := if w < 2 then true else if w = 4 then (dpx n x).isSome else isD n x
theorem n_isOf {d n w : Nat} {S : St} {K : KT} {x : Int32} (hd : 4 ≤ d) (h12 : S.1 40 0 12 = nI n) (hn : n ≤ 5) (hw : w ≤ 8) (h : K (some (aI (b2 (isOfB n w x)))) S) : Call d m_X6_isOf [aR 40 0, aI (nI w), aI x] S K := by
  refine Call.of (k := 3) hd (fun e he P hP => ?_)
  have hN : True := trivial
  unfold isOfB at h
  repeat (first | (refine hP _ _ _ _ _ _ ?_; show P _ _ _ _ _ _) | refine hP _ _ _ _ _ _ (And.intro (hN _ _ _ rfl) ?_))
  refine hP _ _ _ _ _ _ (ltI (x := w) (y := 2) (by omega) (by omega) (fun h2 => ?_) (fun h2 => ?_))
  · rw [if_pos h2] at h
    repeat (first | (refine hP _ _ _ _ _ _ ?_; show P _ _ _ _ _ _) | refine hP _ _ _ _ _ _ (And.intro (hN _ _ _ rfl) ?_))
    refine hP _ _ _ _ _ _ (And.intro (Or.inr rfl) h)
  · rw [if_neg h2] at h
    repeat (first | (refine hP _ _ _ _ _ _ ?_; show P _ _ _ _ _ _) | refine hP _ _ _ _ _ _ (And.intro (hN _ _ _ rfl) ?_))
    refine hP _ _ _ _ _ _ (And.intro (fun h4 => ?_) (fun h4 => ?_))
    · have : ¬ w = 4 := fun z => h4 (by rw [z]; rfl)
      rw [if_neg this] at h
      repeat (first | (refine hP _ _ _ _ _ _ ?_; show P _ _ _ _ _ _) | refine hP _ _ _ _ _ _ (And.intro (hN _ _ _ rfl) ?_))
      refine hP _ _ _ _ _ _ (n_isOne (by omega) h12 hn ?_)
      repeat (first | (refine hP _ _ _ _ _ _ ?_; show P _ _ _ _ _ _) | refine hP _ _ _ _ _ _ (And.intro (hN _ _ _ rfl) ?_))
      refine hP _ _ _ _ _ _ (bn2 (fun e => ?_) (fun e => ?_))
      · rw [e] at h
        repeat (first | (refine hP _ _ _ _ _ _ ?_; show P _ _ _ _ _ _) | refine hP _ _ _ _ _ _ (And.intro (hN _ _ _ rfl) ?_))
        refine hP _ _ _ _ _ _ (And.intro (Or.inl rfl) h)
      · rw [e] at h
        repeat (first | (refine hP _ _ _ _ _ _ ?_; show P _ _ _ _ _ _) | refine hP _ _ _ _ _ _ (And.intro (hN _ _ _ rfl) ?_))
        refine hP _ _ _ _ _ _ (And.intro (Or.inr rfl) h)
    · have : w = 4 := (nI_eq (b := 4) (by omega) (by decide)).mp h4
      rw [if_pos this] at h
      repeat (first | (refine hP _ _ _ _ _ _ ?_; show P _ _ _ _ _ _) | refine hP _ _ _ _ _ _ (And.intro (hN _ _ _ rfl) ?_))
      refine hP _ _ _ _ _ _ (And.intro (fun hneg => ?_) (fun hneg => ?_))
      · rw [dpx_neg hneg] at h
        repeat (first | (refine hP _ _ _ _ _ _ ?_; show P _ _ _ _ _ _) | refine hP _ _ _ _ _ _ (And.intro (hN _ _ _ rfl) ?_))
        refine hP _ _ _ _ _ _ (And.intro (Or.inl rfl) h)
      · obtain ⟨m, hm, rfl⟩ := nI_of hneg
        have e1 : nI m / 10 = nI (m / 10) := pk_div (d := 10) hm (by decide) (by decide)
        have e2 : nI m - nI m / 10 * 10 = nI (m % 10) := pk_rem (d := 10) hm (by decide) (by decide)
        rw [dpx_n hm] at h
        repeat (first | (refine hP _ _ _ _ _ _ ?_; show P _ _ _ _ _ _) | refine hP _ _ _ _ _ _ (And.intro (hN _ _ _ rfl) ?_))
        refine hP _ _ _ _ _ _ (And.intro (by decide) ?_)
        repeat (first | (refine hP _ _ _ _ _ _ ?_; show P _ _ _ _ _ _) | refine hP _ _ _ _ _ _ (And.intro (hN _ _ _ rfl) ?_))
        refine hP _ _ _ _ _ _ (And.intro (by decide) ?_)
        repeat (first | (refine hP _ _ _ _ _ _ ?_; show P _ _ _ _ _ _) | refine hP _ _ _ _ _ _ (And.intro (hN _ _ _ rfl) ?_))
        rw [e2, e1]
        refine hP _ _ _ _ _ _ (n_areTwo (by omega) h12 hn ?_)
        rw [isT_n hn (by omega) (by omega)]
        repeat (first | (refine hP _ _ _ _ _ _ ?_; show P _ _ _ _ _ _) | refine hP _ _ _ _ _ _ (And.intro (hN _ _ _ rfl) ?_))
        refine hP _ _ _ _ _ _ (bn2 (fun hb => ?_) (fun hb => ?_))
        · rw [if_neg (fun z => by simp [z.1, z.2.1, z.2.2] at hb)] at h
          repeat (first | (refine hP _ _ _ _ _ _ ?_; show P _ _ _ _ _ _) | refine hP _ _ _ _ _ _ (And.intro (hN _ _ _ rfl) ?_))
          refine hP _ _ _ _ _ _ (And.intro (Or.inl rfl) h)
        · simp only [Bool.and_eq_true, decide_eq_true_eq] at hb
          rw [if_pos hb] at h
          repeat (first | (refine hP _ _ _ _ _ _ ?_; show P _ _ _ _ _ _) | refine hP _ _ _ _ _ _ (And.intro (hN _ _ _ rfl) ?_))
          refine hP _ _ _ _ _ _ (And.intro (Or.inr rfl) h)
theorem n_placeOf {d n : Nat} {S : St} {K : KT} {x : Int32} {q : Nat × Nat} (hd : 1 ≤ d) (hq : dpx n x = some q) (h : K (some (aI (nI (5 * q.1 + q.2)))) S) : Call d m_X6_placeOf [aI x] S K := by
  refine Call.of (k := 0) hd (fun e he P hP => ?_)
  have hN : True := trivial
  by_cases hneg : x < 0
  · rw [dpx_neg hneg] at hq
    cases hq
  · obtain ⟨m, hm, rfl⟩ := nI_of hneg
    have e1 : nI m / 10 = nI (m / 10) := pk_div (d := 10) hm (by decide) (by decide)
    have e2 : nI m - nI m / 10 * 10 = nI (m % 10) := pk_rem (d := 10) hm (by decide) (by decide)
    rw [dpx_n hm] at hq
    split at hq
    · simp only [Option.some.injEq] at hq
      rw [← hq] at h
      repeat (first | (refine hP _ _ _ _ _ _ ?_; show P _ _ _ _ _ _) | refine hP _ _ _ _ _ _ (And.intro (hN _ _ _ rfl) ?_))
      refine hP _ _ _ _ _ _ (And.intro (by decide) ?_)
      repeat (first | (refine hP _ _ _ _ _ _ ?_; show P _ _ _ _ _ _) | refine hP _ _ _ _ _ _ (And.intro (hN _ _ _ rfl) ?_))
      refine hP _ _ _ _ _ _ (And.intro (by decide) ?_)
      repeat (first | (refine hP _ _ _ _ _ _ ?_; show P _ _ _ _ _ _) | refine hP _ _ _ _ _ _ (And.intro (hN _ _ _ rfl) ?_))
      rw [e2, e1, show (5 : Int32) * nI (m / 10) = nI (5 * (m / 10)) from pk_mul 5 _, nI_add]
      exact hP _ _ _ _ _ _ (h)
    · cases hq
theorem tdI_bad {tv : TV} {F : Fl} {x : Int32} {w : Nat} (hw : w ≤ 8) (h : isOfB F.n w x = false) : tdI tv F x w = -2 := by
  rcases (show w = 0 ∨ w = 1 ∨ w = 2 ∨ w = 3 ∨ w = 4 ∨ w = 5 ∨ w = 6 ∨ w = 7 ∨ w = 8 by omega) with rfl | rfl | rfl | rfl | rfl | rfl | rfl | rfl | rfl <;> simp [isOfB] at h <;> simp [tdI, h]
theorem n_told {tv : TV} {nT d w : Nat} {S : St} {K : KT} {F : Fl} {x : Int32} (hd : 104 ≤ d) (hX : MX tv nT S F) (hw : w ≤ 8) (h : ∀ S', Ag m0 S S' → K (some (aI (tdI tv F x w))) S') : Call d m_X6_told [aR 40 0, aI x, aI (nI w)] S K := by
  refine Call.of (k := 103) hd (fun e he P hP => ?_)
  have hN := hX.1.1
  have hn5 := hX.2.2.1
  have h12 := hX.2.1.1
  repeat (first | (refine hP _ _ _ _ _ _ ?_; show P _ _ _ _ _ _) | (refine hP _ _ _ _ _ _ (And.intro (hN _ _ _ rfl) ?_); show P _ _ (aR _ _ :: _) _ _ _))
  refine hP _ _ _ _ _ _ (n_in0 (m := 8) (by omega) (by omega) ?_)
  rw [isD_N (by omega) (by omega), decide_eq_true (by omega)]
  repeat (first | (refine hP _ _ _ _ _ _ ?_; show P _ _ _ _ _ _) | (refine hP _ _ _ _ _ _ (And.intro (hN _ _ _ rfl) ?_); show P _ _ (aR _ _ :: _) _ _ _) | refine hP _ _ _ _ _ _ (And.intro (fun _ => ?_) (fun hc => absurd hc (by decide))) | refine hP _ _ _ _ _ _ (And.intro (fun hc => absurd hc (by decide)) (fun _ => ?_)))
  refine hP _ _ _ _ _ _ (n_isOf (by omega) h12 hn5 hw ?_)
  repeat (first | (refine hP _ _ _ _ _ _ ?_; show P _ _ _ _ _ _) | (refine hP _ _ _ _ _ _ (And.intro (hN _ _ _ rfl) ?_); show P _ _ (aR _ _ :: _) _ _ _))
  cases ho : isOfB F.n w x with
  | false =>
    have h := h S (Ag.rf _ _)
    rw [tdI_bad hw ho] at h
    refine hP _ _ _ _ _ _ (And.intro (fun hc => absurd rfl hc) (fun _ => ?_))
    repeat (first | (refine hP _ _ _ _ _ _ ?_; show P _ _ _ _ _ _) | (refine hP _ _ _ _ _ _ (And.intro (hN _ _ _ rfl) ?_); show P _ _ (aR _ _ :: _) _ _ _))
    exact hP _ _ _ _ _ _ (h)
  | true =>
    refine hP _ _ _ _ _ _ (And.intro (fun _ => ?_) (fun hc => absurd hc (by decide)))
    rcases (show w = 0 ∨ w = 1 ∨ w = 4 ∨ (w = 2 ∨ w = 3 ∨ w = 5 ∨ w = 6 ∨ w = 7 ∨ w = 8) by omega) with rfl | rfl | rfl | hww
    · have h := h S (Ag.rf _ _)
      repeat (first | (refine hP _ _ _ _ _ _ ?_; show P _ _ _ _ _ _) | (refine hP _ _ _ _ _ _ (And.intro (hN _ _ _ rfl) ?_); show P _ _ (aR _ _ :: _) _ _ _) | refine hP _ _ _ _ _ _ (And.intro (fun _ => ?_) (fun hc => absurd hc (by decide))) | refine hP _ _ _ _ _ _ (And.intro (fun hc => absurd hc (by decide)) (fun _ => ?_)))
      rw [hX.2.1.2.1]
      exact hP _ _ _ _ _ _ (h)
    · have h := h S (Ag.rf _ _)
      repeat (first | (refine hP _ _ _ _ _ _ ?_; show P _ _ _ _ _ _) | (refine hP _ _ _ _ _ _ (And.intro (hN _ _ _ rfl) ?_); show P _ _ (aR _ _ :: _) _ _ _) | refine hP _ _ _ _ _ _ (And.intro (fun _ => ?_) (fun hc => absurd hc (by decide))) | refine hP _ _ _ _ _ _ (And.intro (fun hc => absurd hc (by decide)) (fun _ => ?_)))
      rw [hX.2.1.2.2.1]
      exact hP _ _ _ _ _ _ (h)
    · have h := h S (Ag.rf _ _)
      cases e : dpx F.n x with
      | none => simp [isOfB, e] at ho
      | some q =>
        obtain ⟨q1, q2, q3⟩ := dpx_lt e
        rw [show tdI tv F x 4 = nI (F.ow q.1 q.2) from by simp [tdI, e]] at h
        repeat (first | (refine hP _ _ _ _ _ _ ?_; show P _ _ _ _ _ _) | (refine hP _ _ _ _ _ _ (And.intro (hN _ _ _ rfl) ?_); show P _ _ (aR _ _ :: _) _ _ _) | refine hP _ _ _ _ _ _ (And.intro (fun _ => ?_) (fun hc => absurd hc (by decide))) | refine hP _ _ _ _ _ _ (And.intro (fun hc => absurd hc (by decide)) (fun _ => ?_)))
        refine hP _ _ _ _ _ _ (n_placeOf (by omega) e ?_)
        repeat (first | (refine hP _ _ _ _ _ _ ?_; show P _ _ _ _ _ _) | (refine hP _ _ _ _ _ _ (And.intro (hN _ _ _ rfl) ?_); show P _ _ (aR _ _ :: _) _ _ _))
        refine hP _ _ _ _ _ _ (Exists.intro (5 * q.1 + q.2) (And.intro (And.intro (rfl) (by show _ < 25; omega)) ?_))
        rw [hX.2.1.ow q1 q2]
        repeat (first | (refine hP _ _ _ _ _ _ ?_; show P _ _ _ _ _ _) | (refine hP _ _ _ _ _ _ (And.intro (hN _ _ _ rfl) ?_); show P _ _ (aR _ _ :: _) _ _ _))
        exact hP _ _ _ _ _ _ (h)
    · have hd' : isD F.n x = true := by rcases hww with rfl | rfl | rfl | rfl | rfl | rfl <;> simpa [isOfB] using ho
      obtain ⟨a, ha, ha2, rfl⟩ := isD_of hd'
      have hc := nI_clamp ha2
      rcases hww with rfl | rfl | rfl | rfl | rfl | rfl
      · have h := h S (Ag.rf _ _)
        rw [show tdI tv F (nI a) 2 = nI (F.nu a) from by simp [tdI, hd', hc]] at h
        repeat (first | (refine hP _ _ _ _ _ _ ?_; show P _ _ _ _ _ _) | (refine hP _ _ _ _ _ _ (And.intro (hN _ _ _ rfl) ?_); show P _ _ (aR _ _ :: _) _ _ _) | refine hP _ _ _ _ _ _ (And.intro (fun _ => ?_) (fun hc => absurd hc (by decide))) | refine hP _ _ _ _ _ _ (And.intro (fun hc => absurd hc (by decide)) (fun _ => ?_)))
        rw [show (2 : Int32) * nI a + nI 2 - 2 = nI (2 * a) by rw [show (2 : Int32) * nI a = nI (2 * a) from pk_mul 2 a, nI_add, show (2 : Int32) = nI 2 from rfl, pk_sub (by omega)]; congr 1]
        refine hP _ _ _ _ _ _ (Exists.intro (2 * a) (And.intro (And.intro (rfl) (by show _ < 10; omega)) ?_))
        rw [hX.2.1.nu ha]
        repeat (first | (refine hP _ _ _ _ _ _ ?_; show P _ _ _ _ _ _) | (refine hP _ _ _ _ _ _ (And.intro (hN _ _ _ rfl) ?_); show P _ _ (aR _ _ :: _) _ _ _))
        exact hP _ _ _ _ _ _ (h)
      · have h := h S (Ag.rf _ _)
        rw [show tdI tv F (nI a) 3 = nI (F.dn a) from by simp [tdI, hd', hc]] at h
        repeat (first | (refine hP _ _ _ _ _ _ ?_; show P _ _ _ _ _ _) | (refine hP _ _ _ _ _ _ (And.intro (hN _ _ _ rfl) ?_); show P _ _ (aR _ _ :: _) _ _ _) | refine hP _ _ _ _ _ _ (And.intro (fun _ => ?_) (fun hc => absurd hc (by decide))) | refine hP _ _ _ _ _ _ (And.intro (fun hc => absurd hc (by decide)) (fun _ => ?_)))
        rw [show (2 : Int32) * nI a + nI 3 - 2 = nI (2 * a + 1) by rw [show (2 : Int32) * nI a = nI (2 * a) from pk_mul 2 a, nI_add, show (2 : Int32) = nI 2 from rfl, pk_sub (by omega)]; congr 1]
        refine hP _ _ _ _ _ _ (Exists.intro (2 * a + 1) (And.intro (And.intro (rfl) (by show _ < 10; omega)) ?_))
        rw [hX.2.1.dn ha]
        repeat (first | (refine hP _ _ _ _ _ _ ?_; show P _ _ _ _ _ _) | (refine hP _ _ _ _ _ _ (And.intro (hN _ _ _ rfl) ?_); show P _ _ (aR _ _ :: _) _ _ _))
        exact hP _ _ _ _ _ _ (h)
      · have h := h S (Ag.rf _ _)
        rw [show tdI tv F (nI a) 5 = nI (F.ki a) from by simp [tdI, hd', hc]] at h
        repeat (first | (refine hP _ _ _ _ _ _ ?_; show P _ _ _ _ _ _) | (refine hP _ _ _ _ _ _ (And.intro (hN _ _ _ rfl) ?_); show P _ _ (aR _ _ :: _) _ _ _) | refine hP _ _ _ _ _ _ (And.intro (fun _ => ?_) (fun hc => absurd hc (by decide))) | refine hP _ _ _ _ _ _ (And.intro (fun hc => absurd hc (by decide)) (fun _ => ?_)))
        refine hP _ _ _ _ _ _ (Exists.intro (a) (And.intro (And.intro (rfl) (by show a < 5; omega)) ?_))
        rw [hX.2.1.ki ha]
        repeat (first | (refine hP _ _ _ _ _ _ ?_; show P _ _ _ _ _ _) | (refine hP _ _ _ _ _ _ (And.intro (hN _ _ _ rfl) ?_); show P _ _ (aR _ _ :: _) _ _ _))
        exact hP _ _ _ _ _ _ (h)
      · rw [show tdI tv F (nI a) 6 = nI (brN tv F a) from by simp [tdI, hd', hc]] at h
        repeat (first | (refine hP _ _ _ _ _ _ ?_; show P _ _ _ _ _ _) | (refine hP _ _ _ _ _ _ (And.intro (hN _ _ _ rfl) ?_); show P _ _ (aR _ _ :: _) _ _ _) | refine hP _ _ _ _ _ _ (And.intro (fun _ => ?_) (fun hc => absurd hc (by decide))) | refine hP _ _ _ _ _ _ (And.intro (fun hc => absurd hc (by decide)) (fun _ => ?_)))
        refine hP _ _ _ _ _ _ (n_breathOf (by omega) hX ha (fun S1 g1 => ?_))
        repeat (first | (refine hP _ _ _ _ _ _ ?_; show P _ _ _ _ _ _) | (refine hP _ _ _ _ _ _ (And.intro (hN _ _ _ rfl) ?_); show P _ _ (aR _ _ :: _) _ _ _))
        exact hP _ _ _ _ _ _ (h S1 g1)
      · have h := h S (Ag.rf _ _)
        rw [show tdI tv F (nI a) 7 = nI (oS F a) from by simp [tdI, hd', hc]] at h
        repeat (first | (refine hP _ _ _ _ _ _ ?_; show P _ _ _ _ _ _) | (refine hP _ _ _ _ _ _ (And.intro (hN _ _ _ rfl) ?_); show P _ _ (aR _ _ :: _) _ _ _) | refine hP _ _ _ _ _ _ (And.intro (fun _ => ?_) (fun hc => absurd hc (by decide))) | refine hP _ _ _ _ _ _ (And.intro (fun hc => absurd hc (by decide)) (fun _ => ?_)))
        refine hP _ _ _ _ _ _ (n_owesOf (by omega) hX ha ?_)
        repeat (first | (refine hP _ _ _ _ _ _ ?_; show P _ _ _ _ _ _) | (refine hP _ _ _ _ _ _ (And.intro (hN _ _ _ rfl) ?_); show P _ _ (aR _ _ :: _) _ _ _))
        exact hP _ _ _ _ _ _ (h)
      · have h := h S (Ag.rf _ _)
        rw [show tdI tv F (nI a) 8 = nI (oT F a) from by simp [tdI, hd', hc]] at h
        repeat (first | (refine hP _ _ _ _ _ _ ?_; show P _ _ _ _ _ _) | (refine hP _ _ _ _ _ _ (And.intro (hN _ _ _ rfl) ?_); show P _ _ (aR _ _ :: _) _ _ _) | refine hP _ _ _ _ _ _ (And.intro (fun _ => ?_) (fun hc => absurd hc (by decide))) | refine hP _ _ _ _ _ _ (And.intro (fun hc => absurd hc (by decide)) (fun _ => ?_)))
        refine hP _ _ _ _ _ _ (n_owedTo (by omega) hX ha ?_)
        repeat (first | (refine hP _ _ _ _ _ _ ?_; show P _ _ _ _ _ _) | (refine hP _ _ _ _ _ _ (And.intro (hN _ _ _ rfl) ?_); show P _ _ (aR _ _ :: _) _ _ _))
        exact hP _ _ _ _ _ _ (h)
theorem n_told_bad {d : Nat} {S : St} {K : KT} {x y : Int32} (hd : 4 ≤ d) (hy : isD 9 y = false) (h : K (some (aI (-2))) S) : Call d m_X6_told [aR 40 0, aI x, aI y] S K := by
  refine Call.of (k := 3) hd (fun e he P hP => ?_)
  have hN : True := trivial
  repeat (first | (refine hP _ _ _ _ _ _ ?_; show P _ _ _ _ _ _) | refine hP _ _ _ _ _ _ (And.intro (hN _ _ _ rfl) ?_))
  refine hP _ _ _ _ _ _ (n_in0 (m := 8) (by omega) (by omega) ?_)
  rw [hy]
  refine hP _ _ _ _ _ _ (And.intro (fun _ => ?_) (fun hc => absurd rfl hc))
  repeat (first | (refine hP _ _ _ _ _ _ ?_; show P _ _ _ _ _ _) | refine hP _ _ _ _ _ _ (And.intro (hN _ _ _ rfl) ?_))
  exact hP _ _ _ _ _ _ (h)
theorem w0_TH : ∀ j g k, w0 j g k → wTH j g k := by
  intro j g k z
  simp only [w0] at z
  simp only [wTH]
  omega
theorem op_told (x y : Int32) : OpA m_X5_told m_X6_told [aI x, aI y] isI := by
  intro d S K hd hT hK
  obtain ⟨F, I, sh, T, nT, tb, hT⟩ := hT
  cases hy : isD 9 y with
  | false =>
    refine c_told_bad (by omega) hT.fx (isD_f hy) (hK S _ ⟨_, rfl⟩ (by omega) (fun d' K' hd' hK' => ?_))
    exact n_told_bad (by omega) hy (hK' S ⟨F, I, sh, T, nT, tb, hT⟩)
  | true =>
    obtain ⟨w, hw, hw2, rfl⟩ := isD_of hy
    refine c_told (by omega) hT.fx (by omega) (fun S1 g1 => hK S1 _ ⟨_, rfl⟩ (by rw [g1.2]; omega) (fun d' K' hd' hK' => ?_))
    have g1' := g1.mono w0_TH
    refine n_told (by omega) (hT.m1 g1') (by omega) (fun S2 g2 => hK' S2 ⟨F, I, sh, T, nT, tb, hT.th2 g1' (g2.mono m0_th)⟩)
