/-! night, force, count, feed -/
theorem n_nightx {tv : TV} {nT d : Nat} {S : St} {K : KT} {F : Fl} (hd : 1 ≤ d) (hX : MX tv nT S F) (hni : F.ni < 999) (h : ∀ S', Ag mFl S S' → HM S' (enF F) → K (some (aI (nI (sN F.dn F.n)))) S') : Call d m_X6_night [aR 40 0] S K := by
  refine Call.of (k := 0) hd (fun e he P hP => ?_)
  have hN0 := hX.1.1
  have hn5 := hX.2.2.1
  have loop : ∀ k, k ≤ F.n → ∀ S1, Ag mFl S S1 → HM S1 (z0 F k) → P 22 [some (aR 40 0), some (aI (nI (sN F.dn k))), some (aI (nI k))] [aI (S1.1 40 0 12), aI (nI k)] S1 0 0 := by
    refine dn ?_ ?_
    · intro S1 g1 hM
      have hN := hN0.up g1
      rw [show S1.1 40 0 12 = nI F.n from hM.1]
      refine hP _ _ _ _ _ _ (And.intro (fun _ => ?_) (fun hc => absurd (nI_le (Nat.le_refl _) (by omega)) hc))
      repeat (first | (refine hP _ _ _ _ _ _ ?_; show P _ _ _ _ _ _) | (refine hP _ _ _ _ _ _ (And.intro (hN _ _ _ rfl) ?_); show P _ _ (aR _ _ :: _) _ _ _))
      have e2 : S1.1 40 0 8 + 1 = nI (F.ni + 1) := by rw [hM.2.2.1, nI_1]; rfl
      show P _ _ _ (ivSet S1 40 0 8 (S1.1 40 0 8 + 1)) _ _
      rw [e2]
      repeat (first | (refine hP _ _ _ _ _ _ ?_; show P _ _ _ _ _ _) | (refine hP _ _ _ _ _ _ (And.intro (hN _ _ _ rfl) ?_); show P _ _ (aR _ _ :: _) _ _ _))
      exact hP _ _ _ _ _ _ (h _ (g1.tr (Ag.iv (by simp [mFl]))) (hM.sNi _))
    · intro k hk ih S1 g1 hM
      have hN := hN0.up g1
      rw [nI_succ] at ih
      have ed : (z0 F k).dn k = F.dn k := if_neg (Nat.lt_irrefl k)
      rw [show S1.1 40 0 12 = nI F.n from hM.1]
      refine hP _ _ _ _ _ _ (And.intro (fun hc => absurd hc (nI_ge hk (by omega))) (fun _ => ?_))
      repeat (first | (refine hP _ _ _ _ _ _ ?_; show P _ _ _ _ _ _) | (refine hP _ _ _ _ _ _ (And.intro (hN _ _ _ rfl) ?_); show P _ _ (aR _ _ :: _) _ _ _))
      refine hP _ _ _ _ _ _ (Exists.intro (2 * k + 1) (And.intro (And.intro (jx3 k) (by show _ < 10; omega)) ?_))
      rw [hM.dn (a := k) hk, ed]
      repeat (first | (refine hP _ _ _ _ _ _ ?_; show P _ _ _ _ _ _) | (refine hP _ _ _ _ _ _ (And.intro (hN _ _ _ rfl) ?_); show P _ _ (aR _ _ :: _) _ _ _))
      refine hP _ _ _ _ _ _ (Exists.intro (2 * k + 1) (And.intro (And.intro (jx3 k) (by show _ < 10; omega)) ?_))
      show P _ _ _ (ivSet S1 45 0 (2 * k + 1) (nI 0)) _ _
      have hM2 := hM.sD k 0
      rw [z0_s] at hM2
      have g2 : Ag mFl S1 (ivSet S1 45 0 (2 * k + 1) (nI 0)) := Ag.iv (by simp [mFl])
      generalize ivSet S1 45 0 (2 * k + 1) (nI 0) = S2 at hM2 g2 ⊢
      repeat (first | (refine hP _ _ _ _ _ _ ?_; show P _ _ _ _ _ _) | (refine hP _ _ _ _ _ _ (And.intro (hN _ _ _ rfl) ?_); show P _ _ (aR _ _ :: _) _ _ _))
      rw [nI_add]
      exact ih S2 (g1.tr g2) hM2
  have hN := hN0
  repeat (first | (refine hP _ _ _ _ _ _ ?_; show P _ _ _ _ _ _) | (refine hP _ _ _ _ _ _ (And.intro (hN _ _ _ rfl) ?_); show P _ _ (aR _ _ :: _) _ _ _))
  rw [hX.2.1.2.2.1]
  refine hP _ _ _ _ _ _ (And.intro (fun _ => ?_) (fun hc2 => absurd ((nI_eq (b := 999) (by omega) (by decide)).mp hc2) (by omega)))
  repeat (first | (refine hP _ _ _ _ _ _ ?_; show P _ _ _ _ _ _) | (refine hP _ _ _ _ _ _ (And.intro (hN _ _ _ rfl) ?_); show P _ _ (aR _ _ :: _) _ _ _))
  exact loop 0 (by omega) S (Ag.rf _ _) hX.2.1
theorem op_night : OpA m_X5_night m_X6_night [] isI := by
  intro d S K hd hT hK
  obtain ⟨F, I, sh, T, nT, tb, hT⟩ := hT
  have hX := hT.fx
  have hn5 := hX.2.2.1
  have hni := hT.2.1.2.2.1
  have hM0 := hT.m1 (Ag.rf wTH S)
  refine Call.of (k := 199) hd (fun e he P hP => ?_)
  have hN := hX.1.1
  repeat (first | (refine hP _ _ _ _ _ _ ?_; show P _ _ _ _ _ _) | (refine hP _ _ _ _ _ _ (And.intro (hN _ _ _ rfl) ?_); show P _ _ (aR _ _ :: _) _ _ _))
  rw [hX.2.1.2.2.1]
  refine hP _ _ _ _ _ _ (ltI (x := F.ni) (y := 999) (by omega) (by omega) (fun hc => ?_) (fun hc => ?_))
  · repeat (first | (refine hP _ _ _ _ _ _ ?_; show P _ _ _ _ _ _) | (refine hP _ _ _ _ _ _ (And.intro (hN _ _ _ rfl) ?_); show P _ _ (aR _ _ :: _) _ _ _))
    refine hP _ _ _ _ _ _ (q_endNight (by omega) hX (fun S3 g3 hX3 hr => ?_))
    have g13 : Ag wFl S S3 := g3.mono (fun j g k z => by simp only [wN3] at z; simp only [wFl]; omega)
    have z0' := hT.2.2.2.1.2.2.2.1
    have z3 : zB S3 0 F.n := ⟨fun a ha h5 => by rw [hr a ha]; exact z0'.1 a ha h5, fun a b ha hb hn => by rw [g3.1 14 0 _ (by simp [wN3])]; exact z0'.2 a b ha hb hn⟩
    repeat (first | (refine hP _ _ _ _ _ _ ?_; show P _ _ _ _ _ _) | (refine hP _ _ _ _ _ _ (And.intro (hN _ _ _ rfl) ?_); show P _ _ (aR _ _ :: _) _ _ _))
    refine hP _ _ _ _ _ _ (hK S3 _ ⟨_, rfl⟩ (by rw [g13.2]; omega) (fun d' K' hd' hK' => ?_))
    have hM := hT.m2 g13
    refine n_nightx (by omega) hM hc (fun S5 g5 hM5 => hK' S5 ⟨enF F, I, sh, T, nT, tb, ?_⟩)
    exact hT.fl2 g13 hX3.2.1 z3 g5 hM5 (hT.2.1.ch hX3.2.2 hT.2.1.2.1 (by show F.ni + 1 ≤ 999; omega) (Nat.le_refl _) (fun _ _ => rfl))
  · have h999 : F.ni = 999 := by omega
    repeat (first | (refine hP _ _ _ _ _ _ ?_; show P _ _ _ _ _ _) | (refine hP _ _ _ _ _ _ (And.intro (hN _ _ _ rfl) ?_); show P _ _ (aR _ _ :: _) _ _ _))
    refine hP _ _ _ _ _ _ (hK S _ ⟨_, rfl⟩ (by omega) (fun d' K' hd' hK' => ?_))
    refine Call.of (k := 199) hd' (fun e he P hP => ?_)
    repeat (first | (refine hP _ _ _ _ _ _ ?_; show P _ _ _ _ _ _) | (refine hP _ _ _ _ _ _ (And.intro (hN _ _ _ rfl) ?_); show P _ _ (aR _ _ :: _) _ _ _))
    rw [hM0.2.1.2.2.1]
    refine hP _ _ _ _ _ _ (And.intro (fun hc2 => absurd (by rw [h999]; rfl) hc2) (fun _ => ?_))
    repeat (first | (refine hP _ _ _ _ _ _ ?_; show P _ _ _ _ _ _) | (refine hP _ _ _ _ _ _ (And.intro (hN _ _ _ rfl) ?_); show P _ _ (aR _ _ :: _) _ _ _))
    exact hP _ _ _ _ _ _ (hK' S ⟨F, I, sh, T, nT, tb, hT⟩)
def Fl.sRu (F : Fl) (v : Nat) : Fl := mkF F.n F.rd F.ni v F.ki F.nu F.dn F.ow
theorem HF.sRu {S : St} {f : Nat} {F : Fl} (h : HF S f F) (v : Nat) : HF (ivSet S 10 f 4 (nI v)) f (F.sRu v) := by
  obtain ⟨a1, a2, a3, a4, a5, a6⟩ := h
  refine ⟨?_, ?_, ?_, iv_at, fun x hx => ⟨?_, ?_, ?_⟩, fun x y hx hy => ?_⟩
  · rw [iv_ne (by omega)]; exact a1
  · rw [iv_ne (by omega)]; exact a2
  · rw [iv_ne (by omega)]; exact a3
  · rw [iv_ne (by omega)]; exact (a5 x hx).1
  · rw [iv_ne (by omega)]; exact (a5 x hx).2.1
  · rw [iv_ne (by omega)]; exact (a5 x hx).2.2
  · rw [iv_ne (by omega)]; exact a6 x y hx hy
theorem HM.sRu {S : St} {F : Fl} (h : HM S F) (v : Nat) : HM (ivSet S 40 0 4 (nI v)) (F.sRu v) := by
  obtain ⟨a1, a2, a3, a4, a5, a6⟩ := h
  refine ⟨?_, ?_, ?_, iv_at, fun x hx => ⟨?_, ?_, ?_⟩, fun x y hx hy => ?_⟩
  · rw [iv_ne (by omega)]; exact a1
  · rw [iv_ne (by omega)]; exact a2
  · rw [iv_ne (by omega)]; exact a3
  · rw [iv_ne (by omega)]; exact (a5 x hx).1
  · rw [iv_ne (by omega)]; exact (a5 x hx).2.1
  · rw [iv_ne (by omega)]; exact (a5 x hx).2.2
  · rw [iv_ne (by omega)]; exact a6 x y hx hy
/-- in(x, 0, n - 1) for an n that is held -/
theorem n_inN {d n : Nat} {S : St} {K : KT} {x : Int32} (hd : 1 ≤ d) (hn : n ≤ 1000) (h : K (some (aI (b2 (isD n x)))) S) : Call d m_X6_in [aL x.toInt64, aL (Int64.ofNat 0), aL (nI n - 1).toInt64] S K := by
  refine n_in hd ?_
  have e : (decide (Int64.ofNat 0 ≤ x.toInt64) && decide (x.toInt64 ≤ (nI n - 1).toInt64)) = isD n x := by
    unfold isD
    have h1 : (Int64.ofNat 0 ≤ x.toInt64) ↔ 0 ≤ x := by
      rw [Int64.le_iff_toInt_le, Int32.le_iff_toInt_le, Int32.toInt_toInt64]
      rfl
    have h2 : (x.toInt64 ≤ (nI n - 1).toInt64) ↔ x < nI n := by
      rw [Int64.le_iff_toInt_le, Int32.lt_iff_toInt_lt, Int32.toInt_toInt64, Int32.toInt_toInt64, show (1 : Int32) = nI 1 from rfl, pk_sub_toInt (by omega) (by omega), nI_toInt (by omega)]
      omega
    rw [show decide (Int64.ofNat 0 ≤ x.toInt64) = decide (0 ≤ x) from decide_eq_decide.mpr h1, show decide (x.toInt64 ≤ (nI n - 1).toInt64) = decide (x < nI n) from decide_eq_decide.mpr h2]
    by_cases c1 : 0 ≤ x <;> by_cases c2 : x < nI n <;> simp [c1, c2]
  rw [e]
  exact h
/-- x is below 0, or not below n: two branches to one place; or x is one of the first n -/
theorem rng {x : Int32} {n : Nat} (hn : n < 2 ^ 31) : (isD n x = false ∧ (x < 0 ∨ (¬ x < 0 ∧ nI n ≤ x))) ∨ ∃ a, a < n ∧ isD n (nI a) = true ∧ x = nI a := by
  cases h : isD n x with
  | false =>
    left
    rcases isD_f h with h1 | h1
    · exact ⟨rfl, Or.inl h1⟩
    · by_cases h0 : x < 0
      · exact ⟨rfl, Or.inl h0⟩
      · exact ⟨rfl, Or.inr ⟨h0, h1⟩⟩
  | true =>
    right
    obtain ⟨a, ha, -, rfl⟩ := isD_of h
    exact ⟨a, ha, h, rfl⟩
theorem op_force (x : Int32) : OpA m_X5_force m_X6_force [aI x] isI := by
  intro d S K hd hT hK
  obtain ⟨F, I, sh, T, nT, tb, hT⟩ := hT
  have hX := hT.fx
  have hM0 := hT.m1 (Ag.rf wTH S)
  have hcn := hT.2.2.2.1.1.2.2.1
  have hcm := hT.2.2.2.2.1.2.2.1
  have hn6 := hT.2.2.2.1.1.2.1
  refine Call.of (k := 199) hd (fun e he P hP => ?_)
  have hN := hX.1.1
  rcases rng (x := x) (n := nT) (by omega) with ⟨hf, hx⟩ | ⟨t, ht, hf, rfl⟩
  · have fin := hK S (aI (-2)) ⟨_, rfl⟩ (by omega) (fun d' K' hd' hK' => by
      have hK' := hK' S ⟨F, I, sh, T, nT, tb, hT⟩
      refine Call.of (k := 199) hd' (fun e he P hP => ?_)
      repeat (first | (refine hP _ _ _ _ _ _ ?_; show P _ _ _ _ _ _) | (refine hP _ _ _ _ _ _ (And.intro (hN _ _ _ rfl) ?_); show P _ _ (aR _ _ :: _) _ _ _))
      rw [hcm]
      refine hP _ _ _ _ _ _ (n_inN (by omega) (by omega) ?_)
      rw [hf]
      refine hP _ _ _ _ _ _ (And.intro (fun hc => absurd rfl hc) (fun _ => ?_))
      repeat (first | (refine hP _ _ _ _ _ _ ?_; show P _ _ _ _ _ _) | (refine hP _ _ _ _ _ _ (And.intro (hN _ _ _ rfl) ?_); show P _ _ (aR _ _ :: _) _ _ _))
      exact hP _ _ _ _ _ _ (hK'))
    repeat (first | (refine hP _ _ _ _ _ _ ?_; show P _ _ _ _ _ _) | (refine hP _ _ _ _ _ _ (And.intro (hN _ _ _ rfl) ?_); show P _ _ (aR _ _ :: _) _ _ _))
    rcases hx with h0 | ⟨h0, h1⟩
    · refine hP _ _ _ _ _ _ (And.intro (fun _ => ?_) (fun hc => absurd h0 hc))
      repeat (first | (refine hP _ _ _ _ _ _ ?_; show P _ _ _ _ _ _) | (refine hP _ _ _ _ _ _ (And.intro (hN _ _ _ rfl) ?_); show P _ _ (aR _ _ :: _) _ _ _))
      exact hP _ _ _ _ _ _ (fin)
    · refine hP _ _ _ _ _ _ (And.intro (fun hc => absurd hc h0) (fun _ => ?_))
      repeat (first | (refine hP _ _ _ _ _ _ ?_; show P _ _ _ _ _ _) | (refine hP _ _ _ _ _ _ (And.intro (hN _ _ _ rfl) ?_); show P _ _ (aR _ _ :: _) _ _ _))
      rw [hcn]
      refine hP _ _ _ _ _ _ (And.intro (fun hc => absurd h1 (Int32.not_le.mpr hc)) (fun _ => ?_))
      repeat (first | (refine hP _ _ _ _ _ _ ?_; show P _ _ _ _ _ _) | (refine hP _ _ _ _ _ _ (And.intro (hN _ _ _ rfl) ?_); show P _ _ (aR _ _ :: _) _ _ _))
      exact hP _ _ _ _ _ _ (fin)
  · repeat (first | (refine hP _ _ _ _ _ _ ?_; show P _ _ _ _ _ _) | (refine hP _ _ _ _ _ _ (And.intro (hN _ _ _ rfl) ?_); show P _ _ (aR _ _ :: _) _ _ _))
    refine hP _ _ _ _ _ _ (And.intro (fun hc => absurd hc (nI_pos (by omega))) (fun _ => ?_))
    repeat (first | (refine hP _ _ _ _ _ _ ?_; show P _ _ _ _ _ _) | (refine hP _ _ _ _ _ _ (And.intro (hN _ _ _ rfl) ?_); show P _ _ (aR _ _ :: _) _ _ _))
    rw [hcn]
    refine hP _ _ _ _ _ _ (And.intro (fun _ => ?_) (fun hc => absurd (nI_lt ht (by omega)) hc))
    repeat (first | (refine hP _ _ _ _ _ _ ?_; show P _ _ _ _ _ _) | (refine hP _ _ _ _ _ _ (And.intro (hN _ _ _ rfl) ?_); show P _ _ (aR _ _ :: _) _ _ _))
    rw [hX.2.1.2.2.2.1]
    have g1 : Ag wFl S (ivSet S 10 0 4 (nI t)) := Ag.iv (by simp [wFl])
    have z1 : zB (ivSet S 10 0 4 (nI t)) 0 F.n := hT.2.2.2.1.2.2.2.1.up (W := fun j g k => j = 10) (Ag.iv rfl) (fun j k z => by omega)
    refine hP _ _ _ _ _ _ (hK (ivSet S 10 0 4 (nI t)) _ ⟨_, rfl⟩ (by rw [g1.2]; omega) (fun d' K' hd' hK' => ?_))
    have hM := hT.m2 g1
    refine Call.of (k := 199) hd' (fun e he P hP => ?_)
    have hN := hM.1.1
    repeat (first | (refine hP _ _ _ _ _ _ ?_; show P _ _ _ _ _ _) | (refine hP _ _ _ _ _ _ (And.intro (hN _ _ _ rfl) ?_); show P _ _ (aR _ _ :: _) _ _ _))
    rw [show (ivSet S 10 0 4 (nI t)).1 40 0 3 = nI nT by rw [iv_ne (by omega)]; exact hcm]
    refine hP _ _ _ _ _ _ (n_inN (by omega) (by omega) ?_)
    rw [hf]
    refine hP _ _ _ _ _ _ (And.intro (fun _ => ?_) (fun hc => absurd hc (by decide)))
    repeat (first | (refine hP _ _ _ _ _ _ ?_; show P _ _ _ _ _ _) | (refine hP _ _ _ _ _ _ (And.intro (hN _ _ _ rfl) ?_); show P _ _ (aR _ _ :: _) _ _ _))
    rw [hM.2.1.2.2.2.1]
    show P _ _ _ (ivSet (ivSet S 10 0 4 (nI t)) 40 0 4 (nI t)) _ _
    repeat (first | (refine hP _ _ _ _ _ _ ?_; show P _ _ _ _ _ _) | (refine hP _ _ _ _ _ _ (And.intro (hN _ _ _ rfl) ?_); show P _ _ (aR _ _ :: _) _ _ _))
    refine hP _ _ _ _ _ _ (hK' _ ⟨F.sRu t, I, sh, T, nT, tb, ?_⟩)
    exact hT.fl2 g1 (hX.2.1.sRu t) z1 (Ag.iv (by simp [mFl])) (hM.2.1.sRu t) (hT.2.1.ch ⟨hX.2.2.1, ht, hX.2.2.2.2.1, hX.2.2.2.2.2⟩ hT.2.1.2.1 hT.2.1.2.2.1 (Nat.le_refl _) (fun _ _ => rfl))
theorem op_count (x : Int32) : OpA m_X5_count m_X6_count [aI x] isI := by
  intro d S K hd hT hK
  obtain ⟨F, I, sh, T, nT, tb, hT⟩ := hT
  have hX := hT.fx
  have hM := hT.m1 (Ag.rf wTH S)
  have hcn := hT.2.2.2.1.1.2.2.1
  have hcm := hT.2.2.2.2.1.2.2.1
  have htc := hT.2.2.2.1.2.2.2.2.2.2.1
  have htm := hT.2.2.2.2.2.2.2.2.2.1
  refine Call.of (k := 199) hd (fun e he P hP => ?_)
  have hN := hX.1.1
  rcases rng (x := x) (n := 6) (by omega) with ⟨hf, hx⟩ | ⟨w, hw, hf, rfl⟩
  · have fin := hK S (aI (-2)) ⟨_, rfl⟩ (by omega) (fun d' K' hd' hK' => by
      have hK' := hK' S ⟨F, I, sh, T, nT, tb, hT⟩
      refine Call.of (k := 199) hd' (fun e he P hP => ?_)
      repeat (first | (refine hP _ _ _ _ _ _ ?_; show P _ _ _ _ _ _) | (refine hP _ _ _ _ _ _ (And.intro (hN _ _ _ rfl) ?_); show P _ _ (aR _ _ :: _) _ _ _))
      refine hP _ _ _ _ _ _ (n_in0 (m := 5) (by omega) (by omega) ?_)
      rw [hf]
      refine hP _ _ _ _ _ _ (And.intro (fun hc => absurd rfl hc) (fun _ => ?_))
      repeat (first | (refine hP _ _ _ _ _ _ ?_; show P _ _ _ _ _ _) | (refine hP _ _ _ _ _ _ (And.intro (hN _ _ _ rfl) ?_); show P _ _ (aR _ _ :: _) _ _ _))
      exact hP _ _ _ _ _ _ (hK'))
    have n0 : ¬ x = 0 := isD_ne hf (k := 0) (by omega) (by decide)
    have n1 : ¬ x = 1 := isD_ne hf (k := 1) (by omega) (by decide)
    have n2 : ¬ x = 2 := isD_ne hf (k := 2) (by omega) (by decide)
    have n3 : ¬ x = 3 := isD_ne hf (k := 3) (by omega) (by decide)
    have n4 : ¬ x = 4 := isD_ne hf (k := 4) (by omega) (by decide)
    have n5 : ¬ x = 5 := isD_ne hf (k := 5) (by omega) (by decide)
    repeat (first | (refine hP _ _ _ _ _ _ ?_; show P _ _ _ _ _ _) | (refine hP _ _ _ _ _ _ (And.intro (hN _ _ _ rfl) ?_); show P _ _ (aR _ _ :: _) _ _ _))
    refine hP _ _ _ _ _ _ (swP_to ?_)
    simp only [swF, n0, n1, n2, n3, n4, n5, if_false]
    repeat (first | (refine hP _ _ _ _ _ _ ?_; show P _ _ _ _ _ _) | (refine hP _ _ _ _ _ _ (And.intro (hN _ _ _ rfl) ?_); show P _ _ (aR _ _ :: _) _ _ _))
    exact hP _ _ _ _ _ _ (fin)
  · have md : ∀ (v : Int32), v = (if w = 0 then nI F.n else if w = 1 then nI (oA F) else if w = 2 then nI F.rd else if w = 3 then nI nT else if w = 4 then nI T.1 else nI F.ru) → K (some (aI v)) S := by
      intro v hv
      refine hK S _ ⟨_, rfl⟩ (by omega) (fun d' K' hd' hK' => ?_)
      have hK' := hK' S ⟨F, I, sh, T, nT, tb, hT⟩
      refine Call.of (k := 199) hd' (fun e he P hP => ?_)
      repeat (first | (refine hP _ _ _ _ _ _ ?_; show P _ _ _ _ _ _) | (refine hP _ _ _ _ _ _ (And.intro (hN _ _ _ rfl) ?_); show P _ _ (aR _ _ :: _) _ _ _))
      refine hP _ _ _ _ _ _ (n_in0 (m := 5) (by omega) (by omega) ?_)
      rw [hf]
      refine hP _ _ _ _ _ _ (And.intro (fun _ => ?_) (fun hc => absurd hc (by decide)))
      rcases (show w = 0 ∨ w = 1 ∨ w = 2 ∨ w = 3 ∨ w = 4 ∨ w = 5 by omega) with rfl | rfl | rfl | rfl | rfl | rfl
      · have hv : v = nI F.n := hv
        rw [hv] at hK'
        repeat (first | (refine hP _ _ _ _ _ _ ?_; show P _ _ _ _ _ _) | (refine hP _ _ _ _ _ _ (And.intro (hN _ _ _ rfl) ?_); show P _ _ (aR _ _ :: _) _ _ _) | refine hP _ _ _ _ _ _ (And.intro (fun _ => ?_) (fun hc => absurd hc (by decide))) | refine hP _ _ _ _ _ _ (And.intro (fun hc => absurd hc (by decide)) (fun _ => ?_)))
        rw [hM.2.1.1]
        exact hP _ _ _ _ _ _ (hK')
      · have hv : v = nI (oA F) := hv
        rw [hv] at hK'
        repeat (first | (refine hP _ _ _ _ _ _ ?_; show P _ _ _ _ _ _) | (refine hP _ _ _ _ _ _ (And.intro (hN _ _ _ rfl) ?_); show P _ _ (aR _ _ :: _) _ _ _) | refine hP _ _ _ _ _ _ (And.intro (fun _ => ?_) (fun hc => absurd hc (by decide))) | refine hP _ _ _ _ _ _ (And.intro (fun hc => absurd hc (by decide)) (fun _ => ?_)))
        refine hP _ _ _ _ _ _ (n_owedAll (by omega) hM ?_)
        repeat (first | (refine hP _ _ _ _ _ _ ?_; show P _ _ _ _ _ _) | (refine hP _ _ _ _ _ _ (And.intro (hN _ _ _ rfl) ?_); show P _ _ (aR _ _ :: _) _ _ _) | refine hP _ _ _ _ _ _ (And.intro (fun _ => ?_) (fun hc => absurd hc (by decide))) | refine hP _ _ _ _ _ _ (And.intro (fun hc => absurd hc (by decide)) (fun _ => ?_)))
        exact hP _ _ _ _ _ _ (hK')
      · have hv : v = nI F.rd := hv
        rw [hv] at hK'
        repeat (first | (refine hP _ _ _ _ _ _ ?_; show P _ _ _ _ _ _) | (refine hP _ _ _ _ _ _ (And.intro (hN _ _ _ rfl) ?_); show P _ _ (aR _ _ :: _) _ _ _) | refine hP _ _ _ _ _ _ (And.intro (fun _ => ?_) (fun hc => absurd hc (by decide))) | refine hP _ _ _ _ _ _ (And.intro (fun hc => absurd hc (by decide)) (fun _ => ?_)))
        rw [hM.2.1.2.1]
        exact hP _ _ _ _ _ _ (hK')
      · have hv : v = nI nT := hv
        rw [hv] at hK'
        repeat (first | (refine hP _ _ _ _ _ _ ?_; show P _ _ _ _ _ _) | (refine hP _ _ _ _ _ _ (And.intro (hN _ _ _ rfl) ?_); show P _ _ (aR _ _ :: _) _ _ _) | refine hP _ _ _ _ _ _ (And.intro (fun _ => ?_) (fun hc => absurd hc (by decide))) | refine hP _ _ _ _ _ _ (And.intro (fun hc => absurd hc (by decide)) (fun _ => ?_)))
        rw [hcm]
        exact hP _ _ _ _ _ _ (hK')
      · have hv : v = nI T.1 := hv
        rw [hv] at hK'
        repeat (first | (refine hP _ _ _ _ _ _ ?_; show P _ _ _ _ _ _) | (refine hP _ _ _ _ _ _ (And.intro (hN _ _ _ rfl) ?_); show P _ _ (aR _ _ :: _) _ _ _) | refine hP _ _ _ _ _ _ (And.intro (fun _ => ?_) (fun hc => absurd hc (by decide))) | refine hP _ _ _ _ _ _ (And.intro (fun hc => absurd hc (by decide)) (fun _ => ?_)))
        rw [htm]
        exact hP _ _ _ _ _ _ (hK')
      · have hv : v = nI F.ru := hv
        rw [hv] at hK'
        repeat (first | (refine hP _ _ _ _ _ _ ?_; show P _ _ _ _ _ _) | (refine hP _ _ _ _ _ _ (And.intro (hN _ _ _ rfl) ?_); show P _ _ (aR _ _ :: _) _ _ _) | refine hP _ _ _ _ _ _ (And.intro (fun _ => ?_) (fun hc => absurd hc (by decide))) | refine hP _ _ _ _ _ _ (And.intro (fun hc => absurd hc (by decide)) (fun _ => ?_)))
        rw [hM.2.1.2.2.2.1]
        exact hP _ _ _ _ _ _ (hK')
    repeat (first | (refine hP _ _ _ _ _ _ ?_; show P _ _ _ _ _ _) | (refine hP _ _ _ _ _ _ (And.intro (hN _ _ _ rfl) ?_); show P _ _ (aR _ _ :: _) _ _ _))
    refine hP _ _ _ _ _ _ (swP_to ?_)
    rcases (show w = 0 ∨ w = 1 ∨ w = 2 ∨ w = 3 ∨ w = 4 ∨ w = 5 by omega) with rfl | rfl | rfl | rfl | rfl | rfl
    · show P 40 _ _ _ _ _
      repeat (first | (refine hP _ _ _ _ _ _ ?_; show P _ _ _ _ _ _) | (refine hP _ _ _ _ _ _ (And.intro (hN _ _ _ rfl) ?_); show P _ _ (aR _ _ :: _) _ _ _))
      rw [hX.2.1.1]
      exact hP _ _ _ _ _ _ (md _ rfl)
    · show P 48 _ _ _ _ _
      repeat (first | (refine hP _ _ _ _ _ _ ?_; show P _ _ _ _ _ _) | (refine hP _ _ _ _ _ _ (And.intro (hN _ _ _ rfl) ?_); show P _ _ (aR _ _ :: _) _ _ _))
      refine hP _ _ _ _ _ _ (q_all (by omega) hX ?_)
      repeat (first | (refine hP _ _ _ _ _ _ ?_; show P _ _ _ _ _ _) | (refine hP _ _ _ _ _ _ (And.intro (hN _ _ _ rfl) ?_); show P _ _ (aR _ _ :: _) _ _ _))
      exact hP _ _ _ _ _ _ (md _ rfl)
    · show P 56 _ _ _ _ _
      repeat (first | (refine hP _ _ _ _ _ _ ?_; show P _ _ _ _ _ _) | (refine hP _ _ _ _ _ _ (And.intro (hN _ _ _ rfl) ?_); show P _ _ (aR _ _ :: _) _ _ _))
      rw [hX.2.1.2.1]
      exact hP _ _ _ _ _ _ (md _ rfl)
    · show P 64 _ _ _ _ _
      repeat (first | (refine hP _ _ _ _ _ _ ?_; show P _ _ _ _ _ _) | (refine hP _ _ _ _ _ _ (And.intro (hN _ _ _ rfl) ?_); show P _ _ (aR _ _ :: _) _ _ _))
      rw [hcn]
      exact hP _ _ _ _ _ _ (md _ rfl)
    · show P 72 _ _ _ _ _
      repeat (first | (refine hP _ _ _ _ _ _ ?_; show P _ _ _ _ _ _) | (refine hP _ _ _ _ _ _ (And.intro (hN _ _ _ rfl) ?_); show P _ _ (aR _ _ :: _) _ _ _))
      rw [htc]
      exact hP _ _ _ _ _ _ (md _ rfl)
    · show P 80 _ _ _ _ _
      repeat (first | (refine hP _ _ _ _ _ _ ?_; show P _ _ _ _ _ _) | (refine hP _ _ _ _ _ _ (And.intro (hN _ _ _ rfl) ?_); show P _ _ (aR _ _ :: _) _ _ _))
      rw [hX.2.1.2.2.2.1]
      exact hP _ _ _ _ _ _ (md _ rfl)
