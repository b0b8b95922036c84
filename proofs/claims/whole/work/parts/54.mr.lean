/-! The model: parts, a whole text read, text() -/
theorem m_part {d p q t : Nat} {S : St} {K : KT} {T : Tx} {N : Nat → Int32} {b : Bool} (hd : 63 ≤ d) (hN : NN S) (hM : MS S T t q 0 N) (hb : b = decide (kd T q = 200 + p))
    (h1 : ∀ S' v, Ag mL S S' → (pt T p q).1 = true → MS S' T t (pt T p q).2.2 0 N → (∀ s, ev N (pt T p q).2.1 s = some (v :: s)) → K (some (aI v)) S')
    (h0 : ∀ (S' : St) (v : Int32), Ag mL S S' → (pt T p q).1 = false → S'.1 40 0 27 = 1 → S'.1 40 0 28 = nI (bg T (pt T p q).2.2) → K (some (aI v)) S') : Call d m_X6_part [aR 40 0, aI (b2 b)] S K := by
  refine Call.of (k := 62) hd (fun e he P hP => ?_)
  have hN0 := hN
  have h160 := hM.1.1.2.1
  repeat (first | (refine hP _ _ _ _ _ _ ?_; show P _ _ _ _ _ _) | (refine hP _ _ _ _ _ _ (And.intro (hN _ _ _ rfl) ?_); show P _ _ (aR _ _ :: _) _ _ _))
  refine hP _ _ _ _ _ _ (bn3 (fun hk => ?_) (fun hk => ?_))
  · rw [hb] at hk
    have hk := of_decide_eq_true hk
    have hE : pt T p q = (bif (P7 T 4000 0 (nx T q) 0 []).1 then (if kd T (P7 T 4000 0 (nx T q) 0 []).2.2 = 59 then (true, (P7 T 4000 0 (nx T q) 0 []).2.1, nx T (P7 T 4000 0 (nx T q) 0 []).2.2) else (false, [], (P7 T 4000 0 (nx T q) 0 []).2.2)) else P7 T 4000 0 (nx T q) 0 []) := if_pos hk
    have hb2 := nx_bg (T := T) (q := q) (by omega)
    have hrk : rk 0 = 10 := rfl
    have hdp : dq 0 = 10 := rfl
    repeat (first | (refine hP _ _ _ _ _ _ ?_; show P _ _ _ _ _ _) | (refine hP _ _ _ _ _ _ (And.intro (hN _ _ _ rfl) ?_); show P _ _ (aR _ _ :: _) _ _ _))
    rw [hM.2.2.2.2.1]
    repeat (first | (refine hP _ _ _ _ _ _ ?_; show P _ _ _ _ _ _) | (refine hP _ _ _ _ _ _ (And.intro (hN _ _ _ rfl) ?_); show P _ _ (aR _ _ :: _) _ _ _) | refine hP _ _ _ _ _ _ (And.intro (fun _ => ?_) (fun hc => absurd hc (by decide))) | refine hP _ _ _ _ _ _ (And.intro (fun hc => absurd hc (by decide)) (fun _ => ?_)))
    refine hP _ _ _ _ _ _ (m_next (by omega) hN0 hM (by omega) (fun S2 g2 hM2 => ?_))
    have hN2 := hN0.up g2
    have hN := hN2
    repeat (first | (refine hP _ _ _ _ _ _ ?_; show P _ _ _ _ _ _) | (refine hP _ _ _ _ _ _ (And.intro (hN _ _ _ rfl) ?_); show P _ _ (aR _ _ :: _) _ _ _))
    rw [hM2.2.2.2.2.1]
    repeat (first | (refine hP _ _ _ _ _ _ ?_; show P _ _ _ _ _ _) | (refine hP _ _ _ _ _ _ (And.intro (hN _ _ _ rfl) ?_); show P _ _ (aR _ _ :: _) _ _ _) | refine hP _ _ _ _ _ _ (And.intro (fun _ => ?_) (fun hc => absurd hc (by decide))) | refine hP _ _ _ _ _ _ (And.intro (fun hc => absurd hc (by decide)) (fun _ => ?_)))
    refine hP _ _ _ _ _ _ (g_all T t 4000 0 (nx T q) 0 (Or.inl rfl) (by omega) (nx_le hM.2.2.1) (by omega) N e S2 _ (by omega) hN2 hM2 (fun S3 v g3 e3 hM3 hv => ?_) (fun S3 v g3 e3 e27 e28 => ?_))
    · have hN3 := hN2.up g3
      have hN := hN3
      rw [e3] at hE
      simp only [cond] at hE
      repeat (first | (refine hP _ _ _ _ _ _ ?_; show P _ _ _ _ _ _) | (refine hP _ _ _ _ _ _ (And.intro (hN _ _ _ rfl) ?_); show P _ _ (aR _ _ :: _) _ _ _))
      refine hP _ _ _ _ _ _ (m_sign (c := 59) (by omega) hM3 (by decide) ?_)
      repeat (first | (refine hP _ _ _ _ _ _ ?_; show P _ _ _ _ _ _) | (refine hP _ _ _ _ _ _ (And.intro (hN _ _ _ rfl) ?_); show P _ _ (aR _ _ :: _) _ _ _))
      refine hP _ _ _ _ _ _ (bn3 (fun hk1 => ?_) (fun hk1 => ?_))
      · have hk1 : kd T (P7 T 4000 0 (nx T q) 0 []).2.2 = 59 := of_decide_eq_true hk1
        rw [if_pos hk1] at hE
        repeat (first | (refine hP _ _ _ _ _ _ ?_; show P _ _ _ _ _ _) | (refine hP _ _ _ _ _ _ (And.intro (hN _ _ _ rfl) ?_); show P _ _ (aR _ _ :: _) _ _ _))
        rw [hM3.2.2.2.2.1]
        repeat (first | (refine hP _ _ _ _ _ _ ?_; show P _ _ _ _ _ _) | (refine hP _ _ _ _ _ _ (And.intro (hN _ _ _ rfl) ?_); show P _ _ (aR _ _ :: _) _ _ _) | refine hP _ _ _ _ _ _ (And.intro (fun _ => ?_) (fun hc => absurd hc (by decide))) | refine hP _ _ _ _ _ _ (And.intro (fun hc => absurd hc (by decide)) (fun _ => ?_)))
        refine hP _ _ _ _ _ _ (m_next (by omega) hN3 hM3 (by omega) (fun S5 g5 hM5 => ?_))
        repeat (first | (refine hP _ _ _ _ _ _ ?_; show P _ _ _ _ _ _) | (refine hP _ _ _ _ _ _ (And.intro (hN _ _ _ rfl) ?_); show P _ _ (aR _ _ :: _) _ _ _))
        exact hP _ _ _ _ _ _ (h1 S5 v (g2.tr (g3.tr g5)) (by rw [hE]) (by rw [hE]; exact hM5) (by rw [hE]; exact hv))
      · have hk1 : ¬ kd T (P7 T 4000 0 (nx T q) 0 []).2.2 = 59 := of_decide_eq_false hk1
        rw [if_neg hk1] at hE
        repeat (first | (refine hP _ _ _ _ _ _ ?_; show P _ _ _ _ _ _) | (refine hP _ _ _ _ _ _ (And.intro (hN _ _ _ rfl) ?_); show P _ _ (aR _ _ :: _) _ _ _))
        refine hP _ _ _ _ _ _ (n_fail (by omega) hM3.2.2.2.2.1 hM3.2.1.1 (fun S4 g4 e27 e28 => ?_))
        have hN := hN3.up g4
        repeat (first | (refine hP _ _ _ _ _ _ ?_; show P _ _ _ _ _ _) | (refine hP _ _ _ _ _ _ (And.intro (hN _ _ _ rfl) ?_); show P _ _ (aR _ _ :: _) _ _ _))
        rw [e27]
        repeat (first | (refine hP _ _ _ _ _ _ ?_; show P _ _ _ _ _ _) | (refine hP _ _ _ _ _ _ (And.intro (hN _ _ _ rfl) ?_); show P _ _ (aR _ _ :: _) _ _ _) | refine hP _ _ _ _ _ _ (And.intro (fun _ => ?_) (fun hc => absurd hc (by decide))) | refine hP _ _ _ _ _ _ (And.intro (fun hc => absurd hc (by decide)) (fun _ => ?_)))
        exact hP _ _ _ _ _ _ (h0 S4 v (g2.tr (g3.tr g4)) (by rw [hE]) e27 (by rw [hE]; exact e28))
    · have hN := hN2.up g3
      rw [e3] at hE
      simp only [cond] at hE
      repeat (first | (refine hP _ _ _ _ _ _ ?_; show P _ _ _ _ _ _) | (refine hP _ _ _ _ _ _ (And.intro (hN _ _ _ rfl) ?_); show P _ _ (aR _ _ :: _) _ _ _))
      refine hP _ _ _ _ _ _ (b_sign (by omega) e27 ?_)
      repeat (first | (refine hP _ _ _ _ _ _ ?_; show P _ _ _ _ _ _) | (refine hP _ _ _ _ _ _ (And.intro (hN _ _ _ rfl) ?_); show P _ _ (aR _ _ :: _) _ _ _) | refine hP _ _ _ _ _ _ (And.intro (fun _ => ?_) (fun hc => absurd hc (by decide))) | refine hP _ _ _ _ _ _ (And.intro (fun hc => absurd hc (by decide)) (fun _ => ?_)))
      refine hP _ _ _ _ _ _ (n_fail1 (by omega) e27 ?_)
      repeat (first | (refine hP _ _ _ _ _ _ ?_; show P _ _ _ _ _ _) | (refine hP _ _ _ _ _ _ (And.intro (hN _ _ _ rfl) ?_); show P _ _ (aR _ _ :: _) _ _ _))
      rw [e27]
      repeat (first | (refine hP _ _ _ _ _ _ ?_; show P _ _ _ _ _ _) | (refine hP _ _ _ _ _ _ (And.intro (hN _ _ _ rfl) ?_); show P _ _ (aR _ _ :: _) _ _ _) | refine hP _ _ _ _ _ _ (And.intro (fun _ => ?_) (fun hc => absurd hc (by decide))) | refine hP _ _ _ _ _ _ (And.intro (fun hc => absurd hc (by decide)) (fun _ => ?_)))
      exact hP _ _ _ _ _ _ (h0 S3 v (g2.tr g3) (by rw [hE]; exact e3) e27 (by rw [hE]; exact e28))
  · rw [hb] at hk
    have hk := of_decide_eq_false hk
    have hE : pt T p q = (false, [], q) := if_neg hk
    repeat (first | (refine hP _ _ _ _ _ _ ?_; show P _ _ _ _ _ _) | (refine hP _ _ _ _ _ _ (And.intro (hN _ _ _ rfl) ?_); show P _ _ (aR _ _ :: _) _ _ _))
    refine hP _ _ _ _ _ _ (n_fail (by omega) hM.2.2.2.2.1 hM.2.1.1 (fun S3 g3 e27 e28 => ?_))
    have hN := hN0.up g3
    repeat (first | (refine hP _ _ _ _ _ _ ?_; show P _ _ _ _ _ _) | (refine hP _ _ _ _ _ _ (And.intro (hN _ _ _ rfl) ?_); show P _ _ (aR _ _ :: _) _ _ _))
    rw [e27]
    repeat (first | (refine hP _ _ _ _ _ _ ?_; show P _ _ _ _ _ _) | (refine hP _ _ _ _ _ _ (And.intro (hN _ _ _ rfl) ?_); show P _ _ (aR _ _ :: _) _ _ _) | refine hP _ _ _ _ _ _ (And.intro (fun _ => ?_) (fun hc => absurd hc (by decide))) | refine hP _ _ _ _ _ _ (And.intro (fun hc => absurd hc (by decide)) (fun _ => ?_)))
    rw [e27]
    repeat (first | (refine hP _ _ _ _ _ _ ?_; show P _ _ _ _ _ _) | (refine hP _ _ _ _ _ _ (And.intro (hN _ _ _ rfl) ?_); show P _ _ (aR _ _ :: _) _ _ _) | refine hP _ _ _ _ _ _ (And.intro (fun _ => ?_) (fun hc => absurd hc (by decide))) | refine hP _ _ _ _ _ _ (And.intro (fun hc => absurd hc (by decide)) (fun _ => ?_)))
    refine hP _ _ _ _ _ _ (b_sign (by omega) e27 ?_)
    repeat (first | (refine hP _ _ _ _ _ _ ?_; show P _ _ _ _ _ _) | (refine hP _ _ _ _ _ _ (And.intro (hN _ _ _ rfl) ?_); show P _ _ (aR _ _ :: _) _ _ _) | refine hP _ _ _ _ _ _ (And.intro (fun _ => ?_) (fun hc => absurd hc (by decide))) | refine hP _ _ _ _ _ _ (And.intro (fun hc => absurd hc (by decide)) (fun _ => ?_)))
    refine hP _ _ _ _ _ _ (n_fail1 (by omega) e27 ?_)
    repeat (first | (refine hP _ _ _ _ _ _ ?_; show P _ _ _ _ _ _) | (refine hP _ _ _ _ _ _ (And.intro (hN _ _ _ rfl) ?_); show P _ _ (aR _ _ :: _) _ _ _))
    rw [e27]
    repeat (first | (refine hP _ _ _ _ _ _ ?_; show P _ _ _ _ _ _) | (refine hP _ _ _ _ _ _ (And.intro (hN _ _ _ rfl) ?_); show P _ _ (aR _ _ :: _) _ _ _) | refine hP _ _ _ _ _ _ (And.intro (fun _ => ?_) (fun hc => absurd hc (by decide))) | refine hP _ _ _ _ _ _ (And.intro (fun hc => absurd hc (by decide)) (fun _ => ?_)))
    exact hP _ _ _ _ _ _ (h0 S3 0 g3 (by rw [hE]) e27 (by rw [hE]; exact e28))
theorem n_read {d t p : Nat} {S : St} {K : KT} {T : Tx} {N : Nat → Int32} (hd : 64 ≤ d) (hN : NN S) (hT : MT0 S T t) (hs : S.1 42 0 t = nI T.1) (hp : p < 3) (hnm : ∀ k, k < 6 → S.1 40 0 (14 + k) = N k)
    (h1 : fine T = true → ∀ S', Ag mP S S' → S'.1 40 0 27 = 0 → K (some (aI (tvT T p N))) S')
    (h0 : fine T = false → ∀ (S' : St) (v : Int32), Ag mP S S' → S'.1 40 0 27 = 1 → S'.1 40 0 28 = nI (bg T (flt T)) → K (some (aI v)) S') : Call d m_X6_read [aR 40 0, aI (nI t), aI (nI p)] S K := by
  refine Call.of (k := 63) hd (fun e he P hP => ?_)
  have hN0 := hN
  have ht6 := hT.1
  have q0 := qT_le T 1
  have q1 := qT_le T 2
  have sel : ∀ (S1 : St) (v0 v1 v2 u : Int32), (u = if p = 0 then v0 else if p = 1 then v1 else v2) → K (some (aI u)) S1 → P 146 [some (aR 40 0), some (aI (nI t)), some (aI (nI p)), some (aI v0), some (aI v1), some (aI v2)] [] S1 0 0 := by
    intro S1 v0 v1 v2 u hu hK
    rcases (show p = 0 ∨ p = 1 ∨ p = 2 by omega) with rfl | rfl | rfl
    · have hu : u = v0 := hu
      repeat (first | (refine hP _ _ _ _ _ _ ?_; show P _ _ _ _ _ _) | (refine hP _ _ _ _ _ _ (And.intro (hN _ _ _ rfl) ?_); show P _ _ (aR _ _ :: _) _ _ _) | refine hP _ _ _ _ _ _ (And.intro (fun _ => ?_) (fun hc => absurd hc (by decide))) | refine hP _ _ _ _ _ _ (And.intro (fun hc => absurd hc (by decide)) (fun _ => ?_)))
      rw [← hu]
      exact hP _ _ _ _ _ _ (hK)
    · have hu : u = v1 := hu
      repeat (first | (refine hP _ _ _ _ _ _ ?_; show P _ _ _ _ _ _) | (refine hP _ _ _ _ _ _ (And.intro (hN _ _ _ rfl) ?_); show P _ _ (aR _ _ :: _) _ _ _) | refine hP _ _ _ _ _ _ (And.intro (fun _ => ?_) (fun hc => absurd hc (by decide))) | refine hP _ _ _ _ _ _ (And.intro (fun hc => absurd hc (by decide)) (fun _ => ?_)))
      rw [← hu]
      exact hP _ _ _ _ _ _ (hK)
    · have hu : u = v2 := hu
      repeat (first | (refine hP _ _ _ _ _ _ ?_; show P _ _ _ _ _ _) | (refine hP _ _ _ _ _ _ (And.intro (hN _ _ _ rfl) ?_); show P _ _ (aR _ _ :: _) _ _ _) | refine hP _ _ _ _ _ _ (And.intro (fun _ => ?_) (fun hc => absurd hc (by decide))) | refine hP _ _ _ _ _ _ (And.intro (fun hc => absurd hc (by decide)) (fun _ => ?_)))
      rw [← hu]
      exact hP _ _ _ _ _ _ (hK)
  have bad : ∀ (S1 : St) (v0 v1 v2 : Int32), Ag mP S S1 → fine T = false → S1.1 40 0 27 = 1 → S1.1 40 0 28 = nI (bg T (flt T)) → P 132 [some (aR 40 0), some (aI (nI t)), some (aI (nI p)), some (aI v0), some (aI v1), some (aI v2)] [aI (S1.1 40 0 27)] S1 0 0 := by
    intro S1 v0 v1 v2 g1 hf e27 e28
    rw [e27]
    refine hP _ _ _ _ _ _ (And.intro (fun _ => ?_) (fun hc => absurd hc (by decide)))
    exact sel S1 v0 v1 v2 _ rfl (h0 hf S1 _ g1 e27 e28)
  repeat (first | (refine hP _ _ _ _ _ _ ?_; show P _ _ _ _ _ _) | (refine hP _ _ _ _ _ _ (And.intro (hN _ _ _ rfl) ?_); show P _ _ (aR _ _ :: _) _ _ _))
  rw [show (160 : Int32) * nI t = nI (160 * t) from pk_mul 160 t]
  refine hP _ _ _ _ _ _ (Exists.intro (t) (And.intro (And.intro (rfl) (show t < 6 from ht6)) ?_))
  rw [show (ivSet S 40 0 20 (nI (160 * t))).1 42 0 t = nI T.1 by rw [iv_ne (by omega)]; exact hs]
  repeat (first | (refine hP _ _ _ _ _ _ ?_; show P _ _ _ _ _ _) | (refine hP _ _ _ _ _ _ (And.intro (hN _ _ _ rfl) ?_); show P _ _ (aR _ _ :: _) _ _ _))
  refine hP _ _ _ _ _ _ (And.intro (Or.inl rfl) ?_)
  show P _ _ _ (ivSet (ivSet (ivSet (ivSet (ivSet S 40 0 20 (nI (160 * t))) 40 0 21 (nI T.1)) 40 0 22 0) 40 0 26 0) 40 0 27 0) _ _
  generalize hS1 : ivSet (ivSet (ivSet (ivSet (ivSet S 40 0 20 (nI (160 * t))) 40 0 21 (nI T.1)) 40 0 22 0) 40 0 26 0) 40 0 27 0 = S1
  have g1 : Ag mP S S1 := by
    rw [← hS1]
    exact ((((Ag.mp (by omega) (by omega)).tr (Ag.mp (by omega) (by omega))).tr (Ag.mp (by omega) (by omega))).tr (Ag.mp (by omega) (by omega))).tr (Ag.mp (by omega) (by omega))
  have hT1 : MT1 S1 T t := by
    refine ⟨hT.up g1 (fun k => by simp [mP]), ?_, ?_⟩
    · rw [← hS1, iv_ne (by omega), iv_ne (by omega), iv_ne (by omega), iv_ne (by omega), iv_at]
    · rw [← hS1, iv_ne (by omega), iv_ne (by omega), iv_ne (by omega), iv_at]
  have e22 : S1.1 40 0 22 = nI 0 := by rw [← hS1, iv_ne (by omega), iv_ne (by omega), iv_at]; rfl
  have e26 : S1.1 40 0 26 = nI 0 := by rw [← hS1, iv_ne (by omega), iv_at]; rfl
  have e27 : S1.1 40 0 27 = 0 := by rw [← hS1, iv_at]
  have hN1 := hN0.up g1
  have hN := hN1
  repeat (first | (refine hP _ _ _ _ _ _ ?_; show P _ _ _ _ _ _) | (refine hP _ _ _ _ _ _ (And.intro (hN _ _ _ rfl) ?_); show P _ _ (aR _ _ :: _) _ _ _))
  refine hP _ _ _ _ _ _ (n_next (by omega) hN1 hT1 (Nat.zero_le _) e22 (fun S2 g2 h26 h27 hL => ?_))
  have hM2 : MS S2 T t 0 0 N := ⟨hT1.ml g2, hL, Nat.zero_le _, by rw [h26]; exact e26, by rw [h27]; exact e27, fun k hk => by rw [g2.1 40 0 _ (by simp [mL]; omega), g1.1 40 0 _ (by simp [mP]; omega)]; exact hnm k hk⟩
  have hN2 := hN1.up g2
  have hN := hN2
  repeat (first | (refine hP _ _ _ _ _ _ ?_; show P _ _ _ _ _ _) | (refine hP _ _ _ _ _ _ (And.intro (hN _ _ _ rfl) ?_); show P _ _ (aR _ _ :: _) _ _ _))
  refine hP _ _ _ _ _ _ (m_word (w := [112, 97, 121, 115]) (k := 200) (by omega) hN2 hM2 (by decide) ?_)
  repeat (first | (refine hP _ _ _ _ _ _ ?_; show P _ _ _ _ _ _) | (refine hP _ _ _ _ _ _ (And.intro (hN _ _ _ rfl) ?_); show P _ _ (aR _ _ :: _) _ _ _))
  refine hP _ _ _ _ _ _ (m_part (p := 0) (by omega) hN2 hM2 rfl (fun S3 v0 g3 e3 hM3 hv0 => ?_) (fun S3 v0 g3 e3 b27 b28 => ?_))
  · have hN3 := hN2.up g3
    have hN := hN3
    have z0 : (ptc T 0).1 = true := e3
    repeat (first | (refine hP _ _ _ _ _ _ ?_; show P _ _ _ _ _ _) | (refine hP _ _ _ _ _ _ (And.intro (hN _ _ _ rfl) ?_); show P _ _ (aR _ _ :: _) _ _ _))
    rw [hM3.2.2.2.2.1]
    repeat (first | (refine hP _ _ _ _ _ _ ?_; show P _ _ _ _ _ _) | (refine hP _ _ _ _ _ _ (And.intro (hN _ _ _ rfl) ?_); show P _ _ (aR _ _ :: _) _ _ _) | refine hP _ _ _ _ _ _ (And.intro (fun _ => ?_) (fun hc => absurd hc (by decide))) | refine hP _ _ _ _ _ _ (And.intro (fun hc => absurd hc (by decide)) (fun _ => ?_)))
    refine hP _ _ _ _ _ _ (m_word (w := [119, 105, 108, 108, 115]) (k := 201) (by omega) hN3 hM3 (by decide) ?_)
    repeat (first | (refine hP _ _ _ _ _ _ ?_; show P _ _ _ _ _ _) | (refine hP _ _ _ _ _ _ (And.intro (hN _ _ _ rfl) ?_); show P _ _ (aR _ _ :: _) _ _ _))
    refine hP _ _ _ _ _ _ (m_part (p := 1) (by omega) hN3 hM3 rfl (fun S5 v1 g5 e5 hM5 hv1 => ?_) (fun S5 v1 g5 e5 b27 b28 => ?_))
    · have hN5 := hN3.up g5
      have hN := hN5
      have z1 : (ptc T 1).1 = true := e5
      repeat (first | (refine hP _ _ _ _ _ _ ?_; show P _ _ _ _ _ _) | (refine hP _ _ _ _ _ _ (And.intro (hN _ _ _ rfl) ?_); show P _ _ (aR _ _ :: _) _ _ _))
      rw [hM5.2.2.2.2.1]
      repeat (first | (refine hP _ _ _ _ _ _ ?_; show P _ _ _ _ _ _) | (refine hP _ _ _ _ _ _ (And.intro (hN _ _ _ rfl) ?_); show P _ _ (aR _ _ :: _) _ _ _) | refine hP _ _ _ _ _ _ (And.intro (fun _ => ?_) (fun hc => absurd hc (by decide))) | refine hP _ _ _ _ _ _ (And.intro (fun hc => absurd hc (by decide)) (fun _ => ?_)))
      refine hP _ _ _ _ _ _ (m_word (w := [98, 114, 101, 97, 116, 104]) (k := 202) (by omega) hN5 hM5 (by decide) ?_)
      repeat (first | (refine hP _ _ _ _ _ _ ?_; show P _ _ _ _ _ _) | (refine hP _ _ _ _ _ _ (And.intro (hN _ _ _ rfl) ?_); show P _ _ (aR _ _ :: _) _ _ _))
      refine hP _ _ _ _ _ _ (m_part (p := 2) (by omega) hN5 hM5 rfl (fun S7 v2 g7 e7 hM7 hv2 => ?_) (fun S7 v2 g7 e7 b27 b28 => ?_))
      · have hN7 := hN5.up g7
        have hN := hN7
        have z2 : (ptc T 2).1 = true := e7
        have g17 : Ag mP S S7 := g1.tr ((g2.tr (g3.tr (g5.tr g7))).mono mL_P)
        have hflt : flt T = qT T 3 := by simp [flt, z0, z1]
        repeat (first | (refine hP _ _ _ _ _ _ ?_; show P _ _ _ _ _ _) | (refine hP _ _ _ _ _ _ (And.intro (hN _ _ _ rfl) ?_); show P _ _ (aR _ _ :: _) _ _ _))
        rw [hM7.2.2.2.2.1]
        repeat (first | (refine hP _ _ _ _ _ _ ?_; show P _ _ _ _ _ _) | (refine hP _ _ _ _ _ _ (And.intro (hN _ _ _ rfl) ?_); show P _ _ (aR _ _ :: _) _ _ _) | refine hP _ _ _ _ _ _ (And.intro (fun _ => ?_) (fun hc => absurd hc (by decide))) | refine hP _ _ _ _ _ _ (And.intro (fun hc => absurd hc (by decide)) (fun _ => ?_)))
        rw [show S7.1 40 0 23 = nI (tkM T (qT T 3)) from hM7.2.1.2.1]
        have htk := tk_le T (qT T 3)
        refine hP _ _ _ _ _ _ (And.intro (fun hx => ?_) (fun hx => ?_))
        · have hk : kd T (qT T 3) = 0 := kd_end.mp ((nI_eq (b := 0) (by omega) (by omega)).mp hx)
          have hf : fine T = true := fine_of z0 z1 z2 hk
          refine sel S7 v0 v1 v2 (tvT T p N) ?_ (h1 hf S7 g17 hM7.2.2.2.2.1)
          rcases (show p = 0 ∨ p = 1 ∨ p = 2 by omega) with rfl | rfl | rfl
          · exact tvT_eq hv0
          · exact tvT_eq hv1
          · exact tvT_eq hv2
        · have hk : ¬ kd T (qT T 3) = 0 := fun z => hx (by rw [kd_end.mpr z]; rfl)
          have hf : fine T = false := by simp [fine, hk]
          repeat (first | (refine hP _ _ _ _ _ _ ?_; show P _ _ _ _ _ _) | (refine hP _ _ _ _ _ _ (And.intro (hN _ _ _ rfl) ?_); show P _ _ (aR _ _ :: _) _ _ _))
          refine hP _ _ _ _ _ _ (n_fail (by omega) hM7.2.2.2.2.1 hM7.2.1.1 (fun S8 g8 b27 b28 => ?_))
          exact sel S8 v0 v1 v2 _ rfl (h0 hf S8 _ (g17.tr (g8.mono mL_P)) b27 (by rw [hflt]; exact b28))
      · have hN := hN5.up g7
        have hf : fine T = false := by
          have : (ptc T 2).1 = false := e7
          simp [fine, this]
        repeat (first | (refine hP _ _ _ _ _ _ ?_; show P _ _ _ _ _ _) | (refine hP _ _ _ _ _ _ (And.intro (hN _ _ _ rfl) ?_); show P _ _ (aR _ _ :: _) _ _ _))
        refine bad S7 v0 v1 v2 (g1.tr ((g2.tr (g3.tr (g5.tr g7))).mono mL_P)) hf b27 ?_
        rw [b28]
        simp only [flt, z0, z1, cond]
        rfl
    · have hN := hN3.up g5
      have z1 : (ptc T 1).1 = false := e5
      have hf : fine T = false := by simp [fine, z1]
      repeat (first | (refine hP _ _ _ _ _ _ ?_; show P _ _ _ _ _ _) | (refine hP _ _ _ _ _ _ (And.intro (hN _ _ _ rfl) ?_); show P _ _ (aR _ _ :: _) _ _ _))
      rw [b27]
      repeat (first | (refine hP _ _ _ _ _ _ ?_; show P _ _ _ _ _ _) | (refine hP _ _ _ _ _ _ (And.intro (hN _ _ _ rfl) ?_); show P _ _ (aR _ _ :: _) _ _ _) | refine hP _ _ _ _ _ _ (And.intro (fun _ => ?_) (fun hc => absurd hc (by decide))) | refine hP _ _ _ _ _ _ (And.intro (fun hc => absurd hc (by decide)) (fun _ => ?_)))
      refine bad S5 v0 v1 0 (g1.tr ((g2.tr (g3.tr g5)).mono mL_P)) hf b27 ?_
      rw [b28]
      simp only [flt, z0, z1, cond]
      rfl
  · have hN := hN2.up g3
    have z0 : (ptc T 0).1 = false := e3
    have hf : fine T = false := by simp [fine, z0]
    repeat (first | (refine hP _ _ _ _ _ _ ?_; show P _ _ _ _ _ _) | (refine hP _ _ _ _ _ _ (And.intro (hN _ _ _ rfl) ?_); show P _ _ (aR _ _ :: _) _ _ _))
    rw [b27]
    repeat (first | (refine hP _ _ _ _ _ _ ?_; show P _ _ _ _ _ _) | (refine hP _ _ _ _ _ _ (And.intro (hN _ _ _ rfl) ?_); show P _ _ (aR _ _ :: _) _ _ _) | refine hP _ _ _ _ _ _ (And.intro (fun _ => ?_) (fun hc => absurd hc (by decide))) | refine hP _ _ _ _ _ _ (And.intro (fun hc => absurd hc (by decide)) (fun _ => ?_)))
    rw [b27]
    repeat (first | (refine hP _ _ _ _ _ _ ?_; show P _ _ _ _ _ _) | (refine hP _ _ _ _ _ _ (And.intro (hN _ _ _ rfl) ?_); show P _ _ (aR _ _ :: _) _ _ _) | refine hP _ _ _ _ _ _ (And.intro (fun _ => ?_) (fun hc => absurd hc (by decide))) | refine hP _ _ _ _ _ _ (And.intro (fun hc => absurd hc (by decide)) (fun _ => ?_)))
    refine bad S3 v0 0 0 (g1.tr ((g2.tr g3).mono mL_P)) hf b27 ?_
    rw [b28]
    simp only [flt, z0, cond]
    rfl
def MTC (S : St) (nT : Nat) (tb : Nat → Tx) : Prop := 1 ≤ nT ∧ nT ≤ 6 ∧ S.1 40 0 3 = nI nT ∧ ∀ t, t < nT → fine (tb t) = true ∧ MT0 S (tb t) t ∧ S.1 42 0 t = nI (tb t).1
theorem RM_of {S : St} {nT : Nat} {tb : Nat → Tx} (hN : NN S) (h : MTC S nT tb) : RM S nT (tvG tb) := by
  intro d S1 K t p N hd e41 e42 e2 ht hp hnm hK
  obtain ⟨f1, f2, f3⟩ := h.2.2.2 t ht
  have hN1 : NN S1 := fun j g k hj => by rw [e2]; exact hN j g k hj
  refine n_read (T := tb t) (by omega) hN1 ⟨f2.1, f2.2.1, fun k hk => by rw [e41]; exact f2.2.2 k hk⟩ (by rw [e42]; exact f3) hp hnm (fun _ S' g _ => hK S' (g.mono mP_0)) (fun hf => by rw [f1] at hf; cases hf)
/-- what text() may change in the model -/
def mTx (n : Nat) : WW := fun j _ k => (j = 40 ∧ (20 ≤ k ∧ k ≤ 28 ∨ k = 3 ∨ k = 6)) ∨ (j = 41 ∧ 160 * n ≤ k) ∨ (j = 42 ∧ k = n)
theorem mP_x (n : Nat) : ∀ j g k, mP j g k → mTx n j g k := by
  intro j g k h
  simp only [mP] at h
  simp only [mTx]
  omega
theorem MTC.tx {S S' : St} {nT : Nat} {tb : Nat → Tx} (h : MTC S nT tb) (h1 : Ag (mTx nT) S S') : ∀ t, t < nT → fine (tb t) = true ∧ MT0 S' (tb t) t ∧ S'.1 42 0 t = nI (tb t).1 := by
  intro t ht
  obtain ⟨f1, f2, f3⟩ := h.2.2.2 t ht
  have h160 := f2.2.1
  refine ⟨f1, ⟨f2.1, f2.2.1, fun k hk => ?_⟩, ?_⟩
  · rw [h1.1 41 0 _ (by simp only [mTx]; omega)]
    exact f2.2.2 k hk
  · rw [h1.1 42 0 t (by simp only [mTx]; omega)]
    exact f3
theorem n_text {d nT : Nat} {S : St} {K : KT} {T : Tx} {tb : Nat → Tx} (hd : 65 ≤ d) (hN : NN S) (hX : MTC S nT tb) (h160 : T.1 ≤ 160) (h6 : S.1 40 0 6 = nI T.1) (htp : ∀ k, k < T.1 → S.1 43 0 k = nI (T.2 k) ∧ T.2 k ≤ 255)
    (hF : nT = 6 → K (some (aI (-4))) S)
    (h0 : nT < 6 → fine T = false → ∀ S', Ag (mTx nT) S S' → S'.1 40 0 6 = nI 0 → MTC S' nT tb → K (some (aI (-100 - nI (bg T (flt T))))) S')
    (h1 : nT < 6 → fine T = true → ∀ S', Ag (mTx nT) S S' → S'.1 40 0 6 = nI 0 → MTC S' (nT + 1) (upT tb nT T) → K (some (aI (nI nT))) S') : Call d m_X6_text [aR 40 0] S K := by
  refine Call.of (k := 64) hd (fun e he P hP => ?_)
  have hN0 := hN
  obtain ⟨x1, x2, x3, x4⟩ := id hX
  repeat (first | (refine hP _ _ _ _ _ _ ?_; show P _ _ _ _ _ _) | (refine hP _ _ _ _ _ _ (And.intro (hN _ _ _ rfl) ?_); show P _ _ (aR _ _ :: _) _ _ _))
  rw [x3]
  refine hP _ _ _ _ _ _ (And.intro (fun hc => ?_) (fun hc => ?_))
  · have hlt : nT < 6 := by
      rcases Nat.lt_or_ge nT 6 with z | z
      · exact z
      · exact absurd (by rw [show nT = 6 by omega]; rfl) hc
    have loop : ∀ i, i ≤ T.1 → ∀ S1, Ag (mTx nT) S S1 → S1.1 40 0 6 = nI T.1 → S1.1 40 0 3 = nI nT → (∀ k, k < i → S1.1 41 0 (160 * nT + k) = nI (T.2 k)) → P 19 [some (aR 40 0), some (aI (nI i))] [aI (S1.1 40 0 6), aI (nI i)] S1 0 0 := by
      refine dn ?_ ?_
      · intro S1 g1 a6 a3 ac
        have hN := hN0.up g1
        rw [a6]
        refine hP _ _ _ _ _ _ (And.intro (fun _ => ?_) (fun hc => absurd (nI_le (Nat.le_refl _) (by omega)) hc))
        repeat (first | (refine hP _ _ _ _ _ _ ?_; show P _ _ _ _ _ _) | (refine hP _ _ _ _ _ _ (And.intro (hN _ _ _ rfl) ?_); show P _ _ (aR _ _ :: _) _ _ _))
        rw [a3, a6]
        refine hP _ _ _ _ _ _ (Exists.intro (nT) (And.intro (And.intro (rfl) (show nT < 6 from hlt)) ?_))
        show P _ _ _ (ivSet S1 42 0 nT (nI T.1)) _ _
        repeat (first | (refine hP _ _ _ _ _ _ ?_; show P _ _ _ _ _ _) | (refine hP _ _ _ _ _ _ (And.intro (hN _ _ _ rfl) ?_); show P _ _ (aR _ _ :: _) _ _ _))
        show P _ _ _ (ivSet (ivSet S1 42 0 nT (nI T.1)) 40 0 6 0) _ _
        have g2 : Ag (mTx nT) S (ivSet (ivSet S1 42 0 nT (nI T.1)) 40 0 6 0) := (g1.tr (Ag.iv (by simp [mTx]))).tr (Ag.iv (by simp [mTx]))
        have c6 : (ivSet (ivSet S1 42 0 nT (nI T.1)) 40 0 6 0).1 40 0 6 = nI 0 := iv_at
        have c3 : (ivSet (ivSet S1 42 0 nT (nI T.1)) 40 0 6 0).1 40 0 3 = nI nT := by rw [iv_ne (by omega), iv_ne (by omega)]; exact a3
        have cs : (ivSet (ivSet S1 42 0 nT (nI T.1)) 40 0 6 0).1 42 0 nT = nI T.1 := by rw [iv_ne (by omega)]; exact iv_at
        have cc : ∀ k, k < T.1 → (ivSet (ivSet S1 42 0 nT (nI T.1)) 40 0 6 0).1 41 0 (160 * nT + k) = nI (T.2 k) := fun k hk => by rw [iv_ne (by omega), iv_ne (by omega)]; exact ac k hk
        generalize ivSet (ivSet S1 42 0 nT (nI T.1)) 40 0 6 0 = S2 at g2 c6 c3 cs cc ⊢
        have hN2 := hN0.up g2
        have hN := hN2
        repeat (first | (refine hP _ _ _ _ _ _ ?_; show P _ _ _ _ _ _) | (refine hP _ _ _ _ _ _ (And.intro (hN _ _ _ rfl) ?_); show P _ _ (aR _ _ :: _) _ _ _))
        rw [c3]
        refine hP _ _ _ _ _ _ (n_read (T := T) (p := 0) (N := fun k => S2.1 40 0 (14 + k)) (by omega) hN2 ⟨hlt, h160, fun k hk => ⟨cc k hk, (htp k hk).2⟩⟩ cs (by omega) (fun k _ => rfl) (fun hf S3 g3 e27 => ?_) (fun hf S3 v g3 e27 e28 => ?_))
        · have hN := hN2.up g3
          have g13 : Ag (mTx nT) S S3 := g2.tr (g3.mono (mP_x nT))
          repeat (first | (refine hP _ _ _ _ _ _ ?_; show P _ _ _ _ _ _) | (refine hP _ _ _ _ _ _ (And.intro (hN _ _ _ rfl) ?_); show P _ _ (aR _ _ :: _) _ _ _))
          rw [e27]
          repeat (first | (refine hP _ _ _ _ _ _ ?_; show P _ _ _ _ _ _) | (refine hP _ _ _ _ _ _ (And.intro (hN _ _ _ rfl) ?_); show P _ _ (aR _ _ :: _) _ _ _) | refine hP _ _ _ _ _ _ (And.intro (fun _ => ?_) (fun hc => absurd hc (by decide))) | refine hP _ _ _ _ _ _ (And.intro (fun hc => absurd hc (by decide)) (fun _ => ?_)))
          rw [show S3.1 40 0 3 = nI nT by rw [g3.1 40 0 3 (by simp [mP])]; exact c3, nI_1]
          show P _ _ _ (ivSet S3 40 0 3 (nI (nT + 1))) _ _
          repeat (first | (refine hP _ _ _ _ _ _ ?_; show P _ _ _ _ _ _) | (refine hP _ _ _ _ _ _ (And.intro (hN _ _ _ rfl) ?_); show P _ _ (aR _ _ :: _) _ _ _))
          show P _ _ [aI ((ivSet S3 40 0 3 (nI (nT + 1))).1 40 0 3 - 1)] _ _ _
          rw [iv_at, nI_pred]
          have g14 : Ag (mTx nT) S (ivSet S3 40 0 3 (nI (nT + 1))) := g13.tr (Ag.iv (by simp [mTx]))
          refine hP _ _ _ _ _ _ (h1 hlt hf _ g14 ?_ ⟨by omega, by omega, iv_at, fun t ht => ?_⟩)
          · rw [iv_ne (by omega), g3.1 40 0 6 (by simp [mP])]
            exact c6
          · by_cases et : t = nT
            · subst et
              rw [show upT tb t T t = T from if_pos rfl]
              refine ⟨hf, ⟨hlt, h160, fun k hk => ⟨?_, (htp k hk).2⟩⟩, ?_⟩
              · rw [iv_ne (by omega), g3.1 41 0 _ (by simp [mP])]
                exact cc k hk
              · rw [iv_ne (by omega), g3.1 42 0 _ (by simp [mP])]
                exact cs
            · rw [show upT tb nT T t = tb t from if_neg et]
              exact hX.tx g14 t (by omega)
        · have hN := hN2.up g3
          have g13 : Ag (mTx nT) S S3 := g2.tr (g3.mono (mP_x nT))
          repeat (first | (refine hP _ _ _ _ _ _ ?_; show P _ _ _ _ _ _) | (refine hP _ _ _ _ _ _ (And.intro (hN _ _ _ rfl) ?_); show P _ _ (aR _ _ :: _) _ _ _))
          rw [e27]
          repeat (first | (refine hP _ _ _ _ _ _ ?_; show P _ _ _ _ _ _) | (refine hP _ _ _ _ _ _ (And.intro (hN _ _ _ rfl) ?_); show P _ _ (aR _ _ :: _) _ _ _) | refine hP _ _ _ _ _ _ (And.intro (fun _ => ?_) (fun hc => absurd hc (by decide))) | refine hP _ _ _ _ _ _ (And.intro (fun hc => absurd hc (by decide)) (fun _ => ?_)))
          rw [e28]
          exact hP _ _ _ _ _ _ (h0 hlt hf S3 g13 (by rw [g3.1 40 0 6 (by simp [mP])]; exact c6) ⟨x1, x2, by rw [g3.1 40 0 3 (by simp [mP])]; exact c3, hX.tx g13⟩)
      · intro i hi ih S1 g1 a6 a3 ac
        have hN := hN0.up g1
        rw [a6]
        refine hP _ _ _ _ _ _ (And.intro (fun hc => absurd hc (nI_ge hi (by omega))) (fun _ => ?_))
        repeat (first | (refine hP _ _ _ _ _ _ ?_; show P _ _ _ _ _ _) | (refine hP _ _ _ _ _ _ (And.intro (hN _ _ _ rfl) ?_); show P _ _ (aR _ _ :: _) _ _ _))
        rw [a3, show (160 : Int32) * nI nT = nI (160 * nT) from pk_mul 160 nT, nI_add]
        refine hP _ _ _ _ _ _ (Exists.intro (i) (And.intro (And.intro (rfl) (by show i < 160; omega)) ?_))
        rw [show S1.1 43 0 i = nI (T.2 i) by rw [g1.1 43 0 i (by simp [mTx])]; exact (htp i hi).1]
        refine hP _ _ _ _ _ _ (Exists.intro (160 * nT + i) (And.intro (And.intro (rfl) (by show _ < 960; omega)) ?_))
        show P _ _ _ (ivSet S1 41 0 (160 * nT + i) (nI (T.2 i))) _ _
        have g2 : Ag (mTx nT) S (ivSet S1 41 0 (160 * nT + i) (nI (T.2 i))) := g1.tr (Ag.iv (by simp [mTx]))
        have c6 : (ivSet S1 41 0 (160 * nT + i) (nI (T.2 i))).1 40 0 6 = nI T.1 := by rw [iv_ne (by omega)]; exact a6
        have c3 : (ivSet S1 41 0 (160 * nT + i) (nI (T.2 i))).1 40 0 3 = nI nT := by rw [iv_ne (by omega)]; exact a3
        have cc : ∀ k, k < i + 1 → (ivSet S1 41 0 (160 * nT + i) (nI (T.2 i))).1 41 0 (160 * nT + k) = nI (T.2 k) := by
          intro k hk
          by_cases ek : k = i
          · rw [ek, iv_at]
          · rw [iv_ne (by omega)]
            exact ac k (by omega)
        generalize ivSet S1 41 0 (160 * nT + i) (nI (T.2 i)) = S2 at g2 c6 c3 cc ⊢
        have := ih S2 g2 c6 c3 cc
        rw [nI_succ] at this
        repeat (first | (refine hP _ _ _ _ _ _ ?_; show P _ _ _ _ _ _) | (refine hP _ _ _ _ _ _ (And.intro (hN _ _ _ rfl) ?_); show P _ _ (aR _ _ :: _) _ _ _))
        exact this
    repeat (first | (refine hP _ _ _ _ _ _ ?_; show P _ _ _ _ _ _) | (refine hP _ _ _ _ _ _ (And.intro (hN _ _ _ rfl) ?_); show P _ _ (aR _ _ :: _) _ _ _))
    exact loop 0 (Nat.zero_le _) S (Ag.rf _ _) h6 x3 (fun k hk => by omega)
  · have h6 : nT = 6 := (nI_eq (b := 6) (by omega) (by omega)).mp hc
    repeat (first | (refine hP _ _ _ _ _ _ ?_; show P _ _ _ _ _ _) | (refine hP _ _ _ _ _ _ (And.intro (hN _ _ _ rfl) ?_); show P _ _ (aR _ _ :: _) _ _ _))
    exact hP _ _ _ _ _ _ (hF h6)
