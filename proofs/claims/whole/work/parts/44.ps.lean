/-! The class's reader: compared, denied, one; the whole grammar -/
theorem c_compared {T : Tx} {n q o : Nat} (ih : ∀ m, m ≤ n → CP T m) (hm : 20 * (T.1 - bg T q) + rk 3 < n + 1) (hq : q ≤ T.1) (ho : o ≤ 5) : CP1 T (n + 1) 3 q o := by
  intro d S K cc hd hN hR hl h1 h0
  have hrk : rk 3 = 7 := rfl
  have hrk1 : rk 4 = 6 := rfl
  have hdp : dp 3 = 7 := rfl
  have hdp1 : dp 4 = 6 := rfl
  have h160 := hR.1.2.1
  show Call d m_X1_compared [aR 7 0] S K
  refine Call.of (k := 10 * (5 - o) + 6) (by omega) (fun e he P hP => ?_)
  have hPI := P7_in T n 4 q o [] (by simp [okL]) hq
  have hE : P7 T (n + 1) 3 q o [] = (bif (P7 T n 4 q o []).1 then (if kd T (P7 T n 4 q o []).2.2 = 60 ∨ kd T (P7 T n 4 q o []).2.2 = 61 then (bif (P7 T n 4 (nx T (P7 T n 4 q o []).2.2) o []).1 then (true, (P7 T n 4 q o []).2.1 ++ (P7 T n 4 (nx T (P7 T n 4 q o []).2.2) o []).2.1 ++ [if kd T (P7 T n 4 q o []).2.2 = 60 then 10010 else 10011], (P7 T n 4 (nx T (P7 T n 4 q o []).2.2) o []).2.2) else P7 T n 4 (nx T (P7 T n 4 q o []).2.2) o []) else P7 T n 4 q o []) else P7 T n 4 q o []) := rfl
  repeat (first | (refine hP _ _ _ _ _ _ ?_; show P _ _ _ _ _ _) | (refine hP _ _ _ _ _ _ (And.intro (hN _ _ _ rfl) ?_); show P _ _ (aR _ _ :: _) _ _ _) | refine hP _ _ _ _ _ _ (And.intro (fun _ => ?_) (fun hc => absurd hc (by decide))) | refine hP _ _ _ _ _ _ (And.intro (fun hc => absurd hc (by decide)) (fun _ => ?_)))
  refine hP _ _ _ _ _ _ (ih n (Nat.le_refl _) 4 q o (by simp [okL]) (by omega) (by omega) hq ho e S _ cc (by omega) hN hR hl (fun S3 g3 e3 hR3 => ?_) (fun S3 g3 e3 b3 => ?_))
  · have hN3 := hN.up g3
    have hN := hN3
    have a2 := hPI.2 e3
    have a3 := a2.2.2 (by omega)
    have hle3 := bg_le hR3.2.2.1
    simp only [show ¬ 10 ≤ 4 by omega, if_false] at a2
    rw [e3] at hE
    simp only [cond] at hE
    generalize hr : P7 T n 4 q o [] = r at hE hR3 a2 a3 hle3 hPI e3
    have hl3 : (cc ++ r.2.1).length ≤ bg T r.2.2 := by
      rw [List.length_append]
      omega
    have go : (kd T r.2.2 = 60 ∨ kd T r.2.2 = 61) → P 28 [some (aR 7 0), some (aI (nI (kd T r.2.2)))] [] S3 0 0 := by
      intro hk
      rw [if_pos hk] at hE
      have hb2 := nx_bg (T := T) (q := r.2.2) (by omega)
      have hb := kd_lt (T := T) (q := r.2.2) (by omega)
      have hPI2 := P7_in T n 4 (nx T r.2.2) o [] (by simp [okL]) (nx_le hR3.2.2.1)
      repeat (first | (refine hP _ _ _ _ _ _ ?_; show P _ _ _ _ _ _) | (refine hP _ _ _ _ _ _ (And.intro (hN _ _ _ rfl) ?_); show P _ _ (aR _ _ :: _) _ _ _) | refine hP _ _ _ _ _ _ (And.intro (fun _ => ?_) (fun hc => absurd hc (by decide))) | refine hP _ _ _ _ _ _ (And.intro (fun hc => absurd hc (by decide)) (fun _ => ?_)))
      refine hP _ _ _ _ _ _ (r_next (by omega) hN3 hR3 (fun S4 g4 hR4 => ?_))
      have hN4 := hN3.up g4
      have hN := hN4
      repeat (first | (refine hP _ _ _ _ _ _ ?_; show P _ _ _ _ _ _) | (refine hP _ _ _ _ _ _ (And.intro (hN _ _ _ rfl) ?_); show P _ _ (aR _ _ :: _) _ _ _) | refine hP _ _ _ _ _ _ (And.intro (fun _ => ?_) (fun hc => absurd hc (by decide))) | refine hP _ _ _ _ _ _ (And.intro (fun hc => absurd hc (by decide)) (fun _ => ?_)))
      refine hP _ _ _ _ _ _ (ih n (Nat.le_refl _) 4 (nx T r.2.2) o (by simp [okL]) (by omega) (by omega) (nx_le hR3.2.2.1) ho e S4 _ (cc ++ r.2.1) (by omega) hN4 hR4 (by omega) (fun S5 g5 e5 hR5 => ?_) (fun S5 g5 e5 b5 => ?_))
      · have hN5 := hN4.up g5
        have hN := hN5
        have c2 := hPI2.2 e5
        have c3 := c2.2.2 (by omega)
        simp only [show ¬ 10 ≤ 4 by omega, if_false] at c2
        have hle5 := bg_le hR5.2.2.1
        rw [e5] at hE
        simp only [cond] at hE
        have put : P 55 [some (aR 7 0), some (aI (nI (kd T r.2.2)))] [aI (nI (if kd T r.2.2 = 60 then 10010 else 10011)), aR 7 0] S5 0 0 := by
          refine hP _ _ _ _ _ _ (r_put (x := if kd T r.2.2 = 60 then 10010 else 10011) (by omega) hN5 hR5 (by rw [List.length_append]; omega) (fun S6 g6 hR6 => ?_))
          have hN := hN5.up g6
          repeat (first | (refine hP _ _ _ _ _ _ ?_; show P _ _ _ _ _ _) | (refine hP _ _ _ _ _ _ (And.intro (hN _ _ _ rfl) ?_); show P _ _ (aR _ _ :: _) _ _ _) | refine hP _ _ _ _ _ _ (And.intro (fun _ => ?_) (fun hc => absurd hc (by decide))) | refine hP _ _ _ _ _ _ (And.intro (fun hc => absurd hc (by decide)) (fun _ => ?_)))
          refine hP _ _ _ _ _ _ (And.intro (Or.inr rfl) (h1 S6 (g3.tr (g4.tr (g5.tr g6))) (by rw [hE]) (by rw [hE]; rw [List.append_assoc, List.append_assoc] at hR6; rw [List.append_assoc]; exact hR6)))
        repeat (first | (refine hP _ _ _ _ _ _ ?_; show P _ _ _ _ _ _) | (refine hP _ _ _ _ _ _ (And.intro (hN _ _ _ rfl) ?_); show P _ _ (aR _ _ :: _) _ _ _) | refine hP _ _ _ _ _ _ (And.intro (fun _ => ?_) (fun hc => absurd hc (by decide))) | refine hP _ _ _ _ _ _ (And.intro (fun hc => absurd hc (by decide)) (fun _ => ?_)))
        refine hP _ _ _ _ _ _ (kdN (c := 60) (by omega) (fun z => ?_) (fun z => ?_))
        · rw [if_neg z] at put
          repeat (first | (refine hP _ _ _ _ _ _ ?_; show P _ _ _ _ _ _) | (refine hP _ _ _ _ _ _ (And.intro (hN _ _ _ rfl) ?_); show P _ _ (aR _ _ :: _) _ _ _) | refine hP _ _ _ _ _ _ (And.intro (fun _ => ?_) (fun hc => absurd hc (by decide))) | refine hP _ _ _ _ _ _ (And.intro (fun hc => absurd hc (by decide)) (fun _ => ?_)))
          exact put
        · rw [if_pos z] at put
          repeat (first | (refine hP _ _ _ _ _ _ ?_; show P _ _ _ _ _ _) | (refine hP _ _ _ _ _ _ (And.intro (hN _ _ _ rfl) ?_); show P _ _ (aR _ _ :: _) _ _ _) | refine hP _ _ _ _ _ _ (And.intro (fun _ => ?_) (fun hc => absurd hc (by decide))) | refine hP _ _ _ _ _ _ (And.intro (fun hc => absurd hc (by decide)) (fun _ => ?_)))
          exact put
      · have hN := hN4.up g5
        rw [e5] at hE
        simp only [cond] at hE
        repeat (first | (refine hP _ _ _ _ _ _ ?_; show P _ _ _ _ _ _) | (refine hP _ _ _ _ _ _ (And.intro (hN _ _ _ rfl) ?_); show P _ _ (aR _ _ :: _) _ _ _) | refine hP _ _ _ _ _ _ (And.intro (fun _ => ?_) (fun hc => absurd hc (by decide))) | refine hP _ _ _ _ _ _ (And.intro (fun hc => absurd hc (by decide)) (fun _ => ?_)))
        refine hP _ _ _ _ _ _ (And.intro (Or.inl rfl) (h0 S5 (g3.tr (g4.tr g5)) (by rw [hE]; exact e5) (by rw [hE]; exact b5)))
    repeat (first | (refine hP _ _ _ _ _ _ ?_; show P _ _ _ _ _ _) | (refine hP _ _ _ _ _ _ (And.intro (hN _ _ _ rfl) ?_); show P _ _ (aR _ _ :: _) _ _ _) | refine hP _ _ _ _ _ _ (And.intro (fun _ => ?_) (fun hc => absurd hc (by decide))) | refine hP _ _ _ _ _ _ (And.intro (fun hc => absurd hc (by decide)) (fun _ => ?_)))
    rw [hR3.2.1.2.1]
    refine hP _ _ _ _ _ _ (kdI (c := 60) (by omega) (fun z => ?_) (fun z1 => ?_))
    · exact go (Or.inl z)
    · repeat (first | (refine hP _ _ _ _ _ _ ?_; show P _ _ _ _ _ _) | (refine hP _ _ _ _ _ _ (And.intro (hN _ _ _ rfl) ?_); show P _ _ (aR _ _ :: _) _ _ _) | refine hP _ _ _ _ _ _ (And.intro (fun _ => ?_) (fun hc => absurd hc (by decide))) | refine hP _ _ _ _ _ _ (And.intro (fun hc => absurd hc (by decide)) (fun _ => ?_)))
      refine hP _ _ _ _ _ _ (kdI (c := 61) (by omega) (fun z => ?_) (fun z2 => ?_))
      · exact go (Or.inr z)
      · rw [if_neg (by omega)] at hE
        repeat (first | (refine hP _ _ _ _ _ _ ?_; show P _ _ _ _ _ _) | (refine hP _ _ _ _ _ _ (And.intro (hN _ _ _ rfl) ?_); show P _ _ (aR _ _ :: _) _ _ _) | refine hP _ _ _ _ _ _ (And.intro (fun _ => ?_) (fun hc => absurd hc (by decide))) | refine hP _ _ _ _ _ _ (And.intro (fun hc => absurd hc (by decide)) (fun _ => ?_)))
        refine hP _ _ _ _ _ _ (And.intro (Or.inr rfl) (h1 S3 g3 (by rw [hE]; exact e3) (by rw [hE]; exact hR3)))
  · have hN := hN.up g3
    repeat (first | (refine hP _ _ _ _ _ _ ?_; show P _ _ _ _ _ _) | (refine hP _ _ _ _ _ _ (And.intro (hN _ _ _ rfl) ?_); show P _ _ (aR _ _ :: _) _ _ _) | refine hP _ _ _ _ _ _ (And.intro (fun _ => ?_) (fun hc => absurd hc (by decide))) | refine hP _ _ _ _ _ _ (And.intro (fun hc => absurd hc (by decide)) (fun _ => ?_)))
    refine hP _ _ _ _ _ _ (And.intro (Or.inl rfl) (h0 S3 g3 (by rw [hE, e3]; exact e3) (by rw [hE, e3]; exact b3)))
theorem c_denied {T : Tx} {n q o : Nat} (ih : ∀ m, m ≤ n → CP T m) (hm : 20 * (T.1 - bg T q) + rk 2 < n + 1) (hq : q ≤ T.1) (ho : o ≤ 5) : CP1 T (n + 1) 2 q o := by
  intro d S K cc hd hN hR hl h1 h0
  have hrk : rk 2 = 8 := rfl
  have hrk1 : rk 3 = 7 := rfl
  have hdp : dp 2 = 8 := rfl
  have hdp1 : dp 3 = 7 := rfl
  have h160 := hR.1.2.1
  show Call d m_X1_denied [aR 7 0] S K
  refine Call.of (k := 10 * (5 - o) + 7) (by omega) (fun e he P hP => ?_)
  repeat (first | (refine hP _ _ _ _ _ _ ?_; show P _ _ _ _ _ _) | (refine hP _ _ _ _ _ _ (And.intro (hN _ _ _ rfl) ?_); show P _ _ (aR _ _ :: _) _ _ _) | refine hP _ _ _ _ _ _ (And.intro (fun _ => ?_) (fun hc => absurd hc (by decide))) | refine hP _ _ _ _ _ _ (And.intro (fun hc => absurd hc (by decide)) (fun _ => ?_)))
  rw [hR.2.1.2.1]
  refine hP _ _ _ _ _ _ (kdI (c := 205) (by omega) (fun hk => ?_) (fun hk => ?_))
  · have hE : P7 T (n + 1) 2 q o [] = (if 5 ≤ o then (false, [], q) else bif (P7 T n 2 (nx T q) (o + 1) []).1 then (true, (P7 T n 2 (nx T q) (o + 1) []).2.1 ++ [10007], (P7 T n 2 (nx T q) (o + 1) []).2.2) else P7 T n 2 (nx T q) (o + 1) []) := if_pos hk
    have hb2 := nx_bg (T := T) (q := q) (by omega)
    have hb := kd_lt (T := T) (q := q) (by omega)
    have hPI := P7_in T n 2 (nx T q) (o + 1) [] (by simp [okL]) (nx_le hq)
    repeat (first | (refine hP _ _ _ _ _ _ ?_; show P _ _ _ _ _ _) | (refine hP _ _ _ _ _ _ (And.intro (hN _ _ _ rfl) ?_); show P _ _ (aR _ _ :: _) _ _ _) | refine hP _ _ _ _ _ _ (And.intro (fun _ => ?_) (fun hc => absurd hc (by decide))) | refine hP _ _ _ _ _ _ (And.intro (fun hc => absurd hc (by decide)) (fun _ => ?_)))
    refine hP _ _ _ _ _ _ (r_opens (by omega) ho hN hR (fun h5 S2 g2 hR2 => ?_) (fun h5 => ?_))
    · rw [if_neg h5] at hE
      have hN2 := hN.up g2
      have hN := hN2
      repeat (first | (refine hP _ _ _ _ _ _ ?_; show P _ _ _ _ _ _) | (refine hP _ _ _ _ _ _ (And.intro (hN _ _ _ rfl) ?_); show P _ _ (aR _ _ :: _) _ _ _) | refine hP _ _ _ _ _ _ (And.intro (fun _ => ?_) (fun hc => absurd hc (by decide))) | refine hP _ _ _ _ _ _ (And.intro (fun hc => absurd hc (by decide)) (fun _ => ?_)))
      refine hP _ _ _ _ _ _ (ih n (Nat.le_refl _) 2 (nx T q) (o + 1) (by simp [okL]) (by omega) (by omega) (nx_le hq) (by omega) e S2 _ cc (by omega) hN2 hR2 (by omega) (fun S3 g3 e3 hR3 => ?_) (fun S3 g3 e3 b3 => ?_))
      · have hN3 := hN2.up g3
        have hN := hN3
        have a2 := hPI.2 e3
        have a3 := a2.2.2 (by omega)
        simp only [show ¬ 10 ≤ 2 by omega, if_false] at a2
        have hle3 := bg_le hR3.2.2.1
        rw [e3] at hE
        simp only [cond] at hE
        repeat (first | (refine hP _ _ _ _ _ _ ?_; show P _ _ _ _ _ _) | (refine hP _ _ _ _ _ _ (And.intro (hN _ _ _ rfl) ?_); show P _ _ (aR _ _ :: _) _ _ _) | refine hP _ _ _ _ _ _ (And.intro (fun _ => ?_) (fun hc => absurd hc (by decide))) | refine hP _ _ _ _ _ _ (And.intro (fun hc => absurd hc (by decide)) (fun _ => ?_)))
        refine hP _ _ _ _ _ _ (r_put (x := 10007) (by omega) hN3 hR3 (by rw [List.length_append]; omega) (fun S4 g4 hR4 => ?_))
        have hN4 := hN3.up g4
        have hN := hN4
        repeat (first | (refine hP _ _ _ _ _ _ ?_; show P _ _ _ _ _ _) | (refine hP _ _ _ _ _ _ (And.intro (hN _ _ _ rfl) ?_); show P _ _ (aR _ _ :: _) _ _ _) | refine hP _ _ _ _ _ _ (And.intro (fun _ => ?_) (fun hc => absurd hc (by decide))) | refine hP _ _ _ _ _ _ (And.intro (fun hc => absurd hc (by decide)) (fun _ => ?_)))
        rw [hR4.2.2.2.2.2, nI_pred]
        exact hP _ _ _ _ _ _ (And.intro (Or.inr rfl) (h1 _ ((g2.tr (g3.tr g4)).tr (Ag.iv (by simp [wRd]))) (by rw [hE]) (by rw [hE]; rw [List.append_assoc] at hR4; exact hR4.o)))
      · have hN3 := hN2.up g3
        have hN := hN3
        rw [e3] at hE
        simp only [cond] at hE
        repeat (first | (refine hP _ _ _ _ _ _ ?_; show P _ _ _ _ _ _) | (refine hP _ _ _ _ _ _ (And.intro (hN _ _ _ rfl) ?_); show P _ _ (aR _ _ :: _) _ _ _) | refine hP _ _ _ _ _ _ (And.intro (fun _ => ?_) (fun hc => absurd hc (by decide))) | refine hP _ _ _ _ _ _ (And.intro (fun hc => absurd hc (by decide)) (fun _ => ?_)))
        exact hP _ _ _ _ _ _ (And.intro (Or.inl rfl) (h0 _ ((g2.tr g3).tr (Ag.iv (by simp [wRd]))) (by rw [hE]; exact e3) (by rw [iv_ne (by omega), hE]; exact b3)))
    · rw [if_pos h5] at hE
      repeat (first | (refine hP _ _ _ _ _ _ ?_; show P _ _ _ _ _ _) | (refine hP _ _ _ _ _ _ (And.intro (hN _ _ _ rfl) ?_); show P _ _ (aR _ _ :: _) _ _ _) | refine hP _ _ _ _ _ _ (And.intro (fun _ => ?_) (fun hc => absurd hc (by decide))) | refine hP _ _ _ _ _ _ (And.intro (fun hc => absurd hc (by decide)) (fun _ => ?_)))
      refine hP _ _ _ _ _ _ (And.intro (Or.inl rfl) (h0 S (Ag.rf _ _) (by rw [hE]) (by rw [hE]; exact hR.2.1.2.2.1)))
  · have hE : P7 T (n + 1) 2 q o [] = P7 T n 3 q o [] := if_neg hk
    repeat (first | (refine hP _ _ _ _ _ _ ?_; show P _ _ _ _ _ _) | (refine hP _ _ _ _ _ _ (And.intro (hN _ _ _ rfl) ?_); show P _ _ (aR _ _ :: _) _ _ _) | refine hP _ _ _ _ _ _ (And.intro (fun _ => ?_) (fun hc => absurd hc (by decide))) | refine hP _ _ _ _ _ _ (And.intro (fun hc => absurd hc (by decide)) (fun _ => ?_)))
    refine hP _ _ _ _ _ _ (ih n (Nat.le_refl _) 3 q o (by simp [okL]) (by omega) (by omega) hq ho e S _ cc (by omega) hN hR hl (fun S3 g3 e3 hR3 => ?_) (fun S3 g3 e3 b3 => ?_))
    · repeat (first | (refine hP _ _ _ _ _ _ ?_; show P _ _ _ _ _ _) | (refine hP _ _ _ _ _ _ (And.intro (hN _ _ _ rfl) ?_); show P _ _ (aR _ _ :: _) _ _ _) | refine hP _ _ _ _ _ _ (And.intro (fun _ => ?_) (fun hc => absurd hc (by decide))) | refine hP _ _ _ _ _ _ (And.intro (fun hc => absurd hc (by decide)) (fun _ => ?_)))
      refine hP _ _ _ _ _ _ (And.intro (Or.inr rfl) (h1 S3 g3 (by rw [hE]; exact e3) (by rw [hE]; exact hR3)))
    · repeat (first | (refine hP _ _ _ _ _ _ ?_; show P _ _ _ _ _ _) | (refine hP _ _ _ _ _ _ (And.intro (hN _ _ _ rfl) ?_); show P _ _ (aR _ _ :: _) _ _ _) | refine hP _ _ _ _ _ _ (And.intro (fun _ => ?_) (fun hc => absurd hc (by decide))) | refine hP _ _ _ _ _ _ (And.intro (fun hc => absurd hc (by decide)) (fun _ => ?_)))
      refine hP _ _ _ _ _ _ (And.intro (Or.inl rfl) (h0 S3 g3 (by rw [hE]; exact e3) (by rw [hE]; exact b3)))
theorem c_one {T : Tx} {n q o : Nat} (ih : ∀ m, m ≤ n → CP T m) (hm : 20 * (T.1 - bg T q) + rk 6 < n + 1) (hq : q ≤ T.1) (ho : o ≤ 5) : CP1 T (n + 1) 6 q o := by
  intro d S K cc hd hN hR hl h1 h0
  have hrk : rk 6 = 4 := rfl
  have hrk0 : rk 0 = 10 := rfl
  have hdp : dp 6 = 4 := rfl
  have hdp0 : dp 0 = 10 := rfl
  have h160 := hR.1.2.1
  show Call d m_X1_one [aR 7 0] S K
  refine Call.of (k := 10 * (5 - o) + 3) (by omega) (fun e he P hP => ?_)
  have take : ∀ v, kd T q ≠ 0 → P7 T (n + 1) 6 q o [] = (true, [v], nx T q) → P 38 [some (aR 7 0), none, none] [aI (nI v), aR 7 0] S 0 0 := by
    intro v h0' hE
    have hb := kd_lt h0'
    refine hP _ _ _ _ _ _ (r_put (x := v) (by omega) hN hR (by omega) (fun S2 g2 hR2 => ?_))
    have hN2 := hN.up g2
    have hN := hN2
    repeat (first | (refine hP _ _ _ _ _ _ ?_; show P _ _ _ _ _ _) | (refine hP _ _ _ _ _ _ (And.intro (hN _ _ _ rfl) ?_); show P _ _ (aR _ _ :: _) _ _ _) | refine hP _ _ _ _ _ _ (And.intro (fun _ => ?_) (fun hc => absurd hc (by decide))) | refine hP _ _ _ _ _ _ (And.intro (fun hc => absurd hc (by decide)) (fun _ => ?_)))
    refine hP _ _ _ _ _ _ (r_next (by omega) hN2 hR2 (fun S3 g3 hR3 => ?_))
    repeat (first | (refine hP _ _ _ _ _ _ ?_; show P _ _ _ _ _ _) | (refine hP _ _ _ _ _ _ (And.intro (hN _ _ _ rfl) ?_); show P _ _ (aR _ _ :: _) _ _ _) | refine hP _ _ _ _ _ _ (And.intro (fun _ => ?_) (fun hc => absurd hc (by decide))) | refine hP _ _ _ _ _ _ (And.intro (fun hc => absurd hc (by decide)) (fun _ => ?_)))
    refine hP _ _ _ _ _ _ (And.intro (Or.inr rfl) (h1 S3 (g2.tr g3) (by rw [hE]) (by rw [hE]; exact hR3)))
  have un : ∀ (w : Int32), (kd T q = 45 ∧ w = 1) ∨ (kd T q = 40 ∧ w = 0) → P 84 [some (aR 7 0), some (aI w), none] [aR 7 0] S 0 0 := by
    intro w hw
    have hb2 := nx_bg (T := T) (q := q) (by omega)
    have hb := kd_lt (T := T) (q := q) (by omega)
    repeat (first | (refine hP _ _ _ _ _ _ ?_; show P _ _ _ _ _ _) | (refine hP _ _ _ _ _ _ (And.intro (hN _ _ _ rfl) ?_); show P _ _ (aR _ _ :: _) _ _ _) | refine hP _ _ _ _ _ _ (And.intro (fun _ => ?_) (fun hc => absurd hc (by decide))) | refine hP _ _ _ _ _ _ (And.intro (fun hc => absurd hc (by decide)) (fun _ => ?_)))
    refine hP _ _ _ _ _ _ ?_
    by_cases h5 : 5 ≤ o
    · have hE : P7 T (n + 1) 6 q o [] = (false, [], q) := by
        rcases hw with ⟨hk, -⟩ | ⟨hk, -⟩
        · show (if kd T q = 2 then _ else _) = _
          rw [if_neg (by omega), if_neg (by omega), if_pos hk, if_pos h5]
        · show (if kd T q = 2 then _ else _) = _
          rw [if_neg (by omega), if_neg (by omega), if_neg (by omega), if_pos hk, if_pos h5]
      have ho5 : o = 5 := by omega
      refine Call.of (d := e) (k := 0) (by omega) (fun e2 he2 P2 hP2 => ?_)
      refine hP2 _ _ _ _ _ _ ?_
      show P2 _ _ _ _ _ _
      refine hP2 _ _ _ _ _ _ ?_
      show P2 _ _ _ _ _ _
      refine hP2 _ _ _ _ _ _ ?_
      show P2 _ _ _ _ _ _
      rw [hR.2.2.2.2.2]
      refine hP2 _ _ _ _ _ _ (And.intro (fun hc => absurd hc (nI_nlt (a := o) (b := 5) h5 (by omega))) (fun _ => ?_))
      refine hP2 _ _ _ _ _ _ ?_
      show P2 _ _ _ _ _ _
      refine hP2 _ _ _ _ _ _ (And.intro (Or.inl rfl) ?_)
      repeat (first | (refine hP _ _ _ _ _ _ ?_; show P _ _ _ _ _ _) | (refine hP _ _ _ _ _ _ (And.intro (hN _ _ _ rfl) ?_); show P _ _ (aR _ _ :: _) _ _ _) | refine hP _ _ _ _ _ _ (And.intro (fun _ => ?_) (fun hc => absurd hc (by decide))) | refine hP _ _ _ _ _ _ (And.intro (fun hc => absurd hc (by decide)) (fun _ => ?_)))
      refine hP _ _ _ _ _ _ (And.intro (Or.inl rfl) (h0 S (Ag.rf _ _) (by rw [hE]) (by rw [hE]; exact hR.2.1.2.2.1)))
    · refine r_opens (by omega) ho hN hR (fun _ S2 g2 hR2 => ?_) (fun z => absurd z h5)
      have hN2 := hN.up g2
      have hN := hN2
      rcases hw with ⟨hk, rfl⟩ | ⟨hk, rfl⟩
      · have hE : P7 T (n + 1) 6 q o [] = (bif (P7 T n 6 (nx T q) (o + 1) []).1 then (true, (P7 T n 6 (nx T q) (o + 1) []).2.1 ++ [10006], (P7 T n 6 (nx T q) (o + 1) []).2.2) else P7 T n 6 (nx T q) (o + 1) []) := by
          show (if kd T q = 2 then _ else _) = _
          rw [if_neg (by omega), if_neg (by omega), if_pos hk, if_neg h5]
        have hPI := P7_in T n 6 (nx T q) (o + 1) [] (by simp [okL]) (nx_le hq)
        repeat (first | (refine hP _ _ _ _ _ _ ?_; show P _ _ _ _ _ _) | (refine hP _ _ _ _ _ _ (And.intro (hN _ _ _ rfl) ?_); show P _ _ (aR _ _ :: _) _ _ _) | refine hP _ _ _ _ _ _ (And.intro (fun _ => ?_) (fun hc => absurd hc (by decide))) | refine hP _ _ _ _ _ _ (And.intro (fun hc => absurd hc (by decide)) (fun _ => ?_)))
        refine hP _ _ _ _ _ _ (ih n (Nat.le_refl _) 6 (nx T q) (o + 1) (by simp [okL]) (by omega) (by omega) (nx_le hq) (by omega) e S2 _ cc (by omega) hN2 hR2 (by omega) (fun S3 g3 e3 hR3 => ?_) (fun S3 g3 e3 b3 => ?_))
        · have hN3 := hN2.up g3
          have hN := hN3
          have a2 := hPI.2 e3
          have a3 := a2.2.2 (by omega)
          simp only [show ¬ 10 ≤ 6 by omega, if_false] at a2
          have hle3 := bg_le hR3.2.2.1
          rw [e3] at hE
          simp only [cond] at hE
          repeat (first | (refine hP _ _ _ _ _ _ ?_; show P _ _ _ _ _ _) | (refine hP _ _ _ _ _ _ (And.intro (hN _ _ _ rfl) ?_); show P _ _ (aR _ _ :: _) _ _ _) | refine hP _ _ _ _ _ _ (And.intro (fun _ => ?_) (fun hc => absurd hc (by decide))) | refine hP _ _ _ _ _ _ (And.intro (fun hc => absurd hc (by decide)) (fun _ => ?_)))
          refine hP _ _ _ _ _ _ (r_put (x := 10006) (by omega) hN3 hR3 (by rw [List.length_append]; omega) (fun S4 g4 hR4 => ?_))
          have hN4 := hN3.up g4
          have hN := hN4
          repeat (first | (refine hP _ _ _ _ _ _ ?_; show P _ _ _ _ _ _) | (refine hP _ _ _ _ _ _ (And.intro (hN _ _ _ rfl) ?_); show P _ _ (aR _ _ :: _) _ _ _) | refine hP _ _ _ _ _ _ (And.intro (fun _ => ?_) (fun hc => absurd hc (by decide))) | refine hP _ _ _ _ _ _ (And.intro (fun hc => absurd hc (by decide)) (fun _ => ?_)))
          rw [hR4.2.2.2.2.2, nI_pred]
          exact hP _ _ _ _ _ _ (And.intro (Or.inr rfl) (h1 _ ((g2.tr (g3.tr g4)).tr (Ag.iv (by simp [wRd]))) (by rw [hE]) (by rw [hE]; rw [List.append_assoc] at hR4; exact hR4.o)))
        · have hN3 := hN2.up g3
          have hN := hN3
          rw [e3] at hE
          simp only [cond] at hE
          repeat (first | (refine hP _ _ _ _ _ _ ?_; show P _ _ _ _ _ _) | (refine hP _ _ _ _ _ _ (And.intro (hN _ _ _ rfl) ?_); show P _ _ (aR _ _ :: _) _ _ _) | refine hP _ _ _ _ _ _ (And.intro (fun _ => ?_) (fun hc => absurd hc (by decide))) | refine hP _ _ _ _ _ _ (And.intro (fun hc => absurd hc (by decide)) (fun _ => ?_)))
          exact hP _ _ _ _ _ _ (And.intro (Or.inl rfl) (h0 _ ((g2.tr g3).tr (Ag.iv (by simp [wRd]))) (by rw [hE]; exact e3) (by rw [iv_ne (by omega), hE]; exact b3)))
      · have hE : P7 T (n + 1) 6 q o [] = (bif (P7 T n 0 (nx T q) (o + 1) []).1 then (if kd T (P7 T n 0 (nx T q) (o + 1) []).2.2 = 41 then (true, (P7 T n 0 (nx T q) (o + 1) []).2.1, nx T (P7 T n 0 (nx T q) (o + 1) []).2.2) else (false, [], (P7 T n 0 (nx T q) (o + 1) []).2.2)) else P7 T n 0 (nx T q) (o + 1) []) := by
          show (if kd T q = 2 then _ else _) = _
          rw [if_neg (by omega), if_neg (by omega), if_neg (by omega), if_pos hk, if_neg h5]
        repeat (first | (refine hP _ _ _ _ _ _ ?_; show P _ _ _ _ _ _) | (refine hP _ _ _ _ _ _ (And.intro (hN _ _ _ rfl) ?_); show P _ _ (aR _ _ :: _) _ _ _) | refine hP _ _ _ _ _ _ (And.intro (fun _ => ?_) (fun hc => absurd hc (by decide))) | refine hP _ _ _ _ _ _ (And.intro (fun hc => absurd hc (by decide)) (fun _ => ?_)))
        refine hP _ _ _ _ _ _ (ih n (Nat.le_refl _) 0 (nx T q) (o + 1) (by simp [okL]) (by omega) (by omega) (nx_le hq) (by omega) e S2 _ cc (by omega) hN2 hR2 (by omega) (fun S3 g3 e3 hR3 => ?_) (fun S3 g3 e3 b3 => ?_))
        · have hN3 := hN2.up g3
          have hN := hN3
          rw [e3] at hE
          simp only [cond] at hE
          repeat (first | (refine hP _ _ _ _ _ _ ?_; show P _ _ _ _ _ _) | (refine hP _ _ _ _ _ _ (And.intro (hN _ _ _ rfl) ?_); show P _ _ (aR _ _ :: _) _ _ _) | refine hP _ _ _ _ _ _ (And.intro (fun _ => ?_) (fun hc => absurd hc (by decide))) | refine hP _ _ _ _ _ _ (And.intro (fun hc => absurd hc (by decide)) (fun _ => ?_)))
          refine hP _ _ _ _ _ _ (r_pass (c := 41) (by omega) hN3 hR3 (by omega) (fun hk2 S4 g4 hR4 => ?_) (fun hk2 => ?_))
          · have hN4 := hN3.up g4
            have hN := hN4
            rw [if_pos hk2] at hE
            repeat (first | (refine hP _ _ _ _ _ _ ?_; show P _ _ _ _ _ _) | (refine hP _ _ _ _ _ _ (And.intro (hN _ _ _ rfl) ?_); show P _ _ (aR _ _ :: _) _ _ _) | refine hP _ _ _ _ _ _ (And.intro (fun _ => ?_) (fun hc => absurd hc (by decide))) | refine hP _ _ _ _ _ _ (And.intro (fun hc => absurd hc (by decide)) (fun _ => ?_)))
            rw [hR4.2.2.2.2.2, nI_pred]
            exact hP _ _ _ _ _ _ (And.intro (Or.inr rfl) (h1 _ ((g2.tr (g3.tr g4)).tr (Ag.iv (by simp [wRd]))) (by rw [hE]) (by rw [hE]; exact hR4.o)))
          · rw [if_neg hk2] at hE
            repeat (first | (refine hP _ _ _ _ _ _ ?_; show P _ _ _ _ _ _) | (refine hP _ _ _ _ _ _ (And.intro (hN _ _ _ rfl) ?_); show P _ _ (aR _ _ :: _) _ _ _) | refine hP _ _ _ _ _ _ (And.intro (fun _ => ?_) (fun hc => absurd hc (by decide))) | refine hP _ _ _ _ _ _ (And.intro (fun hc => absurd hc (by decide)) (fun _ => ?_)))
            exact hP _ _ _ _ _ _ (And.intro (Or.inl rfl) (h0 _ ((g2.tr g3).tr (Ag.iv (by simp [wRd]))) (by rw [hE]) (by rw [iv_ne (by omega), hE]; exact hR3.2.1.2.2.1)))
        · have hN3 := hN2.up g3
          have hN := hN3
          rw [e3] at hE
          simp only [cond] at hE
          repeat (first | (refine hP _ _ _ _ _ _ ?_; show P _ _ _ _ _ _) | (refine hP _ _ _ _ _ _ (And.intro (hN _ _ _ rfl) ?_); show P _ _ (aR _ _ :: _) _ _ _) | refine hP _ _ _ _ _ _ (And.intro (fun _ => ?_) (fun hc => absurd hc (by decide))) | refine hP _ _ _ _ _ _ (And.intro (fun hc => absurd hc (by decide)) (fun _ => ?_)))
          exact hP _ _ _ _ _ _ (And.intro (Or.inl rfl) (h0 _ ((g2.tr g3).tr (Ag.iv (by simp [wRd]))) (by rw [hE]; exact e3) (by rw [iv_ne (by omega), hE]; exact b3)))
  have hkd := kd_le T q
  repeat (first | (refine hP _ _ _ _ _ _ ?_; show P _ _ _ _ _ _) | (refine hP _ _ _ _ _ _ (And.intro (hN _ _ _ rfl) ?_); show P _ _ (aR _ _ :: _) _ _ _) | refine hP _ _ _ _ _ _ (And.intro (fun _ => ?_) (fun hc => absurd hc (by decide))) | refine hP _ _ _ _ _ _ (And.intro (fun hc => absurd hc (by decide)) (fun _ => ?_)))
  rw [hR.2.1.2.1]
  refine hP _ _ _ _ _ _ (kdI (c := 2) (by omega) (fun hk => ?_) (fun hk2 => ?_))
  · repeat (first | (refine hP _ _ _ _ _ _ ?_; show P _ _ _ _ _ _) | (refine hP _ _ _ _ _ _ (And.intro (hN _ _ _ rfl) ?_); show P _ _ (aR _ _ :: _) _ _ _) | refine hP _ _ _ _ _ _ (And.intro (fun _ => ?_) (fun hc => absurd hc (by decide))) | refine hP _ _ _ _ _ _ (And.intro (fun hc => absurd hc (by decide)) (fun _ => ?_)))
    rw [hR.2.1.2.1]
    refine hP _ _ _ _ _ _ (kdN (c := 2) (by omega) (fun z => absurd hk z) (fun _ => ?_))
    repeat (first | (refine hP _ _ _ _ _ _ ?_; show P _ _ _ _ _ _) | (refine hP _ _ _ _ _ _ (And.intro (hN _ _ _ rfl) ?_); show P _ _ (aR _ _ :: _) _ _ _) | refine hP _ _ _ _ _ _ (And.intro (fun _ => ?_) (fun hc => absurd hc (by decide))) | refine hP _ _ _ _ _ _ (And.intro (fun hc => absurd hc (by decide)) (fun _ => ?_)))
    rw [hR.2.1.2.2.2 hk]
    exact take _ (by omega) (by show (if kd T q = 2 then _ else _) = _; rw [if_pos hk])
  · repeat (first | (refine hP _ _ _ _ _ _ ?_; show P _ _ _ _ _ _) | (refine hP _ _ _ _ _ _ (And.intro (hN _ _ _ rfl) ?_); show P _ _ (aR _ _ :: _) _ _ _) | refine hP _ _ _ _ _ _ (And.intro (fun _ => ?_) (fun hc => absurd hc (by decide))) | refine hP _ _ _ _ _ _ (And.intro (fun hc => absurd hc (by decide)) (fun _ => ?_)))
    rw [hR.2.1.2.1]
    refine hP _ _ _ _ _ _ (ltI (x := kd T q) (y := 10000) (by omega) (by omega) (fun hk => ?_) (fun hk => ?_))
    · repeat (first | (refine hP _ _ _ _ _ _ ?_; show P _ _ _ _ _ _) | (refine hP _ _ _ _ _ _ (And.intro (hN _ _ _ rfl) ?_); show P _ _ (aR _ _ :: _) _ _ _) | refine hP _ _ _ _ _ _ (And.intro (fun _ => ?_) (fun hc => absurd hc (by decide))) | refine hP _ _ _ _ _ _ (And.intro (fun hc => absurd hc (by decide)) (fun _ => ?_)))
      rw [hR.2.1.2.1]
      refine hP _ _ _ _ _ _ (kdI (c := 45) (by omega) (fun hk45 => ?_) (fun hk45 => ?_))
      · repeat (first | (refine hP _ _ _ _ _ _ ?_; show P _ _ _ _ _ _) | (refine hP _ _ _ _ _ _ (And.intro (hN _ _ _ rfl) ?_); show P _ _ (aR _ _ :: _) _ _ _) | refine hP _ _ _ _ _ _ (And.intro (fun _ => ?_) (fun hc => absurd hc (by decide))) | refine hP _ _ _ _ _ _ (And.intro (fun hc => absurd hc (by decide)) (fun _ => ?_)))
        rw [hR.2.1.2.1]
        refine hP _ _ _ _ _ _ (kdN (c := 45) (by omega) (fun z => absurd hk45 z) (fun _ => ?_))
        repeat (first | (refine hP _ _ _ _ _ _ ?_; show P _ _ _ _ _ _) | (refine hP _ _ _ _ _ _ (And.intro (hN _ _ _ rfl) ?_); show P _ _ (aR _ _ :: _) _ _ _) | refine hP _ _ _ _ _ _ (And.intro (fun _ => ?_) (fun hc => absurd hc (by decide))) | refine hP _ _ _ _ _ _ (And.intro (fun hc => absurd hc (by decide)) (fun _ => ?_)))
        exact un 1 (Or.inl ⟨hk45, rfl⟩)
      · repeat (first | (refine hP _ _ _ _ _ _ ?_; show P _ _ _ _ _ _) | (refine hP _ _ _ _ _ _ (And.intro (hN _ _ _ rfl) ?_); show P _ _ (aR _ _ :: _) _ _ _) | refine hP _ _ _ _ _ _ (And.intro (fun _ => ?_) (fun hc => absurd hc (by decide))) | refine hP _ _ _ _ _ _ (And.intro (fun hc => absurd hc (by decide)) (fun _ => ?_)))
        rw [hR.2.1.2.1]
        refine hP _ _ _ _ _ _ (kdI (c := 40) (by omega) (fun hk40 => ?_) (fun hk40 => ?_))
        · repeat (first | (refine hP _ _ _ _ _ _ ?_; show P _ _ _ _ _ _) | (refine hP _ _ _ _ _ _ (And.intro (hN _ _ _ rfl) ?_); show P _ _ (aR _ _ :: _) _ _ _) | refine hP _ _ _ _ _ _ (And.intro (fun _ => ?_) (fun hc => absurd hc (by decide))) | refine hP _ _ _ _ _ _ (And.intro (fun hc => absurd hc (by decide)) (fun _ => ?_)))
          rw [hR.2.1.2.1]
          refine hP _ _ _ _ _ _ (kdN (c := 45) (by omega) (fun _ => ?_) (fun z => absurd z hk45))
          repeat (first | (refine hP _ _ _ _ _ _ ?_; show P _ _ _ _ _ _) | (refine hP _ _ _ _ _ _ (And.intro (hN _ _ _ rfl) ?_); show P _ _ (aR _ _ :: _) _ _ _) | refine hP _ _ _ _ _ _ (And.intro (fun _ => ?_) (fun hc => absurd hc (by decide))) | refine hP _ _ _ _ _ _ (And.intro (fun hc => absurd hc (by decide)) (fun _ => ?_)))
          exact un 0 (Or.inr ⟨hk40, rfl⟩)
        · have hE : P7 T (n + 1) 6 q o [] = (false, [], q) := by
            show (if kd T q = 2 then _ else _) = _
            rw [if_neg hk2, if_neg (by omega), if_neg hk45, if_neg hk40]
          repeat (first | (refine hP _ _ _ _ _ _ ?_; show P _ _ _ _ _ _) | (refine hP _ _ _ _ _ _ (And.intro (hN _ _ _ rfl) ?_); show P _ _ (aR _ _ :: _) _ _ _) | refine hP _ _ _ _ _ _ (And.intro (fun _ => ?_) (fun hc => absurd hc (by decide))) | refine hP _ _ _ _ _ _ (And.intro (fun hc => absurd hc (by decide)) (fun _ => ?_)))
          refine hP _ _ _ _ _ _ (And.intro (Or.inl rfl) (h0 S (Ag.rf _ _) (by rw [hE]) (by rw [hE]; exact hR.2.1.2.2.1)))
    · repeat (first | (refine hP _ _ _ _ _ _ ?_; show P _ _ _ _ _ _) | (refine hP _ _ _ _ _ _ (And.intro (hN _ _ _ rfl) ?_); show P _ _ (aR _ _ :: _) _ _ _) | refine hP _ _ _ _ _ _ (And.intro (fun _ => ?_) (fun hc => absurd hc (by decide))) | refine hP _ _ _ _ _ _ (And.intro (fun hc => absurd hc (by decide)) (fun _ => ?_)))
      rw [hR.2.1.2.1]
      refine hP _ _ _ _ _ _ (kdN (c := 2) (by omega) (fun _ => ?_) (fun z => absurd z hk2))
      repeat (first | (refine hP _ _ _ _ _ _ ?_; show P _ _ _ _ _ _) | (refine hP _ _ _ _ _ _ (And.intro (hN _ _ _ rfl) ?_); show P _ _ (aR _ _ :: _) _ _ _) | refine hP _ _ _ _ _ _ (And.intro (fun _ => ?_) (fun hc => absurd hc (by decide))) | refine hP _ _ _ _ _ _ (And.intro (fun hc => absurd hc (by decide)) (fun _ => ?_)))
      rw [hR.2.1.2.1]
      exact take _ (by omega) (by show (if kd T q = 2 then _ else _) = _; rw [if_neg hk2, if_pos (by omega)])
theorem c_all (T : Tx) : ∀ n, CP T n := by
  intro n
  induction n using Nat.strongRecOn with
  | ind n ih =>
    intro l q o hl hl10 hm hq ho
    cases n with
    | zero => omega
    | succ n =>
      have ih' : ∀ m, m ≤ n → CP T m := fun m hm => ih m (by omega)
      rcases hl with rfl | rfl | rfl | rfl | rfl | rfl | rfl | h
      · exact c_either ih' hm hq ho
      · exact c_both ih' hm hq ho
      · exact c_denied ih' hm hq ho
      · exact c_compared ih' hm hq ho
      · exact c_sum ih' hm hq ho
      · exact c_term ih' hm hq ho
      · exact c_one ih' hm hq ho
      · omega
