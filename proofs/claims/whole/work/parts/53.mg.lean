/-! The model's reader: sum, not, atom -/
theorem MS.w {S : St} {T : Tx} {t q o c : Nat} {N : Nat → Int32} (h : MS S T t q o N) (hc : isSg c = true) (hk : kd T q = c) : S.2.1 = lN c := by
  obtain ⟨h1, h2⟩ := (kd_sg hc).mpr hk
  rw [h.2.1.2.2.2.2 h1, h2]
theorem g_added {T : Tx} {t n q o : Nat} (ih : ∀ m, m ≤ n → MPs T t m) (hm : 20 * (T.1 - bg T q) + rk 4 < n + 1) (hq : q ≤ T.1) (ho : o ≤ 5) : MP1 T t (n + 1) 4 q o := by
  intro N d S K hd hN hM h1 h0
  have hrk : rk 4 = 6 := rfl
  have hrk1 : rk 5 = 5 := rfl
  have hdp : dq 4 = 7 := rfl
  have hdp1 : dq 5 = 6 := rfl
  show Call d m_X6_added [aR 40 0] S K
  refine Call.of (k := 10 * (5 - o) + 6) (by omega) (fun e he P hP => ?_)
  have out0 : ∀ (S1 : St) (v : Int32) (x2 x3 : Option AV), Ag mL S S1 → (P7 T (n + 1) 4 q o []).1 = false → S1.1 40 0 27 = 1 → S1.1 40 0 28 = nI (bg T (P7 T (n + 1) 4 q o []).2.2) → P 8 [some (aR 40 0), some (aI v), x2, x3] [aI 43, aR 40 0] S1 0 0 := by
    intro S1 v x2 x3 g1 e1 e27 e28
    refine hP _ _ _ _ _ _ (b_sign (by omega) e27 ?_)
    repeat (first | (refine hP _ _ _ _ _ _ ?_; show P _ _ _ _ _ _) | (refine hP _ _ _ _ _ _ (And.intro (hN _ _ _ rfl) ?_); show P _ _ (aR _ _ :: _) _ _ _) | refine hP _ _ _ _ _ _ (And.intro (fun _ => ?_) (fun hc => absurd hc (by decide))) | refine hP _ _ _ _ _ _ (And.intro (fun hc => absurd hc (by decide)) (fun _ => ?_)))
    refine hP _ _ _ _ _ _ (b_sign (by omega) e27 ?_)
    repeat (first | (refine hP _ _ _ _ _ _ ?_; show P _ _ _ _ _ _) | (refine hP _ _ _ _ _ _ (And.intro (hN _ _ _ rfl) ?_); show P _ _ (aR _ _ :: _) _ _ _) | refine hP _ _ _ _ _ _ (And.intro (fun _ => ?_) (fun hc => absurd hc (by decide))) | refine hP _ _ _ _ _ _ (And.intro (fun hc => absurd hc (by decide)) (fun _ => ?_)))
    exact hP _ _ _ _ _ _ (h0 S1 v g1 e1 e27 e28)
  have loop : ∀ m, m ≤ n → ∀ (q1 : Nat) (c1 : List Nat) (S1 : St) (v : Int32) (x2 x3 : Option AV), 20 * (T.1 - bg T q1) + 3 < m → P7 T (n + 1) 4 q o [] = P7 T m 14 q1 o c1 → Ag mL S S1 → MS S1 T t q1 o N → (∀ s, ev N c1 s = some (v :: s)) → P 8 [some (aR 40 0), some (aI v), x2, x3] [aI 43, aR 40 0] S1 0 0 := by
    intro m
    induction m with
    | zero => intro _ q1 c1 S1 v x2 x3 hz; omega
    | succ m ihm =>
      intro hmn q1 c1 S1 v x2 x3 hf hE g1 hM1 hev
      have hN1 := hN.up g1
      have hN := hN1
      have go : (kd T q1 = 43 ∨ kd T q1 = 45) → P 23 [some (aR 40 0), some (aI v), x2, x3] [] S1 0 0 := by
        intro hk
        have hb := kd_lt (T := T) (q := q1) (by omega)
        have hb2 := nx_bg (T := T) (q := q1) (by omega)
        have hE2 : P7 T (n + 1) 4 q o [] = (bif (P7 T m 5 (nx T q1) o []).1 then P7 T m 14 (P7 T m 5 (nx T q1) o []).2.2 o (c1 ++ (P7 T m 5 (nx T q1) o []).2.1 ++ [if kd T q1 = 43 then 10012 else 10013]) else P7 T m 5 (nx T q1) o []) := hE.trans (if_pos hk)
        have hPI := P7_in T m 5 (nx T q1) o [] (by simp [okL]) (nx_le hM1.2.2.1)
        have rest : ∀ y : Int32, (y = 1 ∧ kd T q1 = 43) ∨ (y = 0 ∧ kd T q1 = 45) → P 41 [some (aR 40 0), some (aI v), some (aI y), x3] [aR 40 0] S1 0 0 := by
          intro y hy
          repeat (first | (refine hP _ _ _ _ _ _ ?_; show P _ _ _ _ _ _) | (refine hP _ _ _ _ _ _ (And.intro (hN _ _ _ rfl) ?_); show P _ _ (aR _ _ :: _) _ _ _))
          refine hP _ _ _ _ _ _ (m_next (by omega) hN1 hM1 (by omega) (fun S2 g2 hM2 => ?_))
          have hN2 := hN1.up g2
          have hN := hN2
          repeat (first | (refine hP _ _ _ _ _ _ ?_; show P _ _ _ _ _ _) | (refine hP _ _ _ _ _ _ (And.intro (hN _ _ _ rfl) ?_); show P _ _ (aR _ _ :: _) _ _ _))
          refine hP _ _ _ _ _ _ (ih m (by omega) 5 (nx T q1) o (by simp [okN']) (by omega) (nx_le hM1.2.2.1) ho N e S2 _ (by omega) hN2 hM2 (fun S3 w g3 e3 hM3 hw => ?_) (fun S3 w g3 e3 e27 e28 => ?_))
          · have hN3 := hN2.up g3
            have hN := hN3
            have a2 := hPI.2 e3
            have a3 := a2.2.2 (by omega)
            have hle3 := bg_le hM3.2.2.1
            have next := fun (u : Int32) (hu : bop (if kd T q1 = 43 then 10012 else 10013) v w = u) (y2 y3 : Option AV) => ihm (by omega) (P7 T m 5 (nx T q1) o []).2.2 (c1 ++ (P7 T m 5 (nx T q1) o []).2.1 ++ [if kd T q1 = 43 then 10012 else 10013]) S3 u y2 y3 (by omega) (by rw [hE2, e3]; rfl) (g1.tr (g2.tr g3)) hM3 (by rw [← hu]; exact ev_bin hev hw (by split <;> omega))
            rcases hy with ⟨rfl, hk3⟩ | ⟨rfl, hk3⟩
            · repeat (first | (refine hP _ _ _ _ _ _ ?_; show P _ _ _ _ _ _) | (refine hP _ _ _ _ _ _ (And.intro (hN _ _ _ rfl) ?_); show P _ _ (aR _ _ :: _) _ _ _) | refine hP _ _ _ _ _ _ (And.intro (fun _ => ?_) (fun hc => absurd hc (by decide))) | refine hP _ _ _ _ _ _ (And.intro (fun hc => absurd hc (by decide)) (fun _ => ?_)))
              exact next (v + w) (by rw [if_pos hk3]; simp [bop]) _ _
            · repeat (first | (refine hP _ _ _ _ _ _ ?_; show P _ _ _ _ _ _) | (refine hP _ _ _ _ _ _ (And.intro (hN _ _ _ rfl) ?_); show P _ _ (aR _ _ :: _) _ _ _) | refine hP _ _ _ _ _ _ (And.intro (fun _ => ?_) (fun hc => absurd hc (by decide))) | refine hP _ _ _ _ _ _ (And.intro (fun hc => absurd hc (by decide)) (fun _ => ?_)))
              exact next (v - w) (by rw [if_neg (by omega)]; simp [bop]) _ _
          · have hN := hN2.up g3
            have out1 := fun (u : Int32) (y2 y3 : Option AV) => out0 S3 u y2 y3 (g1.tr (g2.tr g3)) (by rw [hE2, e3]; exact e3) e27 (by rw [hE2, e3]; exact e28)
            rcases hy with ⟨rfl, hk3⟩ | ⟨rfl, hk3⟩
            · repeat (first | (refine hP _ _ _ _ _ _ ?_; show P _ _ _ _ _ _) | (refine hP _ _ _ _ _ _ (And.intro (hN _ _ _ rfl) ?_); show P _ _ (aR _ _ :: _) _ _ _) | refine hP _ _ _ _ _ _ (And.intro (fun _ => ?_) (fun hc => absurd hc (by decide))) | refine hP _ _ _ _ _ _ (And.intro (fun hc => absurd hc (by decide)) (fun _ => ?_)))
              exact out1 (v + w) _ _
            · repeat (first | (refine hP _ _ _ _ _ _ ?_; show P _ _ _ _ _ _) | (refine hP _ _ _ _ _ _ (And.intro (hN _ _ _ rfl) ?_); show P _ _ (aR _ _ :: _) _ _ _) | refine hP _ _ _ _ _ _ (And.intro (fun _ => ?_) (fun hc => absurd hc (by decide))) | refine hP _ _ _ _ _ _ (And.intro (fun hc => absurd hc (by decide)) (fun _ => ?_)))
              exact out1 (v - w) _ _
        repeat (first | (refine hP _ _ _ _ _ _ ?_; show P _ _ _ _ _ _) | (refine hP _ _ _ _ _ _ (And.intro (hN _ _ _ rfl) ?_); show P _ _ (aR _ _ :: _) _ _ _))
        rcases hk with hk | hk
        · rw [hM1.w (c := 43) (by decide) hk]
          repeat (first | (refine hP _ _ _ _ _ _ ?_; show P _ _ _ _ _ _) | (refine hP _ _ _ _ _ _ (And.intro (hN _ _ _ rfl) ?_); show P _ _ (aR _ _ :: _) _ _ _) | refine hP _ _ _ _ _ _ (And.intro (fun _ => ?_) (fun hc => absurd hc (by decide))) | refine hP _ _ _ _ _ _ (And.intro (fun hc => absurd hc (by decide)) (fun _ => ?_)))
          exact rest 1 (Or.inl ⟨rfl, hk⟩)
        · rw [hM1.w (c := 45) (by decide) hk]
          repeat (first | (refine hP _ _ _ _ _ _ ?_; show P _ _ _ _ _ _) | (refine hP _ _ _ _ _ _ (And.intro (hN _ _ _ rfl) ?_); show P _ _ (aR _ _ :: _) _ _ _) | refine hP _ _ _ _ _ _ (And.intro (fun _ => ?_) (fun hc => absurd hc (by decide))) | refine hP _ _ _ _ _ _ (And.intro (fun hc => absurd hc (by decide)) (fun _ => ?_)))
          exact rest 0 (Or.inr ⟨rfl, hk⟩)
      refine hP _ _ _ _ _ _ (m_sign (c := 43) (by omega) hM1 (by decide) ?_)
      repeat (first | (refine hP _ _ _ _ _ _ ?_; show P _ _ _ _ _ _) | (refine hP _ _ _ _ _ _ (And.intro (hN _ _ _ rfl) ?_); show P _ _ (aR _ _ :: _) _ _ _))
      refine hP _ _ _ _ _ _ (bn3 (fun hk => ?_) (fun hk => ?_))
      · exact go (Or.inl (of_decide_eq_true hk))
      · have hk43 := of_decide_eq_false hk
        repeat (first | (refine hP _ _ _ _ _ _ ?_; show P _ _ _ _ _ _) | (refine hP _ _ _ _ _ _ (And.intro (hN _ _ _ rfl) ?_); show P _ _ (aR _ _ :: _) _ _ _))
        refine hP _ _ _ _ _ _ (m_sign (c := 45) (by omega) hM1 (by decide) ?_)
        repeat (first | (refine hP _ _ _ _ _ _ ?_; show P _ _ _ _ _ _) | (refine hP _ _ _ _ _ _ (And.intro (hN _ _ _ rfl) ?_); show P _ _ (aR _ _ :: _) _ _ _))
        refine hP _ _ _ _ _ _ (bn2 (fun hk2 => ?_) (fun hk2 => ?_))
        · have hk45 := of_decide_eq_false hk2
          have hE2 : P7 T (n + 1) 4 q o [] = (true, c1, q1) := hE.trans (if_neg (by omega))
          repeat (first | (refine hP _ _ _ _ _ _ ?_; show P _ _ _ _ _ _) | (refine hP _ _ _ _ _ _ (And.intro (hN _ _ _ rfl) ?_); show P _ _ (aR _ _ :: _) _ _ _))
          exact hP _ _ _ _ _ _ (h1 S1 v g1 (by rw [hE2]) (by rw [hE2]; exact hM1) (by rw [hE2]; exact hev))
        · exact go (Or.inr (of_decide_eq_true hk2))
  have hPI := P7_in T n 5 q o [] (by simp [okL]) hq
  have hE : P7 T (n + 1) 4 q o [] = (bif (P7 T n 5 q o []).1 then P7 T n 14 (P7 T n 5 q o []).2.2 o (P7 T n 5 q o []).2.1 else P7 T n 5 q o []) := rfl
  repeat (first | (refine hP _ _ _ _ _ _ ?_; show P _ _ _ _ _ _) | (refine hP _ _ _ _ _ _ (And.intro (hN _ _ _ rfl) ?_); show P _ _ (aR _ _ :: _) _ _ _))
  refine hP _ _ _ _ _ _ (ih n (Nat.le_refl _) 5 q o (by simp [okN']) (by omega) hq ho N e S _ (by omega) hN hM (fun S3 w g3 e3 hM3 hw => ?_) (fun S3 w g3 e3 e27 e28 => ?_))
  · have hN := hN.up g3
    have a2 := hPI.2 e3
    have a3 := a2.2.2 (by omega)
    have hle3 := bg_le hM3.2.2.1
    repeat (first | (refine hP _ _ _ _ _ _ ?_; show P _ _ _ _ _ _) | (refine hP _ _ _ _ _ _ (And.intro (hN _ _ _ rfl) ?_); show P _ _ (aR _ _ :: _) _ _ _))
    exact loop n (Nat.le_refl _) _ _ S3 w _ _ (by omega) (by rw [hE, e3]; rfl) g3 hM3 hw
  · have hN := hN.up g3
    repeat (first | (refine hP _ _ _ _ _ _ ?_; show P _ _ _ _ _ _) | (refine hP _ _ _ _ _ _ (And.intro (hN _ _ _ rfl) ?_); show P _ _ (aR _ _ :: _) _ _ _))
    exact out0 S3 w _ _ g3 (by rw [hE, e3]; exact e3) e27 (by rw [hE, e3]; exact e28)
theorem uop7 (v : Int32) : uop 10007 v = if v = 0 then 1 else 0 := by simp [uop]
theorem g_not {T : Tx} {t n q o : Nat} (ih : ∀ m, m ≤ n → MPs T t m) (hm : 20 * (T.1 - bg T q) + rk 2 < n + 1) (hq : q ≤ T.1) (ho : o ≤ 5) : MP1 T t (n + 1) 2 q o := by
  intro N d S K hd hN hM h1 h0
  have hrk : rk 2 = 8 := rfl
  have hrk1 : rk 4 = 6 := rfl
  have hdp : dq 2 = 8 := rfl
  have hdp1 : dq 4 = 7 := rfl
  show Call d m_X6_not [aR 40 0] S K
  refine Call.of (k := 10 * (5 - o) + 7) (by omega) (fun e he P hP => ?_)
  repeat (first | (refine hP _ _ _ _ _ _ ?_; show P _ _ _ _ _ _) | (refine hP _ _ _ _ _ _ (And.intro (hN _ _ _ rfl) ?_); show P _ _ (aR _ _ :: _) _ _ _))
  refine hP _ _ _ _ _ _ (m_word (w := [110, 111, 116]) (k := 205) (by omega) hN hM (by decide) ?_)
  repeat (first | (refine hP _ _ _ _ _ _ ?_; show P _ _ _ _ _ _) | (refine hP _ _ _ _ _ _ (And.intro (hN _ _ _ rfl) ?_); show P _ _ (aR _ _ :: _) _ _ _))
  refine hP _ _ _ _ _ _ (bn2 (fun hk => ?_) (fun hk => ?_))
  · have hk : ¬ kd T q = 205 := of_decide_eq_false hk
    obtain ⟨n', rfl⟩ : ∃ n', n = n' + 1 := ⟨n - 1, by omega⟩
    have hE0 : P7 T (n' + 1 + 1) 2 q o [] = P7 T (n' + 1) 3 q o [] := if_neg hk
    have hE : P7 T (n' + 1 + 1) 2 q o [] = (bif (P7 T n' 4 q o []).1 then (if kd T (P7 T n' 4 q o []).2.2 = 60 ∨ kd T (P7 T n' 4 q o []).2.2 = 61 then (bif (P7 T n' 4 (nx T (P7 T n' 4 q o []).2.2) o []).1 then (true, (P7 T n' 4 q o []).2.1 ++ (P7 T n' 4 (nx T (P7 T n' 4 q o []).2.2) o []).2.1 ++ [if kd T (P7 T n' 4 q o []).2.2 = 60 then 10010 else 10011], (P7 T n' 4 (nx T (P7 T n' 4 q o []).2.2) o []).2.2) else P7 T n' 4 (nx T (P7 T n' 4 q o []).2.2) o []) else P7 T n' 4 q o []) else P7 T n' 4 q o []) := hE0
    have hPI := P7_in T n' 4 q o [] (by simp [okL]) hq
    repeat (first | (refine hP _ _ _ _ _ _ ?_; show P _ _ _ _ _ _) | (refine hP _ _ _ _ _ _ (And.intro (hN _ _ _ rfl) ?_); show P _ _ (aR _ _ :: _) _ _ _))
    refine hP _ _ _ _ _ _ (ih n' (by omega) 4 q o (by simp [okN']) (by omega) hq ho N e S _ (by omega) hN hM (fun S3 v g3 e3 hM3 hv => ?_) (fun S3 v g3 e3 e27 e28 => ?_))
    · have hN3 := hN.up g3
      have hN := hN3
      have a2 := hPI.2 e3
      have a3 := a2.2.2 (by omega)
      have hle3 := bg_le hM3.2.2.1
      rw [e3] at hE
      simp only [cond] at hE
      generalize hr : P7 T n' 4 q o [] = r at hE hM3 a2 a3 hle3 hPI e3 hv
      have go : (kd T r.2.2 = 60 ∨ kd T r.2.2 = 61) → P 77 [some (aR 40 0), some (aI v), none, none] [] S3 0 0 := by
        intro hk6
        rw [if_pos hk6] at hE
        have hb := kd_lt (T := T) (q := r.2.2) (by omega)
        have hb2 := nx_bg (T := T) (q := r.2.2) (by omega)
        have rest : ∀ y : Int32, (y = 1 ∧ kd T r.2.2 = 60) ∨ (y = 0 ∧ kd T r.2.2 = 61) → P 95 [some (aR 40 0), some (aI v), some (aI y), none] [aR 40 0] S3 0 0 := by
          intro y hy
          repeat (first | (refine hP _ _ _ _ _ _ ?_; show P _ _ _ _ _ _) | (refine hP _ _ _ _ _ _ (And.intro (hN _ _ _ rfl) ?_); show P _ _ (aR _ _ :: _) _ _ _))
          refine hP _ _ _ _ _ _ (m_next (by omega) hN3 hM3 (by omega) (fun S4 g4 hM4 => ?_))
          have hN4 := hN3.up g4
          have hN := hN4
          repeat (first | (refine hP _ _ _ _ _ _ ?_; show P _ _ _ _ _ _) | (refine hP _ _ _ _ _ _ (And.intro (hN _ _ _ rfl) ?_); show P _ _ (aR _ _ :: _) _ _ _))
          refine hP _ _ _ _ _ _ (ih n' (by omega) 4 (nx T r.2.2) o (by simp [okN']) (by omega) (nx_le hM3.2.2.1) ho N e S4 _ (by omega) hN4 hM4 (fun S5 w g5 e5 hM5 hw => ?_) (fun S5 w g5 e5 e27 e28 => ?_))
          · rw [e5] at hE
            simp only [cond] at hE
            have fin := fun (u : Int32) (hu : bop (if kd T r.2.2 = 60 then 10010 else 10011) v w = u) => h1 S5 u (g3.tr (g4.tr g5)) (by rw [hE]) (by rw [hE]; exact hM5) (by rw [hE, ← hu]; exact ev_bin hv hw (by split <;> omega))
            rcases hy with ⟨rfl, hk3⟩ | ⟨rfl, hk3⟩
            · rw [if_pos hk3] at fin
              repeat (first | (refine hP _ _ _ _ _ _ ?_; show P _ _ _ _ _ _) | (refine hP _ _ _ _ _ _ (And.intro (hN _ _ _ rfl) ?_); show P _ _ (aR _ _ :: _) _ _ _) | refine hP _ _ _ _ _ _ (And.intro (fun _ => ?_) (fun hc => absurd hc (by decide))) | refine hP _ _ _ _ _ _ (And.intro (fun hc => absurd hc (by decide)) (fun _ => ?_)))
              refine hP _ _ _ _ _ _ (And.intro (fun z => ?_) (fun z => ?_))
              · repeat (first | (refine hP _ _ _ _ _ _ ?_; show P _ _ _ _ _ _) | (refine hP _ _ _ _ _ _ (And.intro (hN _ _ _ rfl) ?_); show P _ _ (aR _ _ :: _) _ _ _) | refine hP _ _ _ _ _ _ (And.intro (fun _ => ?_) (fun hc => absurd hc (by decide))) | refine hP _ _ _ _ _ _ (And.intro (fun hc => absurd hc (by decide)) (fun _ => ?_)))
                exact hP _ _ _ _ _ _ (fin 0 (by simp [bop, Int32.not_lt.mpr z]))
              · repeat (first | (refine hP _ _ _ _ _ _ ?_; show P _ _ _ _ _ _) | (refine hP _ _ _ _ _ _ (And.intro (hN _ _ _ rfl) ?_); show P _ _ (aR _ _ :: _) _ _ _) | refine hP _ _ _ _ _ _ (And.intro (fun _ => ?_) (fun hc => absurd hc (by decide))) | refine hP _ _ _ _ _ _ (And.intro (fun hc => absurd hc (by decide)) (fun _ => ?_)))
                exact hP _ _ _ _ _ _ (fin 1 (by simp [bop, Int32.not_le.mp z]))
            · rw [if_neg (by omega)] at fin
              repeat (first | (refine hP _ _ _ _ _ _ ?_; show P _ _ _ _ _ _) | (refine hP _ _ _ _ _ _ (And.intro (hN _ _ _ rfl) ?_); show P _ _ (aR _ _ :: _) _ _ _) | refine hP _ _ _ _ _ _ (And.intro (fun _ => ?_) (fun hc => absurd hc (by decide))) | refine hP _ _ _ _ _ _ (And.intro (fun hc => absurd hc (by decide)) (fun _ => ?_)))
              refine hP _ _ _ _ _ _ (And.intro (fun z => ?_) (fun z => ?_))
              · repeat (first | (refine hP _ _ _ _ _ _ ?_; show P _ _ _ _ _ _) | (refine hP _ _ _ _ _ _ (And.intro (hN _ _ _ rfl) ?_); show P _ _ (aR _ _ :: _) _ _ _) | refine hP _ _ _ _ _ _ (And.intro (fun _ => ?_) (fun hc => absurd hc (by decide))) | refine hP _ _ _ _ _ _ (And.intro (fun hc => absurd hc (by decide)) (fun _ => ?_)))
                exact hP _ _ _ _ _ _ (fin 0 (by simp [bop, z]))
              · repeat (first | (refine hP _ _ _ _ _ _ ?_; show P _ _ _ _ _ _) | (refine hP _ _ _ _ _ _ (And.intro (hN _ _ _ rfl) ?_); show P _ _ (aR _ _ :: _) _ _ _) | refine hP _ _ _ _ _ _ (And.intro (fun _ => ?_) (fun hc => absurd hc (by decide))) | refine hP _ _ _ _ _ _ (And.intro (fun hc => absurd hc (by decide)) (fun _ => ?_)))
                exact hP _ _ _ _ _ _ (fin 1 (by simp [bop, z]))
          · rw [e5] at hE
            simp only [cond] at hE
            have fin := fun (u : Int32) => h0 S5 u (g3.tr (g4.tr g5)) (by rw [hE]; exact e5) e27 (by rw [hE]; exact e28)
            rcases hy with ⟨rfl, hk3⟩ | ⟨rfl, hk3⟩
            · repeat (first | (refine hP _ _ _ _ _ _ ?_; show P _ _ _ _ _ _) | (refine hP _ _ _ _ _ _ (And.intro (hN _ _ _ rfl) ?_); show P _ _ (aR _ _ :: _) _ _ _) | refine hP _ _ _ _ _ _ (And.intro (fun _ => ?_) (fun hc => absurd hc (by decide))) | refine hP _ _ _ _ _ _ (And.intro (fun hc => absurd hc (by decide)) (fun _ => ?_)))
              refine hP _ _ _ _ _ _ (And.intro (fun z => ?_) (fun z => ?_))
              · repeat (first | (refine hP _ _ _ _ _ _ ?_; show P _ _ _ _ _ _) | (refine hP _ _ _ _ _ _ (And.intro (hN _ _ _ rfl) ?_); show P _ _ (aR _ _ :: _) _ _ _) | refine hP _ _ _ _ _ _ (And.intro (fun _ => ?_) (fun hc => absurd hc (by decide))) | refine hP _ _ _ _ _ _ (And.intro (fun hc => absurd hc (by decide)) (fun _ => ?_)))
                exact hP _ _ _ _ _ _ (fin 0)
              · repeat (first | (refine hP _ _ _ _ _ _ ?_; show P _ _ _ _ _ _) | (refine hP _ _ _ _ _ _ (And.intro (hN _ _ _ rfl) ?_); show P _ _ (aR _ _ :: _) _ _ _) | refine hP _ _ _ _ _ _ (And.intro (fun _ => ?_) (fun hc => absurd hc (by decide))) | refine hP _ _ _ _ _ _ (And.intro (fun hc => absurd hc (by decide)) (fun _ => ?_)))
                exact hP _ _ _ _ _ _ (fin 1)
            · repeat (first | (refine hP _ _ _ _ _ _ ?_; show P _ _ _ _ _ _) | (refine hP _ _ _ _ _ _ (And.intro (hN _ _ _ rfl) ?_); show P _ _ (aR _ _ :: _) _ _ _) | refine hP _ _ _ _ _ _ (And.intro (fun _ => ?_) (fun hc => absurd hc (by decide))) | refine hP _ _ _ _ _ _ (And.intro (fun hc => absurd hc (by decide)) (fun _ => ?_)))
              refine hP _ _ _ _ _ _ (And.intro (fun z => ?_) (fun z => ?_))
              · repeat (first | (refine hP _ _ _ _ _ _ ?_; show P _ _ _ _ _ _) | (refine hP _ _ _ _ _ _ (And.intro (hN _ _ _ rfl) ?_); show P _ _ (aR _ _ :: _) _ _ _) | refine hP _ _ _ _ _ _ (And.intro (fun _ => ?_) (fun hc => absurd hc (by decide))) | refine hP _ _ _ _ _ _ (And.intro (fun hc => absurd hc (by decide)) (fun _ => ?_)))
                exact hP _ _ _ _ _ _ (fin 0)
              · repeat (first | (refine hP _ _ _ _ _ _ ?_; show P _ _ _ _ _ _) | (refine hP _ _ _ _ _ _ (And.intro (hN _ _ _ rfl) ?_); show P _ _ (aR _ _ :: _) _ _ _) | refine hP _ _ _ _ _ _ (And.intro (fun _ => ?_) (fun hc => absurd hc (by decide))) | refine hP _ _ _ _ _ _ (And.intro (fun hc => absurd hc (by decide)) (fun _ => ?_)))
                exact hP _ _ _ _ _ _ (fin 1)
        repeat (first | (refine hP _ _ _ _ _ _ ?_; show P _ _ _ _ _ _) | (refine hP _ _ _ _ _ _ (And.intro (hN _ _ _ rfl) ?_); show P _ _ (aR _ _ :: _) _ _ _))
        rcases hk6 with hk6 | hk6
        · rw [hM3.w (c := 60) (by decide) hk6]
          repeat (first | (refine hP _ _ _ _ _ _ ?_; show P _ _ _ _ _ _) | (refine hP _ _ _ _ _ _ (And.intro (hN _ _ _ rfl) ?_); show P _ _ (aR _ _ :: _) _ _ _) | refine hP _ _ _ _ _ _ (And.intro (fun _ => ?_) (fun hc => absurd hc (by decide))) | refine hP _ _ _ _ _ _ (And.intro (fun hc => absurd hc (by decide)) (fun _ => ?_)))
          exact rest 1 (Or.inl ⟨rfl, hk6⟩)
        · rw [hM3.w (c := 61) (by decide) hk6]
          repeat (first | (refine hP _ _ _ _ _ _ ?_; show P _ _ _ _ _ _) | (refine hP _ _ _ _ _ _ (And.intro (hN _ _ _ rfl) ?_); show P _ _ (aR _ _ :: _) _ _ _) | refine hP _ _ _ _ _ _ (And.intro (fun _ => ?_) (fun hc => absurd hc (by decide))) | refine hP _ _ _ _ _ _ (And.intro (fun hc => absurd hc (by decide)) (fun _ => ?_)))
          exact rest 0 (Or.inr ⟨rfl, hk6⟩)
      repeat (first | (refine hP _ _ _ _ _ _ ?_; show P _ _ _ _ _ _) | (refine hP _ _ _ _ _ _ (And.intro (hN _ _ _ rfl) ?_); show P _ _ (aR _ _ :: _) _ _ _))
      refine hP _ _ _ _ _ _ (m_sign (c := 60) (by omega) hM3 (by decide) ?_)
      repeat (first | (refine hP _ _ _ _ _ _ ?_; show P _ _ _ _ _ _) | (refine hP _ _ _ _ _ _ (And.intro (hN _ _ _ rfl) ?_); show P _ _ (aR _ _ :: _) _ _ _))
      refine hP _ _ _ _ _ _ (bn3 (fun hk6 => ?_) (fun hk6 => ?_))
      · exact go (Or.inl (of_decide_eq_true hk6))
      · have hk60 := of_decide_eq_false hk6
        repeat (first | (refine hP _ _ _ _ _ _ ?_; show P _ _ _ _ _ _) | (refine hP _ _ _ _ _ _ (And.intro (hN _ _ _ rfl) ?_); show P _ _ (aR _ _ :: _) _ _ _))
        refine hP _ _ _ _ _ _ (m_sign (c := 61) (by omega) hM3 (by decide) ?_)
        repeat (first | (refine hP _ _ _ _ _ _ ?_; show P _ _ _ _ _ _) | (refine hP _ _ _ _ _ _ (And.intro (hN _ _ _ rfl) ?_); show P _ _ (aR _ _ :: _) _ _ _))
        refine hP _ _ _ _ _ _ (bn3 (fun hk7 => ?_) (fun hk7 => ?_))
        · exact go (Or.inr (of_decide_eq_true hk7))
        · have hk61 := of_decide_eq_false hk7
          rw [if_neg (by omega)] at hE
          repeat (first | (refine hP _ _ _ _ _ _ ?_; show P _ _ _ _ _ _) | (refine hP _ _ _ _ _ _ (And.intro (hN _ _ _ rfl) ?_); show P _ _ (aR _ _ :: _) _ _ _))
          exact hP _ _ _ _ _ _ (h1 S3 v g3 (by rw [hE]; exact e3) (by rw [hE]; exact hM3) (by rw [hE]; exact hv))
    · rw [e3] at hE
      simp only [cond] at hE
      repeat (first | (refine hP _ _ _ _ _ _ ?_; show P _ _ _ _ _ _) | (refine hP _ _ _ _ _ _ (And.intro (hN _ _ _ rfl) ?_); show P _ _ (aR _ _ :: _) _ _ _))
      refine hP _ _ _ _ _ _ (b_sign (by omega) e27 ?_)
      repeat (first | (refine hP _ _ _ _ _ _ ?_; show P _ _ _ _ _ _) | (refine hP _ _ _ _ _ _ (And.intro (hN _ _ _ rfl) ?_); show P _ _ (aR _ _ :: _) _ _ _) | refine hP _ _ _ _ _ _ (And.intro (fun _ => ?_) (fun hc => absurd hc (by decide))) | refine hP _ _ _ _ _ _ (And.intro (fun hc => absurd hc (by decide)) (fun _ => ?_)))
      refine hP _ _ _ _ _ _ (b_sign (by omega) e27 ?_)
      repeat (first | (refine hP _ _ _ _ _ _ ?_; show P _ _ _ _ _ _) | (refine hP _ _ _ _ _ _ (And.intro (hN _ _ _ rfl) ?_); show P _ _ (aR _ _ :: _) _ _ _) | refine hP _ _ _ _ _ _ (And.intro (fun _ => ?_) (fun hc => absurd hc (by decide))) | refine hP _ _ _ _ _ _ (And.intro (fun hc => absurd hc (by decide)) (fun _ => ?_)))
      exact hP _ _ _ _ _ _ (h0 S3 v g3 (by rw [hE]; exact e3) e27 (by rw [hE]; exact e28))
  · have hk : kd T q = 205 := of_decide_eq_true hk
    have hb := kd_lt (T := T) (q := q) (by omega)
    have hb2 := nx_bg (T := T) (q := q) (by omega)
    have hE : P7 T (n + 1) 2 q o [] = (if 5 ≤ o then (false, [], q) else bif (P7 T n 2 (nx T q) (o + 1) []).1 then (true, (P7 T n 2 (nx T q) (o + 1) []).2.1 ++ [10007], (P7 T n 2 (nx T q) (o + 1) []).2.2) else P7 T n 2 (nx T q) (o + 1) []) := if_pos hk
    repeat (first | (refine hP _ _ _ _ _ _ ?_; show P _ _ _ _ _ _) | (refine hP _ _ _ _ _ _ (And.intro (hN _ _ _ rfl) ?_); show P _ _ (aR _ _ :: _) _ _ _))
    refine hP _ _ _ _ _ _ (m_opens (by omega) ho hN hM (by omega) (fun h5 S2 g2 hM2 => ?_) (fun h5 S2 g2 e27 e28 => ?_))
    · rw [if_neg h5] at hE
      have hN2 := hN.up g2
      have hN := hN2
      repeat (first | (refine hP _ _ _ _ _ _ ?_; show P _ _ _ _ _ _) | (refine hP _ _ _ _ _ _ (And.intro (hN _ _ _ rfl) ?_); show P _ _ (aR _ _ :: _) _ _ _) | refine hP _ _ _ _ _ _ (And.intro (fun _ => ?_) (fun hc => absurd hc (by decide))) | refine hP _ _ _ _ _ _ (And.intro (fun hc => absurd hc (by decide)) (fun _ => ?_)))
      refine hP _ _ _ _ _ _ (ih n (Nat.le_refl _) 2 (nx T q) (o + 1) (by simp [okN']) (by omega) (nx_le hq) (by omega) N e S2 _ (by omega) hN2 hM2 (fun S3 v g3 e3 hM3 hv => ?_) (fun S3 v g3 e3 e27 e28 => ?_))
      · have hN := hN2.up g3
        rw [e3] at hE
        simp only [cond] at hE
        have fin := fun (u : Int32) (hu : uop 10007 v = u) => h1 (ivSet S3 40 0 26 (nI o)) u ((g2.tr g3).tr (Ag.ml (by omega) (by omega))) (by rw [hE]) (by rw [hE]; exact hM3.o) (by rw [hE, ← hu]; exact ev_un hv (Or.inr rfl))
        repeat (first | (refine hP _ _ _ _ _ _ ?_; show P _ _ _ _ _ _) | (refine hP _ _ _ _ _ _ (And.intro (hN _ _ _ rfl) ?_); show P _ _ (aR _ _ :: _) _ _ _))
        rw [hM3.2.2.2.1, nI_pred]
        refine hP _ _ _ _ _ _ (And.intro (fun z => ?_) (fun z => ?_))
        · repeat (first | (refine hP _ _ _ _ _ _ ?_; show P _ _ _ _ _ _) | (refine hP _ _ _ _ _ _ (And.intro (hN _ _ _ rfl) ?_); show P _ _ (aR _ _ :: _) _ _ _))
          exact hP _ _ _ _ _ _ (fin 0 (by simp [uop, z]))
        · repeat (first | (refine hP _ _ _ _ _ _ ?_; show P _ _ _ _ _ _) | (refine hP _ _ _ _ _ _ (And.intro (hN _ _ _ rfl) ?_); show P _ _ (aR _ _ :: _) _ _ _))
          exact hP _ _ _ _ _ _ (fin 1 (by simp [uop, z]))
      · have hN := hN2.up g3
        rw [e3] at hE
        simp only [cond] at hE
        repeat (first | (refine hP _ _ _ _ _ _ ?_; show P _ _ _ _ _ _) | (refine hP _ _ _ _ _ _ (And.intro (hN _ _ _ rfl) ?_); show P _ _ (aR _ _ :: _) _ _ _))
        have fin := fun (u : Int32) => h0 (ivSet S3 40 0 26 (S3.1 40 0 26 - 1)) u ((g2.tr g3).tr (Ag.ml (by omega) (by omega))) (by rw [hE]; exact e3) (by rw [iv_ne (by omega)]; exact e27) (by rw [iv_ne (by omega), hE]; exact e28)
        refine hP _ _ _ _ _ _ (And.intro (fun z => ?_) (fun z => ?_))
        · repeat (first | (refine hP _ _ _ _ _ _ ?_; show P _ _ _ _ _ _) | (refine hP _ _ _ _ _ _ (And.intro (hN _ _ _ rfl) ?_); show P _ _ (aR _ _ :: _) _ _ _))
          exact hP _ _ _ _ _ _ (fin 0)
        · repeat (first | (refine hP _ _ _ _ _ _ ?_; show P _ _ _ _ _ _) | (refine hP _ _ _ _ _ _ (And.intro (hN _ _ _ rfl) ?_); show P _ _ (aR _ _ :: _) _ _ _))
          exact hP _ _ _ _ _ _ (fin 1)
    · rw [if_pos h5] at hE
      repeat (first | (refine hP _ _ _ _ _ _ ?_; show P _ _ _ _ _ _) | (refine hP _ _ _ _ _ _ (And.intro (hN _ _ _ rfl) ?_); show P _ _ (aR _ _ :: _) _ _ _) | refine hP _ _ _ _ _ _ (And.intro (fun _ => ?_) (fun hc => absurd hc (by decide))) | refine hP _ _ _ _ _ _ (And.intro (fun hc => absurd hc (by decide)) (fun _ => ?_)))
      exact hP _ _ _ _ _ _ (h0 S2 0 g2 (by rw [hE]) e27 (by rw [hE]; exact e28))
/-- a name that is one -/
theorem g_name {T : Tx} {t q o d : Nat} {S : St} {K : KT} {N : Nat → Int32} (hd : 4 ≤ d) (hN : NN S) (hM : MS S T t q o N) (h1 : 10000 ≤ kd T q → K (some (aI (N (kd T q - 10000)))) S) (h0 : kd T q < 10000 → ∀ S', Ag mL S S' → S'.1 40 0 27 = 1 → S'.1 40 0 28 = nI (bg T q) → K (some (aI 0)) S') : Call d m_X6_name [aR 40 0] S K := by
  refine Call.of (k := 3) hd (fun e he P hP => ?_)
  have hnm := hM.2.2.2.2.2
  have hkd := kd_le T q
  repeat (first | (refine hP _ _ _ _ _ _ ?_; show P _ _ _ _ _ _) | (refine hP _ _ _ _ _ _ (And.intro (hN _ _ _ rfl) ?_); show P _ _ (aR _ _ :: _) _ _ _))
  refine hP _ _ _ _ _ _ (m_word (w := [100, 101, 98, 116]) (k := 10000) (by omega) hN hM (by decide) ?_)
  repeat (first | (refine hP _ _ _ _ _ _ ?_; show P _ _ _ _ _ _) | (refine hP _ _ _ _ _ _ (And.intro (hN _ _ _ rfl) ?_); show P _ _ (aR _ _ :: _) _ _ _))
  refine hP _ _ _ _ _ _ (bn2 (fun hk0 => ?_) (fun hk0 => ?_))
  rotate_left
  · have hk : kd T q = 10000 := of_decide_eq_true hk0
    have h1 := h1 (by omega)
    rw [hk] at h1
    repeat (first | (refine hP _ _ _ _ _ _ ?_; show P _ _ _ _ _ _) | (refine hP _ _ _ _ _ _ (And.intro (hN _ _ _ rfl) ?_); show P _ _ (aR _ _ :: _) _ _ _))
    rw [show S.1 40 0 14 = N 0 from hnm 0 (by omega)]
    exact hP _ _ _ _ _ _ (h1)
  have hk0 := of_decide_eq_false hk0
  repeat (first | (refine hP _ _ _ _ _ _ ?_; show P _ _ _ _ _ _) | (refine hP _ _ _ _ _ _ (And.intro (hN _ _ _ rfl) ?_); show P _ _ (aR _ _ :: _) _ _ _))
  refine hP _ _ _ _ _ _ (m_word (w := [111, 119, 101, 100]) (k := 10001) (by omega) hN hM (by decide) ?_)
  repeat (first | (refine hP _ _ _ _ _ _ ?_; show P _ _ _ _ _ _) | (refine hP _ _ _ _ _ _ (And.intro (hN _ _ _ rfl) ?_); show P _ _ (aR _ _ :: _) _ _ _))
  refine hP _ _ _ _ _ _ (bn2 (fun hk1 => ?_) (fun hk1 => ?_))
  rotate_left
  · have hk : kd T q = 10001 := of_decide_eq_true hk1
    have h1 := h1 (by omega)
    rw [hk] at h1
    repeat (first | (refine hP _ _ _ _ _ _ ?_; show P _ _ _ _ _ _) | (refine hP _ _ _ _ _ _ (And.intro (hN _ _ _ rfl) ?_); show P _ _ (aR _ _ :: _) _ _ _))
    rw [show S.1 40 0 15 = N 1 from hnm 1 (by omega)]
    exact hP _ _ _ _ _ _ (h1)
  have hk1 := of_decide_eq_false hk1
  repeat (first | (refine hP _ _ _ _ _ _ ?_; show P _ _ _ _ _ _) | (refine hP _ _ _ _ _ _ (And.intro (hN _ _ _ rfl) ?_); show P _ _ (aR _ _ :: _) _ _ _))
  refine hP _ _ _ _ _ _ (m_word (w := [110, 117, 109, 98, 101, 114]) (k := 10002) (by omega) hN hM (by decide) ?_)
  repeat (first | (refine hP _ _ _ _ _ _ ?_; show P _ _ _ _ _ _) | (refine hP _ _ _ _ _ _ (And.intro (hN _ _ _ rfl) ?_); show P _ _ (aR _ _ :: _) _ _ _))
  refine hP _ _ _ _ _ _ (bn2 (fun hk2 => ?_) (fun hk2 => ?_))
  rotate_left
  · have hk : kd T q = 10002 := of_decide_eq_true hk2
    have h1 := h1 (by omega)
    rw [hk] at h1
    repeat (first | (refine hP _ _ _ _ _ _ ?_; show P _ _ _ _ _ _) | (refine hP _ _ _ _ _ _ (And.intro (hN _ _ _ rfl) ?_); show P _ _ (aR _ _ :: _) _ _ _))
    rw [show S.1 40 0 16 = N 2 from hnm 2 (by omega)]
    exact hP _ _ _ _ _ _ (h1)
  have hk2 := of_decide_eq_false hk2
  repeat (first | (refine hP _ _ _ _ _ _ ?_; show P _ _ _ _ _ _) | (refine hP _ _ _ _ _ _ (And.intro (hN _ _ _ rfl) ?_); show P _ _ (aR _ _ :: _) _ _ _))
  refine hP _ _ _ _ _ _ (m_word (w := [114, 111, 117, 110, 100]) (k := 10003) (by omega) hN hM (by decide) ?_)
  repeat (first | (refine hP _ _ _ _ _ _ ?_; show P _ _ _ _ _ _) | (refine hP _ _ _ _ _ _ (And.intro (hN _ _ _ rfl) ?_); show P _ _ (aR _ _ :: _) _ _ _))
  refine hP _ _ _ _ _ _ (bn2 (fun hk3 => ?_) (fun hk3 => ?_))
  rotate_left
  · have hk : kd T q = 10003 := of_decide_eq_true hk3
    have h1 := h1 (by omega)
    rw [hk] at h1
    repeat (first | (refine hP _ _ _ _ _ _ ?_; show P _ _ _ _ _ _) | (refine hP _ _ _ _ _ _ (And.intro (hN _ _ _ rfl) ?_); show P _ _ (aR _ _ :: _) _ _ _))
    rw [show S.1 40 0 17 = N 3 from hnm 3 (by omega)]
    exact hP _ _ _ _ _ _ (h1)
  have hk3 := of_decide_eq_false hk3
  repeat (first | (refine hP _ _ _ _ _ _ ?_; show P _ _ _ _ _ _) | (refine hP _ _ _ _ _ _ (And.intro (hN _ _ _ rfl) ?_); show P _ _ (aR _ _ :: _) _ _ _))
  refine hP _ _ _ _ _ _ (m_word (w := [100, 111, 110, 101]) (k := 10004) (by omega) hN hM (by decide) ?_)
  repeat (first | (refine hP _ _ _ _ _ _ ?_; show P _ _ _ _ _ _) | (refine hP _ _ _ _ _ _ (And.intro (hN _ _ _ rfl) ?_); show P _ _ (aR _ _ :: _) _ _ _))
  refine hP _ _ _ _ _ _ (bn2 (fun hk4 => ?_) (fun hk4 => ?_))
  rotate_left
  · have hk : kd T q = 10004 := of_decide_eq_true hk4
    have h1 := h1 (by omega)
    rw [hk] at h1
    repeat (first | (refine hP _ _ _ _ _ _ ?_; show P _ _ _ _ _ _) | (refine hP _ _ _ _ _ _ (And.intro (hN _ _ _ rfl) ?_); show P _ _ (aR _ _ :: _) _ _ _))
    rw [show S.1 40 0 18 = N 4 from hnm 4 (by omega)]
    exact hP _ _ _ _ _ _ (h1)
  have hk4 := of_decide_eq_false hk4
  repeat (first | (refine hP _ _ _ _ _ _ ?_; show P _ _ _ _ _ _) | (refine hP _ _ _ _ _ _ (And.intro (hN _ _ _ rfl) ?_); show P _ _ (aR _ _ :: _) _ _ _))
  refine hP _ _ _ _ _ _ (m_word (w := [110, 105, 103, 104, 116]) (k := 10005) (by omega) hN hM (by decide) ?_)
  repeat (first | (refine hP _ _ _ _ _ _ ?_; show P _ _ _ _ _ _) | (refine hP _ _ _ _ _ _ (And.intro (hN _ _ _ rfl) ?_); show P _ _ (aR _ _ :: _) _ _ _))
  refine hP _ _ _ _ _ _ (bn2 (fun hk5 => ?_) (fun hk5 => ?_))
  rotate_left
  · have hk : kd T q = 10005 := of_decide_eq_true hk5
    have h1 := h1 (by omega)
    rw [hk] at h1
    repeat (first | (refine hP _ _ _ _ _ _ ?_; show P _ _ _ _ _ _) | (refine hP _ _ _ _ _ _ (And.intro (hN _ _ _ rfl) ?_); show P _ _ (aR _ _ :: _) _ _ _))
    rw [show S.1 40 0 19 = N 5 from hnm 5 (by omega)]
    exact hP _ _ _ _ _ _ (h1)
  have hk5 := of_decide_eq_false hk5
  repeat (first | (refine hP _ _ _ _ _ _ ?_; show P _ _ _ _ _ _) | (refine hP _ _ _ _ _ _ (And.intro (hN _ _ _ rfl) ?_); show P _ _ (aR _ _ :: _) _ _ _))
  refine hP _ _ _ _ _ _ (n_fail (by omega) hM.2.2.2.2.1 hM.2.1.1 (fun S3 g3 e27 e28 => ?_))
  repeat (first | (refine hP _ _ _ _ _ _ ?_; show P _ _ _ _ _ _) | (refine hP _ _ _ _ _ _ (And.intro (hN _ _ _ rfl) ?_); show P _ _ (aR _ _ :: _) _ _ _))
  exact hP _ _ _ _ _ _ (h0 (by omega) S3 g3 e27 e28)
theorem g_atom {T : Tx} {t n q o : Nat} (ih : ∀ m, m ≤ n → MPs T t m) (hm : 20 * (T.1 - bg T q) + rk 6 < n + 1) (hq : q ≤ T.1) (ho : o ≤ 5) : MP1 T t (n + 1) 6 q o := by
  intro N d S K hd hN hM h1 h0
  have hrk : rk 6 = 4 := rfl
  have hrk0 : rk 0 = 10 := rfl
  have hdp : dq 6 = 5 := rfl
  have hdp0 : dq 0 = 10 := rfl
  have hN0 := hN
  show Call d m_X6_atom [aR 40 0] S K
  refine Call.of (k := 10 * (5 - o) + 4) (by omega) (fun e he P hP => ?_)
  have hkd := kd_le T q
  have hE0 : P7 T (n + 1) 6 q o [] = (if kd T q = 2 then (true, [vlT T q], nx T q) else if 10000 ≤ kd T q then (true, [kd T q], nx T q)
      else if kd T q = 45 then (if 5 ≤ o then (false, [], q) else bif (P7 T n 6 (nx T q) (o + 1) []).1 then (true, (P7 T n 6 (nx T q) (o + 1) []).2.1 ++ [10006], (P7 T n 6 (nx T q) (o + 1) []).2.2) else P7 T n 6 (nx T q) (o + 1) [])
      else if kd T q = 40 then (if 5 ≤ o then (false, [], q) else bif (P7 T n 0 (nx T q) (o + 1) []).1 then (if kd T (P7 T n 0 (nx T q) (o + 1) []).2.2 = 41 then (true, (P7 T n 0 (nx T q) (o + 1) []).2.1, nx T (P7 T n 0 (nx T q) (o + 1) []).2.2) else (false, [], (P7 T n 0 (nx T q) (o + 1) []).2.2)) else P7 T n 0 (nx T q) (o + 1) [])
      else (false, [], q)) := rfl
  repeat (first | (refine hP _ _ _ _ _ _ ?_; show P _ _ _ _ _ _) | (refine hP _ _ _ _ _ _ (And.intro (hN _ _ _ rfl) ?_); show P _ _ (aR _ _ :: _) _ _ _))
  refine hP _ _ _ _ _ _ (m_sign (c := 45) (by omega) hM (by decide) ?_)
  repeat (first | (refine hP _ _ _ _ _ _ ?_; show P _ _ _ _ _ _) | (refine hP _ _ _ _ _ _ (And.intro (hN _ _ _ rfl) ?_); show P _ _ (aR _ _ :: _) _ _ _))
  refine hP _ _ _ _ _ _ (bn2 (fun hk => ?_) (fun hk => ?_))
  · have hk45 : ¬ kd T q = 45 := of_decide_eq_false hk
    repeat (first | (refine hP _ _ _ _ _ _ ?_; show P _ _ _ _ _ _) | (refine hP _ _ _ _ _ _ (And.intro (hN _ _ _ rfl) ?_); show P _ _ (aR _ _ :: _) _ _ _))
    refine hP _ _ _ _ _ _ (m_sign (c := 40) (by omega) hM (by decide) ?_)
    repeat (first | (refine hP _ _ _ _ _ _ ?_; show P _ _ _ _ _ _) | (refine hP _ _ _ _ _ _ (And.intro (hN _ _ _ rfl) ?_); show P _ _ (aR _ _ :: _) _ _ _))
    refine hP _ _ _ _ _ _ (bn2 (fun hk => ?_) (fun hk => ?_))
    · have hk40 : ¬ kd T q = 40 := of_decide_eq_false hk
      have h27 := hM.2.2.2.2.1
      have h23 := hM.2.1.2.1
      have htk := tk_le T q
      repeat (first | (refine hP _ _ _ _ _ _ ?_; show P _ _ _ _ _ _) | (refine hP _ _ _ _ _ _ (And.intro (hN _ _ _ rfl) ?_); show P _ _ (aR _ _ :: _) _ _ _))
      rw [h27]
      repeat (first | (refine hP _ _ _ _ _ _ ?_; show P _ _ _ _ _ _) | (refine hP _ _ _ _ _ _ (And.intro (hN _ _ _ rfl) ?_); show P _ _ (aR _ _ :: _) _ _ _) | refine hP _ _ _ _ _ _ (And.intro (fun _ => ?_) (fun hc => absurd hc (by decide))) | refine hP _ _ _ _ _ _ (And.intro (fun hc => absurd hc (by decide)) (fun _ => ?_)))
      rw [h23]
      refine hP _ _ _ _ _ _ (And.intro (fun hx => ?_) (fun hx => ?_))
      · have hn2 : ¬ kd T q = 2 := fun z => hx (by rw [kd_num.mpr z]; rfl)
        repeat (first | (refine hP _ _ _ _ _ _ ?_; show P _ _ _ _ _ _) | (refine hP _ _ _ _ _ _ (And.intro (hN _ _ _ rfl) ?_); show P _ _ (aR _ _ :: _) _ _ _))
        rw [h27]
        repeat (first | (refine hP _ _ _ _ _ _ ?_; show P _ _ _ _ _ _) | (refine hP _ _ _ _ _ _ (And.intro (hN _ _ _ rfl) ?_); show P _ _ (aR _ _ :: _) _ _ _) | refine hP _ _ _ _ _ _ (And.intro (fun _ => ?_) (fun hc => absurd hc (by decide))) | refine hP _ _ _ _ _ _ (And.intro (fun hc => absurd hc (by decide)) (fun _ => ?_)))
        rw [h23]
        refine hP _ _ _ _ _ _ (And.intro (fun hy => ?_) (fun hy => ?_))
        · have hE : P7 T (n + 1) 6 q o [] = (false, [], q) := by
            rw [hE0, if_neg hn2, if_neg, if_neg hk45, if_neg hk40]
            intro z
            have ht1 : tkM T q = 1 := by
              rcases kd_cases T q with ⟨-, k, t', -⟩ | ⟨-, -, k, t', -⟩ | ⟨-, k, t', -⟩ | ⟨-, k, t'⟩ | ⟨-, hs, k, t', -⟩
              · omega
              · exact t'
              · omega
              · omega
              · have := sg_rng hs
                omega
            exact hy (by rw [ht1]; rfl)
          repeat (first | (refine hP _ _ _ _ _ _ ?_; show P _ _ _ _ _ _) | (refine hP _ _ _ _ _ _ (And.intro (hN _ _ _ rfl) ?_); show P _ _ (aR _ _ :: _) _ _ _))
          refine hP _ _ _ _ _ _ (n_fail (by omega) h27 hM.2.1.1 (fun S3 g3 e27 e28 => ?_))
          repeat (first | (refine hP _ _ _ _ _ _ ?_; show P _ _ _ _ _ _) | (refine hP _ _ _ _ _ _ (And.intro (hN _ _ _ rfl) ?_); show P _ _ (aR _ _ :: _) _ _ _))
          exact hP _ _ _ _ _ _ (h0 S3 0 g3 (by rw [hE]) e27 (by rw [hE]; exact e28))
        · repeat (first | (refine hP _ _ _ _ _ _ ?_; show P _ _ _ _ _ _) | (refine hP _ _ _ _ _ _ (And.intro (hN _ _ _ rfl) ?_); show P _ _ (aR _ _ :: _) _ _ _))
          refine hP _ _ _ _ _ _ (g_name (by omega) hN hM (fun hk => ?_) (fun hk S3 g3 e27 e28 => ?_))
          · have hE : P7 T (n + 1) 6 q o [] = (true, [kd T q], nx T q) := by rw [hE0, if_neg hn2, if_pos hk]
            repeat (first | (refine hP _ _ _ _ _ _ ?_; show P _ _ _ _ _ _) | (refine hP _ _ _ _ _ _ (And.intro (hN _ _ _ rfl) ?_); show P _ _ (aR _ _ :: _) _ _ _))
            rw [h27]
            repeat (first | (refine hP _ _ _ _ _ _ ?_; show P _ _ _ _ _ _) | (refine hP _ _ _ _ _ _ (And.intro (hN _ _ _ rfl) ?_); show P _ _ (aR _ _ :: _) _ _ _) | refine hP _ _ _ _ _ _ (And.intro (fun _ => ?_) (fun hc => absurd hc (by decide))) | refine hP _ _ _ _ _ _ (And.intro (fun hc => absurd hc (by decide)) (fun _ => ?_)))
            refine hP _ _ _ _ _ _ (m_next (by omega) hN hM (by omega) (fun S2 g2 hM2 => ?_))
            repeat (first | (refine hP _ _ _ _ _ _ ?_; show P _ _ _ _ _ _) | (refine hP _ _ _ _ _ _ (And.intro (hN _ _ _ rfl) ?_); show P _ _ (aR _ _ :: _) _ _ _))
            exact hP _ _ _ _ _ _ (h1 S2 _ g2 (by rw [hE]) (by rw [hE]; exact hM2) (by rw [hE]; intro s; rw [ev_1]; unfold ev1; rw [if_neg (by omega), if_pos (by omega)]))
          · have hE : P7 T (n + 1) 6 q o [] = (false, [], q) := by rw [hE0, if_neg hn2, if_neg (by omega), if_neg hk45, if_neg hk40]
            have hN := hN0.up g3
            repeat (first | (refine hP _ _ _ _ _ _ ?_; show P _ _ _ _ _ _) | (refine hP _ _ _ _ _ _ (And.intro (hN _ _ _ rfl) ?_); show P _ _ (aR _ _ :: _) _ _ _))
            rw [e27]
            repeat (first | (refine hP _ _ _ _ _ _ ?_; show P _ _ _ _ _ _) | (refine hP _ _ _ _ _ _ (And.intro (hN _ _ _ rfl) ?_); show P _ _ (aR _ _ :: _) _ _ _) | refine hP _ _ _ _ _ _ (And.intro (fun _ => ?_) (fun hc => absurd hc (by decide))) | refine hP _ _ _ _ _ _ (And.intro (fun hc => absurd hc (by decide)) (fun _ => ?_)))
            exact hP _ _ _ _ _ _ (h0 S3 0 g3 (by rw [hE]) e27 (by rw [hE]; exact e28))
      · have ht2 : tkM T q = 2 := (nI_eq (b := 2) (by omega) (by omega)).mp hx
        have hk2 := kd_num.mp ht2
        have hv := vl_lt hk2
        have hE : P7 T (n + 1) 6 q o [] = (true, [vlT T q], nx T q) := by rw [hE0, if_pos hk2]
        repeat (first | (refine hP _ _ _ _ _ _ ?_; show P _ _ _ _ _ _) | (refine hP _ _ _ _ _ _ (And.intro (hN _ _ _ rfl) ?_); show P _ _ (aR _ _ :: _) _ _ _))
        rw [hM.2.1.2.2.2.1 ht2, lN_i]
        refine hP _ _ _ _ _ _ (m_next (by omega) hN hM (by omega) (fun S2 g2 hM2 => ?_))
        repeat (first | (refine hP _ _ _ _ _ _ ?_; show P _ _ _ _ _ _) | (refine hP _ _ _ _ _ _ (And.intro (hN _ _ _ rfl) ?_); show P _ _ (aR _ _ :: _) _ _ _))
        exact hP _ _ _ _ _ _ (h1 S2 _ g2 (by rw [hE]) (by rw [hE]; exact hM2) (by rw [hE]; intro s; rw [ev_1]; exact if_pos hv))
    · have hk40 : kd T q = 40 := of_decide_eq_true hk
      have hb := kd_lt (T := T) (q := q) (by omega)
      have hb2 := nx_bg (T := T) (q := q) (by omega)
      rw [if_neg (by omega), if_neg (by omega), if_neg (by omega), if_pos hk40] at hE0
      repeat (first | (refine hP _ _ _ _ _ _ ?_; show P _ _ _ _ _ _) | (refine hP _ _ _ _ _ _ (And.intro (hN _ _ _ rfl) ?_); show P _ _ (aR _ _ :: _) _ _ _))
      refine hP _ _ _ _ _ _ (m_opens (by omega) ho hN hM (by omega) (fun h5 S2 g2 hM2 => ?_) (fun h5 S2 g2 e27 e28 => ?_))
      · rw [if_neg h5] at hE0
        have hN2 := hN0.up g2
        have hN := hN2
        repeat (first | (refine hP _ _ _ _ _ _ ?_; show P _ _ _ _ _ _) | (refine hP _ _ _ _ _ _ (And.intro (hN _ _ _ rfl) ?_); show P _ _ (aR _ _ :: _) _ _ _) | refine hP _ _ _ _ _ _ (And.intro (fun _ => ?_) (fun hc => absurd hc (by decide))) | refine hP _ _ _ _ _ _ (And.intro (fun hc => absurd hc (by decide)) (fun _ => ?_)))
        refine hP _ _ _ _ _ _ (ih n (Nat.le_refl _) 0 (nx T q) (o + 1) (by simp [okN']) (by omega) (nx_le hq) (by omega) N e S2 _ (by omega) hN2 hM2 (fun S3 v g3 e3 hM3 hv => ?_) (fun S3 v g3 e3 e27 e28 => ?_))
        · have hN3 := hN2.up g3
          have hN := hN3
          rw [e3] at hE0
          simp only [cond] at hE0
          repeat (first | (refine hP _ _ _ _ _ _ ?_; show P _ _ _ _ _ _) | (refine hP _ _ _ _ _ _ (And.intro (hN _ _ _ rfl) ?_); show P _ _ (aR _ _ :: _) _ _ _))
          refine hP _ _ _ _ _ _ (m_sign (c := 41) (by omega) hM3 (by decide) ?_)
          repeat (first | (refine hP _ _ _ _ _ _ ?_; show P _ _ _ _ _ _) | (refine hP _ _ _ _ _ _ (And.intro (hN _ _ _ rfl) ?_); show P _ _ (aR _ _ :: _) _ _ _))
          refine hP _ _ _ _ _ _ (bn3 (fun hk1 => ?_) (fun hk1 => ?_))
          · have hk1 : kd T (P7 T n 0 (nx T q) (o + 1) []).2.2 = 41 := of_decide_eq_true hk1
            rw [if_pos hk1] at hE0
            repeat (first | (refine hP _ _ _ _ _ _ ?_; show P _ _ _ _ _ _) | (refine hP _ _ _ _ _ _ (And.intro (hN _ _ _ rfl) ?_); show P _ _ (aR _ _ :: _) _ _ _))
            rw [hM3.2.2.2.1, nI_pred]
            have hM4 := hM3.o (o' := o)
            have g4 : Ag mL S3 (ivSet S3 40 0 26 (nI o)) := Ag.ml (by omega) (by omega)
            show P _ _ _ (ivSet S3 40 0 26 (nI o)) _ _
            generalize ivSet S3 40 0 26 (nI o) = S4 at hM4 g4 ⊢
            have hN4 := hN3.up g4
            have hN := hN4
            repeat (first | (refine hP _ _ _ _ _ _ ?_; show P _ _ _ _ _ _) | (refine hP _ _ _ _ _ _ (And.intro (hN _ _ _ rfl) ?_); show P _ _ (aR _ _ :: _) _ _ _))
            rw [hM4.2.2.2.2.1]
            repeat (first | (refine hP _ _ _ _ _ _ ?_; show P _ _ _ _ _ _) | (refine hP _ _ _ _ _ _ (And.intro (hN _ _ _ rfl) ?_); show P _ _ (aR _ _ :: _) _ _ _) | refine hP _ _ _ _ _ _ (And.intro (fun _ => ?_) (fun hc => absurd hc (by decide))) | refine hP _ _ _ _ _ _ (And.intro (fun hc => absurd hc (by decide)) (fun _ => ?_)))
            refine hP _ _ _ _ _ _ (m_next (by omega) hN4 hM4 (by omega) (fun S5 g5 hM5 => ?_))
            repeat (first | (refine hP _ _ _ _ _ _ ?_; show P _ _ _ _ _ _) | (refine hP _ _ _ _ _ _ (And.intro (hN _ _ _ rfl) ?_); show P _ _ (aR _ _ :: _) _ _ _))
            exact hP _ _ _ _ _ _ (h1 S5 v (g2.tr (g3.tr (g4.tr g5))) (by rw [hE0]) (by rw [hE0]; exact hM5) (by rw [hE0]; exact hv))
          · have hk1 : ¬ kd T (P7 T n 0 (nx T q) (o + 1) []).2.2 = 41 := of_decide_eq_false hk1
            rw [if_neg hk1] at hE0
            repeat (first | (refine hP _ _ _ _ _ _ ?_; show P _ _ _ _ _ _) | (refine hP _ _ _ _ _ _ (And.intro (hN _ _ _ rfl) ?_); show P _ _ (aR _ _ :: _) _ _ _))
            refine hP _ _ _ _ _ _ (n_fail (by omega) hM3.2.2.2.2.1 hM3.2.1.1 (fun S4 g4 e27 e28 => ?_))
            have hN := hN3.up g4
            repeat (first | (refine hP _ _ _ _ _ _ ?_; show P _ _ _ _ _ _) | (refine hP _ _ _ _ _ _ (And.intro (hN _ _ _ rfl) ?_); show P _ _ (aR _ _ :: _) _ _ _))
            rw [show (ivSet S4 40 0 26 (S4.1 40 0 26 - 1)).1 40 0 27 = 1 by rw [iv_ne (by omega)]; exact e27]
            repeat (first | (refine hP _ _ _ _ _ _ ?_; show P _ _ _ _ _ _) | (refine hP _ _ _ _ _ _ (And.intro (hN _ _ _ rfl) ?_); show P _ _ (aR _ _ :: _) _ _ _) | refine hP _ _ _ _ _ _ (And.intro (fun _ => ?_) (fun hc => absurd hc (by decide))) | refine hP _ _ _ _ _ _ (And.intro (fun hc => absurd hc (by decide)) (fun _ => ?_)))
            exact hP _ _ _ _ _ _ (h0 _ v ((g2.tr (g3.tr g4)).tr (Ag.ml (by omega) (by omega))) (by rw [hE0]) (by rw [iv_ne (by omega)]; exact e27) (by rw [iv_ne (by omega), hE0]; exact e28))
        · have hN := hN2.up g3
          rw [e3] at hE0
          simp only [cond] at hE0
          repeat (first | (refine hP _ _ _ _ _ _ ?_; show P _ _ _ _ _ _) | (refine hP _ _ _ _ _ _ (And.intro (hN _ _ _ rfl) ?_); show P _ _ (aR _ _ :: _) _ _ _))
          refine hP _ _ _ _ _ _ (b_sign (by omega) e27 ?_)
          repeat (first | (refine hP _ _ _ _ _ _ ?_; show P _ _ _ _ _ _) | (refine hP _ _ _ _ _ _ (And.intro (hN _ _ _ rfl) ?_); show P _ _ (aR _ _ :: _) _ _ _) | refine hP _ _ _ _ _ _ (And.intro (fun _ => ?_) (fun hc => absurd hc (by decide))) | refine hP _ _ _ _ _ _ (And.intro (fun hc => absurd hc (by decide)) (fun _ => ?_)))
          refine hP _ _ _ _ _ _ (n_fail1 (by omega) e27 ?_)
          repeat (first | (refine hP _ _ _ _ _ _ ?_; show P _ _ _ _ _ _) | (refine hP _ _ _ _ _ _ (And.intro (hN _ _ _ rfl) ?_); show P _ _ (aR _ _ :: _) _ _ _))
          rw [show (ivSet S3 40 0 26 (S3.1 40 0 26 - 1)).1 40 0 27 = 1 by rw [iv_ne (by omega)]; exact e27]
          repeat (first | (refine hP _ _ _ _ _ _ ?_; show P _ _ _ _ _ _) | (refine hP _ _ _ _ _ _ (And.intro (hN _ _ _ rfl) ?_); show P _ _ (aR _ _ :: _) _ _ _) | refine hP _ _ _ _ _ _ (And.intro (fun _ => ?_) (fun hc => absurd hc (by decide))) | refine hP _ _ _ _ _ _ (And.intro (fun hc => absurd hc (by decide)) (fun _ => ?_)))
          exact hP _ _ _ _ _ _ (h0 _ v ((g2.tr g3).tr (Ag.ml (by omega) (by omega))) (by rw [hE0]; exact e3) (by rw [iv_ne (by omega)]; exact e27) (by rw [iv_ne (by omega), hE0]; exact e28))
      · rw [if_pos h5] at hE0
        repeat (first | (refine hP _ _ _ _ _ _ ?_; show P _ _ _ _ _ _) | (refine hP _ _ _ _ _ _ (And.intro (hN _ _ _ rfl) ?_); show P _ _ (aR _ _ :: _) _ _ _) | refine hP _ _ _ _ _ _ (And.intro (fun _ => ?_) (fun hc => absurd hc (by decide))) | refine hP _ _ _ _ _ _ (And.intro (fun hc => absurd hc (by decide)) (fun _ => ?_)))
        exact hP _ _ _ _ _ _ (h0 S2 0 g2 (by rw [hE0]) e27 (by rw [hE0]; exact e28))
  · have hk45 : kd T q = 45 := of_decide_eq_true hk
    have hb := kd_lt (T := T) (q := q) (by omega)
    have hb2 := nx_bg (T := T) (q := q) (by omega)
    rw [if_neg (by omega), if_neg (by omega), if_pos hk45] at hE0
    repeat (first | (refine hP _ _ _ _ _ _ ?_; show P _ _ _ _ _ _) | (refine hP _ _ _ _ _ _ (And.intro (hN _ _ _ rfl) ?_); show P _ _ (aR _ _ :: _) _ _ _))
    refine hP _ _ _ _ _ _ (m_opens (by omega) ho hN hM (by omega) (fun h5 S2 g2 hM2 => ?_) (fun h5 S2 g2 e27 e28 => ?_))
    · rw [if_neg h5] at hE0
      have hN2 := hN0.up g2
      have hN := hN2
      repeat (first | (refine hP _ _ _ _ _ _ ?_; show P _ _ _ _ _ _) | (refine hP _ _ _ _ _ _ (And.intro (hN _ _ _ rfl) ?_); show P _ _ (aR _ _ :: _) _ _ _) | refine hP _ _ _ _ _ _ (And.intro (fun _ => ?_) (fun hc => absurd hc (by decide))) | refine hP _ _ _ _ _ _ (And.intro (fun hc => absurd hc (by decide)) (fun _ => ?_)))
      refine hP _ _ _ _ _ _ (ih n (Nat.le_refl _) 6 (nx T q) (o + 1) (by simp [okN']) (by omega) (nx_le hq) (by omega) N e S2 _ (by omega) hN2 hM2 (fun S3 v g3 e3 hM3 hv => ?_) (fun S3 v g3 e3 e27 e28 => ?_))
      · have hN := hN2.up g3
        rw [e3] at hE0
        simp only [cond] at hE0
        repeat (first | (refine hP _ _ _ _ _ _ ?_; show P _ _ _ _ _ _) | (refine hP _ _ _ _ _ _ (And.intro (hN _ _ _ rfl) ?_); show P _ _ (aR _ _ :: _) _ _ _))
        rw [hM3.2.2.2.1, nI_pred]
        exact hP _ _ _ _ _ _ (h1 _ (-v) ((g2.tr g3).tr (Ag.ml (by omega) (by omega))) (by rw [hE0]) (by rw [hE0]; exact hM3.o) (by rw [hE0]; exact ev_un hv (Or.inl rfl)))
      · have hN := hN2.up g3
        rw [e3] at hE0
        simp only [cond] at hE0
        repeat (first | (refine hP _ _ _ _ _ _ ?_; show P _ _ _ _ _ _) | (refine hP _ _ _ _ _ _ (And.intro (hN _ _ _ rfl) ?_); show P _ _ (aR _ _ :: _) _ _ _))
        exact hP _ _ _ _ _ _ (h0 _ (-v) ((g2.tr g3).tr (Ag.ml (by omega) (by omega))) (by rw [hE0]; exact e3) (by rw [iv_ne (by omega)]; exact e27) (by rw [iv_ne (by omega), hE0]; exact e28))
    · rw [if_pos h5] at hE0
      repeat (first | (refine hP _ _ _ _ _ _ ?_; show P _ _ _ _ _ _) | (refine hP _ _ _ _ _ _ (And.intro (hN _ _ _ rfl) ?_); show P _ _ (aR _ _ :: _) _ _ _) | refine hP _ _ _ _ _ _ (And.intro (fun _ => ?_) (fun hc => absurd hc (by decide))) | refine hP _ _ _ _ _ _ (And.intro (fun hc => absurd hc (by decide)) (fun _ => ?_)))
      exact hP _ _ _ _ _ _ (h0 S2 0 g2 (by rw [hE0]) e27 (by rw [hE0]; exact e28))
theorem g_all (T : Tx) (t : Nat) : ∀ n, MPs T t n := by
  intro n
  induction n using Nat.strongRecOn with
  | ind n ih =>
    intro l q o hl hm hq ho
    cases n with
    | zero => omega
    | succ n =>
      have ih' : ∀ m, m ≤ n → MPs T t m := fun m hm => ih m (by omega)
      rcases hl with rfl | rfl | rfl | rfl | rfl | rfl
      · exact g_either ih' hm hq ho
      · exact g_both ih' hm hq ho
      · exact g_not ih' hm hq ho
      · exact g_added ih' hm hq ho
      · exact g_term ih' hm hq ho
      · exact g_atom ih' hm hq ho
