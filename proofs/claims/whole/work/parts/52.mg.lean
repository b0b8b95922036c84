/-! The model's reader: its grammar -/
def lvN (l : Nat) : MT := match l with
  | 0 => m_X6_either
  | 1 => m_X6_both
  | 2 => m_X6_not
  | 4 => m_X6_added
  | 5 => m_X6_term
  | _ => m_X6_atom
def dq (l : Nat) : Nat := [10, 9, 8, 7, 7, 6, 5].getD l 3
def okN' (l : Nat) : Prop := l = 0 ∨ l = 1 ∨ l = 2 ∨ l = 4 ∨ l = 5 ∨ l = 6
def MP1 (T : Tx) (t n l q o : Nat) : Prop := ∀ (N : Nat → Int32) (d : Nat) (S : St) (K : KT), 10 * (5 - o) + dq l ≤ d → NN S → MS S T t q o N → (∀ S' v, Ag mL S S' → (P7 T n l q o []).1 = true → MS S' T t (P7 T n l q o []).2.2 o N → (∀ s, ev N (P7 T n l q o []).2.1 s = some (v :: s)) → K (some (aI v)) S') → (∀ (S' : St) (v : Int32), Ag mL S S' → (P7 T n l q o []).1 = false → S'.1 40 0 27 = 1 → S'.1 40 0 28 = nI (bg T (P7 T n l q o []).2.2) → K (some (aI v)) S') → Call d (lvN l) [aR 40 0] S K
def MPs (T : Tx) (t n : Nat) : Prop := ∀ l q o, okN' l → 20 * (T.1 - bg T q) + rk l < n → q ≤ T.1 → o ≤ 5 → MP1 T t n l q o
theorem MS.o {S : St} {T : Tx} {t q o o' : Nat} {N : Nat → Int32} (h : MS S T t q o N) : MS (ivSet S 40 0 26 (nI o')) T t q o' N := by
  obtain ⟨m1, m2, m3, m4, m5, m6⟩ := h
  refine ⟨m1.ml (Ag.ml (by omega) (by omega)), ⟨?_, ?_, ?_, m2.2.2.2.1, m2.2.2.2.2⟩, m3, iv_at, ?_, fun k hk => ?_⟩
  · rw [iv_ne (by omega)]; exact m2.1
  · rw [iv_ne (by omega)]; exact m2.2.1
  · rw [iv_ne (by omega)]; exact m2.2.2.1
  · rw [iv_ne (by omega)]; exact m5
  · rw [iv_ne (by omega)]; exact m6 k hk
theorem g_either {T : Tx} {t n q o : Nat} (ih : ∀ m, m ≤ n → MPs T t m) (hm : 20 * (T.1 - bg T q) + rk 0 < n + 1) (hq : q ≤ T.1) (ho : o ≤ 5) : MP1 T t (n + 1) 0 q o := by
  intro N d S K hd hN hM h1 h0
  have hrk : rk 0 = 10 := rfl
  have hrk1 : rk 1 = 9 := rfl
  have hdp : dq 0 = 10 := rfl
  have hdp1 : dq 1 = 9 := rfl
  show Call d m_X6_either [aR 40 0] S K
  refine Call.of (k := 10 * (5 - o) + 9) (by omega) (fun e he P hP => ?_)
  have out0 : ∀ (S1 : St) (v : Int32) (x2 : Option AV), Ag mL S S1 → (P7 T (n + 1) 0 q o []).1 = false → S1.1 40 0 27 = 1 → S1.1 40 0 28 = nI (bg T (P7 T (n + 1) 0 q o []).2.2) → P 16 [some (aR 40 0), some (aI v), x2] [aI 0, aI 0, aI 0, aI 0, aI 0, aI 0, aI 114, aI 111, aR 40 0] S1 0 0 := by
    intro S1 v x2 g1 e1 e27 e28
    refine hP _ _ _ _ _ _ (b_word (by omega) e27 ?_)
    repeat (first | (refine hP _ _ _ _ _ _ ?_; show P _ _ _ _ _ _) | (refine hP _ _ _ _ _ _ (And.intro (hN _ _ _ rfl) ?_); show P _ _ (aR _ _ :: _) _ _ _) | refine hP _ _ _ _ _ _ (And.intro (fun _ => ?_) (fun hc => absurd hc (by decide))) | refine hP _ _ _ _ _ _ (And.intro (fun hc => absurd hc (by decide)) (fun _ => ?_)))
    exact hP _ _ _ _ _ _ (h0 S1 v g1 e1 e27 e28)
  have loop : ∀ m, m ≤ n → ∀ (q1 : Nat) (c1 : List Nat) (S1 : St) (v : Int32) (x2 : Option AV), 20 * (T.1 - bg T q1) + 3 < m → P7 T (n + 1) 0 q o [] = P7 T m 10 q1 o c1 → Ag mL S S1 → MS S1 T t q1 o N → (∀ s, ev N c1 s = some (v :: s)) → P 16 [some (aR 40 0), some (aI v), x2] [aI 0, aI 0, aI 0, aI 0, aI 0, aI 0, aI 114, aI 111, aR 40 0] S1 0 0 := by
    intro m
    induction m with
    | zero => intro _ q1 c1 S1 v x2 hz; omega
    | succ m ihm =>
      intro hmn q1 c1 S1 v x2 hf hE g1 hM1 hev
      have hN1 := hN.up g1
      have hN := hN1
      refine hP _ _ _ _ _ _ (m_word (w := [111, 114]) (k := 203) (by omega) hN1 hM1 (by decide) ?_)
      repeat (first | (refine hP _ _ _ _ _ _ ?_; show P _ _ _ _ _ _) | (refine hP _ _ _ _ _ _ (And.intro (hN _ _ _ rfl) ?_); show P _ _ (aR _ _ :: _) _ _ _))
      refine hP _ _ _ _ _ _ (bn2 (fun hk => ?_) (fun hk => ?_))
      · have hk : ¬ kd T q1 = 203 := of_decide_eq_false hk
        have hE2 : P7 T (n + 1) 0 q o [] = (true, c1, q1) := hE.trans (if_neg hk)
        repeat (first | (refine hP _ _ _ _ _ _ ?_; show P _ _ _ _ _ _) | (refine hP _ _ _ _ _ _ (And.intro (hN _ _ _ rfl) ?_); show P _ _ (aR _ _ :: _) _ _ _))
        exact hP _ _ _ _ _ _ (h1 S1 v g1 (by rw [hE2]) (by rw [hE2]; exact hM1) (by rw [hE2]; exact hev))
      · have hk : kd T q1 = 203 := of_decide_eq_true hk
        have hb := kd_lt (T := T) (q := q1) (by omega)
        have hb2 := nx_bg (T := T) (q := q1) (by omega)
        have hE2 : P7 T (n + 1) 0 q o [] = (bif (P7 T m 1 (nx T q1) o []).1 then P7 T m 10 (P7 T m 1 (nx T q1) o []).2.2 o (c1 ++ (P7 T m 1 (nx T q1) o []).2.1 ++ [10008]) else P7 T m 1 (nx T q1) o []) := hE.trans (if_pos hk)
        have hPI := P7_in T m 1 (nx T q1) o [] (by simp [okL]) (nx_le hM1.2.2.1)
        repeat (first | (refine hP _ _ _ _ _ _ ?_; show P _ _ _ _ _ _) | (refine hP _ _ _ _ _ _ (And.intro (hN _ _ _ rfl) ?_); show P _ _ (aR _ _ :: _) _ _ _))
        refine hP _ _ _ _ _ _ (m_next (by omega) hN1 hM1 (by omega) (fun S2 g2 hM2 => ?_))
        have hN2 := hN1.up g2
        have hN := hN2
        repeat (first | (refine hP _ _ _ _ _ _ ?_; show P _ _ _ _ _ _) | (refine hP _ _ _ _ _ _ (And.intro (hN _ _ _ rfl) ?_); show P _ _ (aR _ _ :: _) _ _ _))
        refine hP _ _ _ _ _ _ (ih m (by omega) 1 (nx T q1) o (by simp [okN']) (by omega) (nx_le hM1.2.2.1) ho N e S2 _ (by omega) hN2 hM2 (fun S3 w g3 e3 hM3 hw => ?_) (fun S3 w g3 e3 e27 e28 => ?_))
        · have hN3 := hN2.up g3
          have hN := hN3
          have a2 := hPI.2 e3
          have a3 := a2.2.2 (by omega)
          have hle3 := bg_le hM3.2.2.1
          have next := fun (u : Int32) (hu : bop 10008 v w = u) (y2 : Option AV) => ihm (by omega) (P7 T m 1 (nx T q1) o []).2.2 (c1 ++ (P7 T m 1 (nx T q1) o []).2.1 ++ [10008]) S3 u y2 (by omega) (by rw [hE2, e3]; rfl) (g1.tr (g2.tr g3)) hM3 (by rw [← hu]; exact ev_bin hev hw (by omega))
          repeat (first | (refine hP _ _ _ _ _ _ ?_; show P _ _ _ _ _ _) | (refine hP _ _ _ _ _ _ (And.intro (hN _ _ _ rfl) ?_); show P _ _ (aR _ _ :: _) _ _ _))
          refine hP _ _ _ _ _ _ (And.intro (fun z1 => ?_) (fun z1 => ?_))
          · repeat (first | (refine hP _ _ _ _ _ _ ?_; show P _ _ _ _ _ _) | (refine hP _ _ _ _ _ _ (And.intro (hN _ _ _ rfl) ?_); show P _ _ (aR _ _ :: _) _ _ _))
            exact next 1 (by simp [bop, z1]) _
          · repeat (first | (refine hP _ _ _ _ _ _ ?_; show P _ _ _ _ _ _) | (refine hP _ _ _ _ _ _ (And.intro (hN _ _ _ rfl) ?_); show P _ _ (aR _ _ :: _) _ _ _))
            refine hP _ _ _ _ _ _ (And.intro (fun z2 => ?_) (fun z2 => ?_))
            · repeat (first | (refine hP _ _ _ _ _ _ ?_; show P _ _ _ _ _ _) | (refine hP _ _ _ _ _ _ (And.intro (hN _ _ _ rfl) ?_); show P _ _ (aR _ _ :: _) _ _ _))
              exact next 0 (by simp [bop, z1, z2]) _
            · repeat (first | (refine hP _ _ _ _ _ _ ?_; show P _ _ _ _ _ _) | (refine hP _ _ _ _ _ _ (And.intro (hN _ _ _ rfl) ?_); show P _ _ (aR _ _ :: _) _ _ _))
              exact next 1 (by simp [bop, z1, z2]) _
        · have hN := (hN2.up g3)
          have out1 := fun (u : Int32) (y2 : Option AV) => out0 S3 u y2 (g1.tr (g2.tr g3)) (by rw [hE2, e3]; exact e3) e27 (by rw [hE2, e3]; exact e28)
          repeat (first | (refine hP _ _ _ _ _ _ ?_; show P _ _ _ _ _ _) | (refine hP _ _ _ _ _ _ (And.intro (hN _ _ _ rfl) ?_); show P _ _ (aR _ _ :: _) _ _ _))
          refine hP _ _ _ _ _ _ (And.intro (fun z1 => ?_) (fun z1 => ?_))
          · repeat (first | (refine hP _ _ _ _ _ _ ?_; show P _ _ _ _ _ _) | (refine hP _ _ _ _ _ _ (And.intro (hN _ _ _ rfl) ?_); show P _ _ (aR _ _ :: _) _ _ _))
            exact out1 1 _
          · repeat (first | (refine hP _ _ _ _ _ _ ?_; show P _ _ _ _ _ _) | (refine hP _ _ _ _ _ _ (And.intro (hN _ _ _ rfl) ?_); show P _ _ (aR _ _ :: _) _ _ _))
            refine hP _ _ _ _ _ _ (And.intro (fun z2 => ?_) (fun z2 => ?_))
            · repeat (first | (refine hP _ _ _ _ _ _ ?_; show P _ _ _ _ _ _) | (refine hP _ _ _ _ _ _ (And.intro (hN _ _ _ rfl) ?_); show P _ _ (aR _ _ :: _) _ _ _))
              exact out1 0 _
            · repeat (first | (refine hP _ _ _ _ _ _ ?_; show P _ _ _ _ _ _) | (refine hP _ _ _ _ _ _ (And.intro (hN _ _ _ rfl) ?_); show P _ _ (aR _ _ :: _) _ _ _))
              exact out1 1 _
  have hPI := P7_in T n 1 q o [] (by simp [okL]) hq
  have hE : P7 T (n + 1) 0 q o [] = (bif (P7 T n 1 q o []).1 then P7 T n 10 (P7 T n 1 q o []).2.2 o (P7 T n 1 q o []).2.1 else P7 T n 1 q o []) := rfl
  repeat (first | (refine hP _ _ _ _ _ _ ?_; show P _ _ _ _ _ _) | (refine hP _ _ _ _ _ _ (And.intro (hN _ _ _ rfl) ?_); show P _ _ (aR _ _ :: _) _ _ _))
  refine hP _ _ _ _ _ _ (ih n (Nat.le_refl _) 1 q o (by simp [okN']) (by omega) hq ho N e S _ (by omega) hN hM (fun S3 w g3 e3 hM3 hw => ?_) (fun S3 w g3 e3 e27 e28 => ?_))
  · have hN := hN.up g3
    have a2 := hPI.2 e3
    have a3 := a2.2.2 (by omega)
    have hle3 := bg_le hM3.2.2.1
    repeat (first | (refine hP _ _ _ _ _ _ ?_; show P _ _ _ _ _ _) | (refine hP _ _ _ _ _ _ (And.intro (hN _ _ _ rfl) ?_); show P _ _ (aR _ _ :: _) _ _ _))
    exact loop n (Nat.le_refl _) _ _ S3 w _ (by omega) (by rw [hE, e3]; rfl) g3 hM3 hw
  · have hN := hN.up g3
    repeat (first | (refine hP _ _ _ _ _ _ ?_; show P _ _ _ _ _ _) | (refine hP _ _ _ _ _ _ (And.intro (hN _ _ _ rfl) ?_); show P _ _ (aR _ _ :: _) _ _ _))
    exact out0 S3 w _ g3 (by rw [hE, e3]; exact e3) e27 (by rw [hE, e3]; exact e28)
theorem g_both {T : Tx} {t n q o : Nat} (ih : ∀ m, m ≤ n → MPs T t m) (hm : 20 * (T.1 - bg T q) + rk 1 < n + 1) (hq : q ≤ T.1) (ho : o ≤ 5) : MP1 T t (n + 1) 1 q o := by
  intro N d S K hd hN hM h1 h0
  have hrk : rk 1 = 9 := rfl
  have hrk1 : rk 2 = 8 := rfl
  have hdp : dq 1 = 9 := rfl
  have hdp1 : dq 2 = 8 := rfl
  show Call d m_X6_both [aR 40 0] S K
  refine Call.of (k := 10 * (5 - o) + 8) (by omega) (fun e he P hP => ?_)
  have out0 : ∀ (S1 : St) (v : Int32) (x2 : Option AV), Ag mL S S1 → (P7 T (n + 1) 1 q o []).1 = false → S1.1 40 0 27 = 1 → S1.1 40 0 28 = nI (bg T (P7 T (n + 1) 1 q o []).2.2) → P 17 [some (aR 40 0), some (aI v), x2] [aI 0, aI 0, aI 0, aI 0, aI 0, aI 100, aI 110, aI 97, aR 40 0] S1 0 0 := by
    intro S1 v x2 g1 e1 e27 e28
    refine hP _ _ _ _ _ _ (b_word (by omega) e27 ?_)
    repeat (first | (refine hP _ _ _ _ _ _ ?_; show P _ _ _ _ _ _) | (refine hP _ _ _ _ _ _ (And.intro (hN _ _ _ rfl) ?_); show P _ _ (aR _ _ :: _) _ _ _) | refine hP _ _ _ _ _ _ (And.intro (fun _ => ?_) (fun hc => absurd hc (by decide))) | refine hP _ _ _ _ _ _ (And.intro (fun hc => absurd hc (by decide)) (fun _ => ?_)))
    exact hP _ _ _ _ _ _ (h0 S1 v g1 e1 e27 e28)
  have loop : ∀ m, m ≤ n → ∀ (q1 : Nat) (c1 : List Nat) (S1 : St) (v : Int32) (x2 : Option AV), 20 * (T.1 - bg T q1) + 3 < m → P7 T (n + 1) 1 q o [] = P7 T m 11 q1 o c1 → Ag mL S S1 → MS S1 T t q1 o N → (∀ s, ev N c1 s = some (v :: s)) → P 17 [some (aR 40 0), some (aI v), x2] [aI 0, aI 0, aI 0, aI 0, aI 0, aI 100, aI 110, aI 97, aR 40 0] S1 0 0 := by
    intro m
    induction m with
    | zero => intro _ q1 c1 S1 v x2 hz; omega
    | succ m ihm =>
      intro hmn q1 c1 S1 v x2 hf hE g1 hM1 hev
      have hN1 := hN.up g1
      have hN := hN1
      refine hP _ _ _ _ _ _ (m_word (w := [97, 110, 100]) (k := 204) (by omega) hN1 hM1 (by decide) ?_)
      repeat (first | (refine hP _ _ _ _ _ _ ?_; show P _ _ _ _ _ _) | (refine hP _ _ _ _ _ _ (And.intro (hN _ _ _ rfl) ?_); show P _ _ (aR _ _ :: _) _ _ _))
      refine hP _ _ _ _ _ _ (bn2 (fun hk => ?_) (fun hk => ?_))
      · have hk : ¬ kd T q1 = 204 := of_decide_eq_false hk
        have hE2 : P7 T (n + 1) 1 q o [] = (true, c1, q1) := hE.trans (if_neg hk)
        repeat (first | (refine hP _ _ _ _ _ _ ?_; show P _ _ _ _ _ _) | (refine hP _ _ _ _ _ _ (And.intro (hN _ _ _ rfl) ?_); show P _ _ (aR _ _ :: _) _ _ _))
        exact hP _ _ _ _ _ _ (h1 S1 v g1 (by rw [hE2]) (by rw [hE2]; exact hM1) (by rw [hE2]; exact hev))
      · have hk : kd T q1 = 204 := of_decide_eq_true hk
        have hb := kd_lt (T := T) (q := q1) (by omega)
        have hb2 := nx_bg (T := T) (q := q1) (by omega)
        have hE2 : P7 T (n + 1) 1 q o [] = (bif (P7 T m 2 (nx T q1) o []).1 then P7 T m 11 (P7 T m 2 (nx T q1) o []).2.2 o (c1 ++ (P7 T m 2 (nx T q1) o []).2.1 ++ [10009]) else P7 T m 2 (nx T q1) o []) := hE.trans (if_pos hk)
        have hPI := P7_in T m 2 (nx T q1) o [] (by simp [okL]) (nx_le hM1.2.2.1)
        repeat (first | (refine hP _ _ _ _ _ _ ?_; show P _ _ _ _ _ _) | (refine hP _ _ _ _ _ _ (And.intro (hN _ _ _ rfl) ?_); show P _ _ (aR _ _ :: _) _ _ _))
        refine hP _ _ _ _ _ _ (m_next (by omega) hN1 hM1 (by omega) (fun S2 g2 hM2 => ?_))
        have hN2 := hN1.up g2
        have hN := hN2
        repeat (first | (refine hP _ _ _ _ _ _ ?_; show P _ _ _ _ _ _) | (refine hP _ _ _ _ _ _ (And.intro (hN _ _ _ rfl) ?_); show P _ _ (aR _ _ :: _) _ _ _))
        refine hP _ _ _ _ _ _ (ih m (by omega) 2 (nx T q1) o (by simp [okN']) (by omega) (nx_le hM1.2.2.1) ho N e S2 _ (by omega) hN2 hM2 (fun S3 w g3 e3 hM3 hw => ?_) (fun S3 w g3 e3 e27 e28 => ?_))
        · have hN3 := hN2.up g3
          have hN := hN3
          have a2 := hPI.2 e3
          have a3 := a2.2.2 (by omega)
          have hle3 := bg_le hM3.2.2.1
          have next := fun (u : Int32) (hu : bop 10009 v w = u) (y2 : Option AV) => ihm (by omega) (P7 T m 2 (nx T q1) o []).2.2 (c1 ++ (P7 T m 2 (nx T q1) o []).2.1 ++ [10009]) S3 u y2 (by omega) (by rw [hE2, e3]; rfl) (g1.tr (g2.tr g3)) hM3 (by rw [← hu]; exact ev_bin hev hw (by omega))
          repeat (first | (refine hP _ _ _ _ _ _ ?_; show P _ _ _ _ _ _) | (refine hP _ _ _ _ _ _ (And.intro (hN _ _ _ rfl) ?_); show P _ _ (aR _ _ :: _) _ _ _))
          refine hP _ _ _ _ _ _ (And.intro (fun z1 => ?_) (fun z1 => ?_))
          · repeat (first | (refine hP _ _ _ _ _ _ ?_; show P _ _ _ _ _ _) | (refine hP _ _ _ _ _ _ (And.intro (hN _ _ _ rfl) ?_); show P _ _ (aR _ _ :: _) _ _ _))
            exact next 0 (by simp [bop, z1]) _
          · repeat (first | (refine hP _ _ _ _ _ _ ?_; show P _ _ _ _ _ _) | (refine hP _ _ _ _ _ _ (And.intro (hN _ _ _ rfl) ?_); show P _ _ (aR _ _ :: _) _ _ _))
            refine hP _ _ _ _ _ _ (And.intro (fun z2 => ?_) (fun z2 => ?_))
            · repeat (first | (refine hP _ _ _ _ _ _ ?_; show P _ _ _ _ _ _) | (refine hP _ _ _ _ _ _ (And.intro (hN _ _ _ rfl) ?_); show P _ _ (aR _ _ :: _) _ _ _))
              exact next 0 (by simp [bop, z1, z2]) _
            · repeat (first | (refine hP _ _ _ _ _ _ ?_; show P _ _ _ _ _ _) | (refine hP _ _ _ _ _ _ (And.intro (hN _ _ _ rfl) ?_); show P _ _ (aR _ _ :: _) _ _ _))
              exact next 1 (by simp [bop, z1, z2]) _
        · have hN := (hN2.up g3)
          have out1 := fun (u : Int32) (y2 : Option AV) => out0 S3 u y2 (g1.tr (g2.tr g3)) (by rw [hE2, e3]; exact e3) e27 (by rw [hE2, e3]; exact e28)
          repeat (first | (refine hP _ _ _ _ _ _ ?_; show P _ _ _ _ _ _) | (refine hP _ _ _ _ _ _ (And.intro (hN _ _ _ rfl) ?_); show P _ _ (aR _ _ :: _) _ _ _))
          refine hP _ _ _ _ _ _ (And.intro (fun z1 => ?_) (fun z1 => ?_))
          · repeat (first | (refine hP _ _ _ _ _ _ ?_; show P _ _ _ _ _ _) | (refine hP _ _ _ _ _ _ (And.intro (hN _ _ _ rfl) ?_); show P _ _ (aR _ _ :: _) _ _ _))
            exact out1 0 _
          · repeat (first | (refine hP _ _ _ _ _ _ ?_; show P _ _ _ _ _ _) | (refine hP _ _ _ _ _ _ (And.intro (hN _ _ _ rfl) ?_); show P _ _ (aR _ _ :: _) _ _ _))
            refine hP _ _ _ _ _ _ (And.intro (fun z2 => ?_) (fun z2 => ?_))
            · repeat (first | (refine hP _ _ _ _ _ _ ?_; show P _ _ _ _ _ _) | (refine hP _ _ _ _ _ _ (And.intro (hN _ _ _ rfl) ?_); show P _ _ (aR _ _ :: _) _ _ _))
              exact out1 0 _
            · repeat (first | (refine hP _ _ _ _ _ _ ?_; show P _ _ _ _ _ _) | (refine hP _ _ _ _ _ _ (And.intro (hN _ _ _ rfl) ?_); show P _ _ (aR _ _ :: _) _ _ _))
              exact out1 1 _
  have hPI := P7_in T n 2 q o [] (by simp [okL]) hq
  have hE : P7 T (n + 1) 1 q o [] = (bif (P7 T n 2 q o []).1 then P7 T n 11 (P7 T n 2 q o []).2.2 o (P7 T n 2 q o []).2.1 else P7 T n 2 q o []) := rfl
  repeat (first | (refine hP _ _ _ _ _ _ ?_; show P _ _ _ _ _ _) | (refine hP _ _ _ _ _ _ (And.intro (hN _ _ _ rfl) ?_); show P _ _ (aR _ _ :: _) _ _ _))
  refine hP _ _ _ _ _ _ (ih n (Nat.le_refl _) 2 q o (by simp [okN']) (by omega) hq ho N e S _ (by omega) hN hM (fun S3 w g3 e3 hM3 hw => ?_) (fun S3 w g3 e3 e27 e28 => ?_))
  · have hN := hN.up g3
    have a2 := hPI.2 e3
    have a3 := a2.2.2 (by omega)
    have hle3 := bg_le hM3.2.2.1
    repeat (first | (refine hP _ _ _ _ _ _ ?_; show P _ _ _ _ _ _) | (refine hP _ _ _ _ _ _ (And.intro (hN _ _ _ rfl) ?_); show P _ _ (aR _ _ :: _) _ _ _))
    exact loop n (Nat.le_refl _) _ _ S3 w _ (by omega) (by rw [hE, e3]; rfl) g3 hM3 hw
  · have hN := hN.up g3
    repeat (first | (refine hP _ _ _ _ _ _ ?_; show P _ _ _ _ _ _) | (refine hP _ _ _ _ _ _ (And.intro (hN _ _ _ rfl) ?_); show P _ _ (aR _ _ :: _) _ _ _))
    exact out0 S3 w _ g3 (by rw [hE, e3]; exact e3) e27 (by rw [hE, e3]; exact e28)
theorem g_term {T : Tx} {t n q o : Nat} (ih : ∀ m, m ≤ n → MPs T t m) (hm : 20 * (T.1 - bg T q) + rk 5 < n + 1) (hq : q ≤ T.1) (ho : o ≤ 5) : MP1 T t (n + 1) 5 q o := by
  intro N d S K hd hN hM h1 h0
  have hrk : rk 5 = 5 := rfl
  have hrk1 : rk 6 = 4 := rfl
  have hdp : dq 5 = 6 := rfl
  have hdp1 : dq 6 = 5 := rfl
  show Call d m_X6_term [aR 40 0] S K
  refine Call.of (k := 10 * (5 - o) + 5) (by omega) (fun e he P hP => ?_)
  have out0 : ∀ (S1 : St) (v : Int32), Ag mL S S1 → (P7 T (n + 1) 5 q o []).1 = false → S1.1 40 0 27 = 1 → S1.1 40 0 28 = nI (bg T (P7 T (n + 1) 5 q o []).2.2) → P 8 [some (aR 40 0), some (aI v)] [aI 42, aR 40 0] S1 0 0 := by
    intro S1 v g1 e1 e27 e28
    refine hP _ _ _ _ _ _ (b_sign (by omega) e27 ?_)
    repeat (first | (refine hP _ _ _ _ _ _ ?_; show P _ _ _ _ _ _) | (refine hP _ _ _ _ _ _ (And.intro (hN _ _ _ rfl) ?_); show P _ _ (aR _ _ :: _) _ _ _) | refine hP _ _ _ _ _ _ (And.intro (fun _ => ?_) (fun hc => absurd hc (by decide))) | refine hP _ _ _ _ _ _ (And.intro (fun hc => absurd hc (by decide)) (fun _ => ?_)))
    exact hP _ _ _ _ _ _ (h0 S1 v g1 e1 e27 e28)
  have loop : ∀ m, m ≤ n → ∀ (q1 : Nat) (c1 : List Nat) (S1 : St) (v : Int32), 20 * (T.1 - bg T q1) + 3 < m → P7 T (n + 1) 5 q o [] = P7 T m 15 q1 o c1 → Ag mL S S1 → MS S1 T t q1 o N → (∀ s, ev N c1 s = some (v :: s)) → P 8 [some (aR 40 0), some (aI v)] [aI 42, aR 40 0] S1 0 0 := by
    intro m
    induction m with
    | zero => intro _ q1 c1 S1 v hz; omega
    | succ m ihm =>
      intro hmn q1 c1 S1 v hf hE g1 hM1 hev
      have hN1 := hN.up g1
      have hN := hN1
      refine hP _ _ _ _ _ _ (m_sign (c := 42) (by omega) hM1 (by decide) ?_)
      repeat (first | (refine hP _ _ _ _ _ _ ?_; show P _ _ _ _ _ _) | (refine hP _ _ _ _ _ _ (And.intro (hN _ _ _ rfl) ?_); show P _ _ (aR _ _ :: _) _ _ _))
      refine hP _ _ _ _ _ _ (bn2 (fun hk => ?_) (fun hk => ?_))
      · have hk : ¬ kd T q1 = 42 := of_decide_eq_false hk
        have hE2 : P7 T (n + 1) 5 q o [] = (true, c1, q1) := hE.trans (if_neg hk)
        repeat (first | (refine hP _ _ _ _ _ _ ?_; show P _ _ _ _ _ _) | (refine hP _ _ _ _ _ _ (And.intro (hN _ _ _ rfl) ?_); show P _ _ (aR _ _ :: _) _ _ _))
        exact hP _ _ _ _ _ _ (h1 S1 v g1 (by rw [hE2]) (by rw [hE2]; exact hM1) (by rw [hE2]; exact hev))
      · have hk : kd T q1 = 42 := of_decide_eq_true hk
        have hb := kd_lt (T := T) (q := q1) (by omega)
        have hb2 := nx_bg (T := T) (q := q1) (by omega)
        have hE2 : P7 T (n + 1) 5 q o [] = (bif (P7 T m 6 (nx T q1) o []).1 then P7 T m 15 (P7 T m 6 (nx T q1) o []).2.2 o (c1 ++ (P7 T m 6 (nx T q1) o []).2.1 ++ [10014]) else P7 T m 6 (nx T q1) o []) := hE.trans (if_pos hk)
        have hPI := P7_in T m 6 (nx T q1) o [] (by simp [okL]) (nx_le hM1.2.2.1)
        repeat (first | (refine hP _ _ _ _ _ _ ?_; show P _ _ _ _ _ _) | (refine hP _ _ _ _ _ _ (And.intro (hN _ _ _ rfl) ?_); show P _ _ (aR _ _ :: _) _ _ _))
        refine hP _ _ _ _ _ _ (m_next (by omega) hN1 hM1 (by omega) (fun S2 g2 hM2 => ?_))
        have hN2 := hN1.up g2
        have hN := hN2
        repeat (first | (refine hP _ _ _ _ _ _ ?_; show P _ _ _ _ _ _) | (refine hP _ _ _ _ _ _ (And.intro (hN _ _ _ rfl) ?_); show P _ _ (aR _ _ :: _) _ _ _))
        refine hP _ _ _ _ _ _ (ih m (by omega) 6 (nx T q1) o (by simp [okN']) (by omega) (nx_le hM1.2.2.1) ho N e S2 _ (by omega) hN2 hM2 (fun S3 w g3 e3 hM3 hw => ?_) (fun S3 w g3 e3 e27 e28 => ?_))
        · have hN3 := hN2.up g3
          have hN := hN3
          have a2 := hPI.2 e3
          have a3 := a2.2.2 (by omega)
          have hle3 := bg_le hM3.2.2.1
          have next := fun (u : Int32) (hu : bop 10014 v w = u) => ihm (by omega) (P7 T m 6 (nx T q1) o []).2.2 (c1 ++ (P7 T m 6 (nx T q1) o []).2.1 ++ [10014]) S3 u (by omega) (by rw [hE2, e3]; rfl) (g1.tr (g2.tr g3)) hM3 (by rw [← hu]; exact ev_bin hev hw (by omega))
          repeat (first | (refine hP _ _ _ _ _ _ ?_; show P _ _ _ _ _ _) | (refine hP _ _ _ _ _ _ (And.intro (hN _ _ _ rfl) ?_); show P _ _ (aR _ _ :: _) _ _ _))
          exact next (v * w) (by simp [bop])
        · have hN := (hN2.up g3)
          have out1 := fun (u : Int32) => out0 S3 u (g1.tr (g2.tr g3)) (by rw [hE2, e3]; exact e3) e27 (by rw [hE2, e3]; exact e28)
          repeat (first | (refine hP _ _ _ _ _ _ ?_; show P _ _ _ _ _ _) | (refine hP _ _ _ _ _ _ (And.intro (hN _ _ _ rfl) ?_); show P _ _ (aR _ _ :: _) _ _ _))
          exact out1 (v * w)
  have hPI := P7_in T n 6 q o [] (by simp [okL]) hq
  have hE : P7 T (n + 1) 5 q o [] = (bif (P7 T n 6 q o []).1 then P7 T n 15 (P7 T n 6 q o []).2.2 o (P7 T n 6 q o []).2.1 else P7 T n 6 q o []) := rfl
  repeat (first | (refine hP _ _ _ _ _ _ ?_; show P _ _ _ _ _ _) | (refine hP _ _ _ _ _ _ (And.intro (hN _ _ _ rfl) ?_); show P _ _ (aR _ _ :: _) _ _ _))
  refine hP _ _ _ _ _ _ (ih n (Nat.le_refl _) 6 q o (by simp [okN']) (by omega) hq ho N e S _ (by omega) hN hM (fun S3 w g3 e3 hM3 hw => ?_) (fun S3 w g3 e3 e27 e28 => ?_))
  · have hN := hN.up g3
    have a2 := hPI.2 e3
    have a3 := a2.2.2 (by omega)
    have hle3 := bg_le hM3.2.2.1
    repeat (first | (refine hP _ _ _ _ _ _ ?_; show P _ _ _ _ _ _) | (refine hP _ _ _ _ _ _ (And.intro (hN _ _ _ rfl) ?_); show P _ _ (aR _ _ :: _) _ _ _))
    exact loop n (Nat.le_refl _) _ _ S3 w (by omega) (by rw [hE, e3]; rfl) g3 hM3 hw
  · have hN := hN.up g3
    repeat (first | (refine hP _ _ _ _ _ _ ?_; show P _ _ _ _ _ _) | (refine hP _ _ _ _ _ _ (And.intro (hN _ _ _ rfl) ?_); show P _ _ (aR _ _ :: _) _ _ _))
    exact out0 S3 w g3 (by rw [hE, e3]; exact e3) e27 (by rw [hE, e3]; exact e28)
