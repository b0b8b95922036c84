/-! The class's reader: its grammar -/
def wRd : WW := fun j g k => (j = 7 ∧ g = 0 ∧ (k = 3 ∨ (5 ≤ k ∧ k ≤ 9))) ∨ j = 9
theorem wLx_R : ∀ j g k, wLx j g k → wRd j g k := by
  intro j g k h
  simp only [wLx] at h
  simp only [wRd]
  omega
/-- the reader: the token ahead is the one from q on, the code so far is cc, o are open -/
def RD (S : St) (T : Tx) (q : Nat) (cc : List Nat) (o : Nat) : Prop := TP S T ∧ LX S T q ∧ q ≤ T.1 ∧ S.1 7 0 3 = nI cc.length ∧ (∀ k, k < cc.length → S.1 9 0 k = nI (cc.getD k 0)) ∧ S.1 7 0 9 = nI o
theorem kwK_le (T : Tx) (s len : Nat) : ∀ l : List (List Nat × Nat), (∀ a ∈ l, a.2 ≤ 10005) → kwK T s len l ≤ 10005
  | [], _ => by simp [kwK]
  | a :: l, h => by
    simp only [kwK]
    split
    · exact h a List.mem_cons_self
    · exact kwK_le T s len l (fun x hx => h x (List.mem_cons_of_mem _ hx))
theorem kd_le (T : Tx) (q : Nat) : kd T q ≤ 10005 := by
  unfold kd
  split
  · omega
  · split
    · split <;> omega
    · split
      · exact kwK_le T _ _ kwL (by decide)
      · split
        · rename_i hs
          simp only [isSg, decide_eq_true_eq] at hs
          omega
        · omega
theorem kdI {T : Tx} {q c : Nat} (hc : c ≤ 10005) {A B : Prop} (h1 : kd T q = c → A) (h2 : ¬ kd T q = c → B) : (nI (kd T q) = nI c → A) ∧ (¬ nI (kd T q) = nI c → B) := by
  have := kd_le T q
  exact ⟨fun z => h1 ((nI_eq (by omega) (by omega)).mp z), fun z => h2 (fun y => z (by rw [y]))⟩
theorem kdN {T : Tx} {q c : Nat} (hc : c ≤ 10005) {A B : Prop} (h1 : ¬ kd T q = c → A) (h2 : kd T q = c → B) : (¬ nI (kd T q) = nI c → A) ∧ (nI (kd T q) = nI c → B) := by
  have := kd_le T q
  exact ⟨fun z => h1 (fun y => z (by rw [y])), fun z => h2 ((nI_eq (by omega) (by omega)).mp z)⟩
theorem r_next {d q o : Nat} {S : St} {K : KT} {T : Tx} {cc : List Nat} (hd : 3 ≤ d) (hN : NN S) (hR : RD S T q cc o) (h : ∀ S', Ag wRd S S' → RD S' T (nx T q) cc o → K none S') : Call d m_X1_next [aR 7 0] S K := by
  obtain ⟨r1, r2, r3, r4, r5, r6⟩ := hR
  refine q_next hd hN r1 (nx_le r3) r2.1 (fun S' g1 hL => h S' (g1.mono wLx_R) ⟨r1.lx g1, hL, nx_le r3, ?_, fun k hk => ?_, ?_⟩)
  · rw [g1.1 7 0 3 (by simp [wLx])]; exact r4
  · rw [g1.1 9 0 k (by simp [wLx])]; exact r5 k hk
  · rw [g1.1 7 0 9 (by simp [wLx])]; exact r6
theorem r_pass {d q o c : Nat} {S : St} {K : KT} {T : Tx} {cc : List Nat} (hd : 4 ≤ d) (hN : NN S) (hR : RD S T q cc o) (hc : c ≤ 10005) (h1 : kd T q = c → ∀ S', Ag wRd S S' → RD S' T (nx T q) cc o → K (some (aI 1)) S') (h0 : ¬ kd T q = c → K (some (aI 0)) S) : Call d m_X1_pass [aR 7 0, aI (nI c)] S K := by
  refine Call.of (k := 3) hd (fun e he P hP => ?_)
  repeat (first | (refine hP _ _ _ _ _ _ ?_; show P _ _ _ _ _ _) | (refine hP _ _ _ _ _ _ (And.intro (hN _ _ _ rfl) ?_); show P _ _ (aR _ _ :: _) _ _ _))
  rw [hR.2.1.2.1]
  refine hP _ _ _ _ _ _ (kdI hc (fun e => ?_) (fun e => ?_))
  · repeat (first | (refine hP _ _ _ _ _ _ ?_; show P _ _ _ _ _ _) | (refine hP _ _ _ _ _ _ (And.intro (hN _ _ _ rfl) ?_); show P _ _ (aR _ _ :: _) _ _ _))
    refine hP _ _ _ _ _ _ (r_next (by omega) hN hR (fun S1 g1 hR1 => ?_))
    repeat (first | (refine hP _ _ _ _ _ _ ?_; show P _ _ _ _ _ _) | (refine hP _ _ _ _ _ _ (And.intro (hN _ _ _ rfl) ?_); show P _ _ (aR _ _ :: _) _ _ _))
    refine hP _ _ _ _ _ _ (And.intro (Or.inr rfl) (h1 e S1 g1 hR1))
  · repeat (first | (refine hP _ _ _ _ _ _ ?_; show P _ _ _ _ _ _) | (refine hP _ _ _ _ _ _ (And.intro (hN _ _ _ rfl) ?_); show P _ _ (aR _ _ :: _) _ _ _))
    refine hP _ _ _ _ _ _ (And.intro (Or.inl rfl) (h0 e))
theorem r_put {d q o x : Nat} {S : St} {K : KT} {T : Tx} {cc : List Nat} (hd : 1 ≤ d) (hN : NN S) (hR : RD S T q cc o) (hl : cc.length < 160) (h : ∀ S', Ag wRd S S' → RD S' T q (cc ++ [x]) o → K (some (aI 1)) S') : Call d m_X1_put [aR 7 0, aI (nI x)] S K := by
  refine Call.of (k := 0) hd (fun e he P hP => ?_)
  obtain ⟨r1, r2, r3, r4, r5, r6⟩ := hR
  repeat (first | (refine hP _ _ _ _ _ _ ?_; show P _ _ _ _ _ _) | (refine hP _ _ _ _ _ _ (And.intro (hN _ _ _ rfl) ?_); show P _ _ (aR _ _ :: _) _ _ _))
  rw [r4]
  refine hP _ _ _ _ _ _ (And.intro (fun _ => ?_) (fun hc => absurd (nI_lt (b := 160) hl (by decide)) hc))
  repeat (first | (refine hP _ _ _ _ _ _ ?_; show P _ _ _ _ _ _) | (refine hP _ _ _ _ _ _ (And.intro (hN _ _ _ rfl) ?_); show P _ _ (aR _ _ :: _) _ _ _))
  rw [r4]
  refine hP _ _ _ _ _ _ (Exists.intro (cc.length) (And.intro (And.intro (rfl) (by show _ < 160; omega)) ?_))
  repeat (first | (refine hP _ _ _ _ _ _ ?_; show P _ _ _ _ _ _) | (refine hP _ _ _ _ _ _ (And.intro (hN _ _ _ rfl) ?_); show P _ _ (aR _ _ :: _) _ _ _))
  have e4 : (ivSet S 9 0 cc.length (nI x)).1 7 0 3 + 1 = nI (cc.length + 1) := by rw [iv_ne (by omega), r4, nI_1]
  show P _ _ _ (ivSet (ivSet S 9 0 cc.length (nI x)) 7 0 3 ((ivSet S 9 0 cc.length (nI x)).1 7 0 3 + 1)) _ _
  rw [e4]
  have g1 : Ag wRd S (ivSet (ivSet S 9 0 cc.length (nI x)) 7 0 3 (nI (cc.length + 1))) := (Ag.iv (by simp [wRd])).tr (Ag.iv (by simp [wRd]))
  have g2 : Ag (fun j g k => (j = 7 ∧ k = 3) ∨ j = 9) S (ivSet (ivSet S 9 0 cc.length (nI x)) 7 0 3 (nI (cc.length + 1))) := (Ag.iv (by simp)).tr (Ag.iv (by simp))
  have k4 : (ivSet (ivSet S 9 0 cc.length (nI x)) 7 0 3 (nI (cc.length + 1))).1 7 0 3 = nI (cc.length + 1) := iv_at
  have k5 : ∀ k, k < cc.length + 1 → (ivSet (ivSet S 9 0 cc.length (nI x)) 7 0 3 (nI (cc.length + 1))).1 9 0 k = nI ((cc ++ [x]).getD k 0) := by
    intro k hk
    rw [iv_ne (by omega)]
    by_cases e : k = cc.length
    · subst e
      rw [iv_at]
      simp [List.getD]
    · rw [iv_ne (by omega), r5 k (by omega)]
      congr 1
      simp [List.getD, List.getElem?_append_left (show k < cc.length by omega)]
  generalize ivSet (ivSet S 9 0 cc.length (nI x)) 7 0 3 (nI (cc.length + 1)) = S1 at g1 g2 k4 k5 ⊢
  repeat (first | (refine hP _ _ _ _ _ _ ?_; show P _ _ _ _ _ _) | (refine hP _ _ _ _ _ _ (And.intro (hN _ _ _ rfl) ?_); show P _ _ (aR _ _ :: _) _ _ _))
  refine hP _ _ _ _ _ _ (And.intro (Or.inr rfl) (h S1 g1 ⟨r1.up g2 (fun k => by simp), ?_, r3, ?_, ?_, ?_⟩))
  · obtain ⟨l1, l2, l3, l4⟩ := r2
    refine ⟨?_, ?_, ?_, fun z => ?_⟩
    · rw [g2.1 7 0 5 (by simp)]; exact l1
    · rw [g2.1 7 0 6 (by simp)]; exact l2
    · rw [g2.1 7 0 8 (by simp)]; exact l3
    · rw [g2.1 7 0 7 (by simp)]; exact l4 z
  · rw [List.length_append, List.length_singleton]; exact k4
  · intro k hk
    rw [List.length_append, List.length_singleton] at hk
    exact k5 k hk
  · rw [g2.1 7 0 9 (by simp)]; exact r6
theorem RD.o {S : St} {T : Tx} {q o o' : Nat} {cc : List Nat} (h : RD S T q cc o) : RD (ivSet S 7 0 9 (nI o')) T q cc o' := by
  obtain ⟨r1, r2, r3, r4, r5, r6⟩ := h
  have g2 : Ag (fun j g k => j = 7 ∧ k = 9) S (ivSet S 7 0 9 (nI o')) := Ag.iv (by simp)
  refine ⟨r1.up g2 (fun k => by simp), ?_, r3, ?_, ?_, iv_at⟩
  · obtain ⟨l1, l2, l3, l4⟩ := r2
    refine ⟨?_, ?_, ?_, fun z => ?_⟩
    · rw [g2.1 7 0 5 (by simp)]; exact l1
    · rw [g2.1 7 0 6 (by simp)]; exact l2
    · rw [g2.1 7 0 8 (by simp)]; exact l3
    · rw [g2.1 7 0 7 (by simp)]; exact l4 z
  · rw [g2.1 7 0 3 (by simp)]; exact r4
  · intro k hk
    rw [g2.1 9 0 k (by simp)]; exact r5 k hk
theorem r_opens {d q o : Nat} {S : St} {K : KT} {T : Tx} {cc : List Nat} (hd : 4 ≤ d) (ho : o ≤ 5) (hN : NN S) (hR : RD S T q cc o) (h1 : ¬ 5 ≤ o → ∀ S', Ag wRd S S' → RD S' T (nx T q) cc (o + 1) → K (some (aI 1)) S') (h0 : 5 ≤ o → K (some (aI 0)) S) : Call d m_X1_opens [aR 7 0] S K := by
  refine Call.of (k := 3) hd (fun e he P hP => ?_)
  repeat (first | (refine hP _ _ _ _ _ _ ?_; show P _ _ _ _ _ _) | (refine hP _ _ _ _ _ _ (And.intro (hN _ _ _ rfl) ?_); show P _ _ (aR _ _ :: _) _ _ _))
  rw [hR.2.2.2.2.2]
  refine hP _ _ _ _ _ _ (ltI (x := o) (y := 5) (by omega) (by omega) (fun e => ?_) (fun e => ?_))
  · repeat (first | (refine hP _ _ _ _ _ _ ?_; show P _ _ _ _ _ _) | (refine hP _ _ _ _ _ _ (And.intro (hN _ _ _ rfl) ?_); show P _ _ (aR _ _ :: _) _ _ _))
    rw [hR.2.2.2.2.2, nI_1]
    show P _ _ _ (ivSet S 7 0 9 (nI (o + 1))) _ _
    have hR2 := hR.o (o' := o + 1)
    have g2 : Ag wRd S (ivSet S 7 0 9 (nI (o + 1))) := Ag.iv (by simp [wRd])
    generalize ivSet S 7 0 9 (nI (o + 1)) = S2 at hR2 g2 ⊢
    repeat (first | (refine hP _ _ _ _ _ _ ?_; show P _ _ _ _ _ _) | (refine hP _ _ _ _ _ _ (And.intro (hN _ _ _ rfl) ?_); show P _ _ (aR _ _ :: _) _ _ _))
    refine hP _ _ _ _ _ _ (r_next (by omega) (hN.up g2) hR2 (fun S1 g1 hR1 => ?_))
    repeat (first | (refine hP _ _ _ _ _ _ ?_; show P _ _ _ _ _ _) | (refine hP _ _ _ _ _ _ (And.intro (hN _ _ _ rfl) ?_); show P _ _ (aR _ _ :: _) _ _ _))
    refine hP _ _ _ _ _ _ (And.intro (Or.inr rfl) (h1 (by omega) S1 (g2.tr g1) hR1))
  · repeat (first | (refine hP _ _ _ _ _ _ ?_; show P _ _ _ _ _ _) | (refine hP _ _ _ _ _ _ (And.intro (hN _ _ _ rfl) ?_); show P _ _ (aR _ _ :: _) _ _ _))
    refine hP _ _ _ _ _ _ (And.intro (Or.inl rfl) (h0 (by omega)))
def rk (l : Nat) : Nat := [10, 9, 8, 7, 6, 5, 4].getD l 3
def dp (l : Nat) : Nat := [10, 9, 8, 7, 6, 5, 4].getD l 3
def lvM (l : Nat) : MT := match l with
  | 0 => m_X1_either
  | 1 => m_X1_both
  | 2 => m_X1_denied
  | 3 => m_X1_compared
  | 4 => m_X1_sum
  | 5 => m_X1_term
  | _ => m_X1_one
def CP1 (T : Tx) (n l q o : Nat) : Prop := ∀ (d : Nat) (S : St) (K : KT) (cc : List Nat), 10 * (5 - o) + dp l ≤ d → NN S → RD S T q cc o → cc.length ≤ bg T q → (∀ S', Ag wRd S S' → (P7 T n l q o []).1 = true → RD S' T (P7 T n l q o []).2.2 (cc ++ (P7 T n l q o []).2.1) o → K (some (aI 1)) S') → (∀ S', Ag wRd S S' → (P7 T n l q o []).1 = false → S'.1 7 0 8 = nI (bg T (P7 T n l q o []).2.2) → K (some (aI 0)) S') → Call d (lvM l) [aR 7 0] S K
def CP (T : Tx) (n : Nat) : Prop := ∀ l q o, okL l → l < 10 → 20 * (T.1 - bg T q) + rk l < n → q ≤ T.1 → o ≤ 5 → CP1 T n l q o
theorem c_either {T : Tx} {n q o : Nat} (ih : ∀ m, m ≤ n → CP T m) (hm : 20 * (T.1 - bg T q) + rk 0 < n + 1) (hq : q ≤ T.1) (ho : o ≤ 5) : CP1 T (n + 1) 0 q o := by
  intro d S K cc hd hN hR hl h1 h0
  have hrk : rk 0 = 10 := rfl
  have hrk1 : rk 1 = 9 := rfl
  have hdp : dp 0 = 10 := rfl
  have hdp1 : dp 1 = 9 := rfl
  have h160 := hR.1.2.1
  show Call d m_X1_either [aR 7 0] S K
  refine Call.of (k := 10 * (5 - o) + 9) (by omega) (fun e he P hP => ?_)
  have out0 : ∀ S1 t, Ag wRd S S1 → (P7 T (n + 1) 0 q o []).1 = false → S1.1 7 0 8 = nI (bg T (P7 T (n + 1) 0 q o []).2.2) → P 11 [some (aR 7 0), some (aI 0), some (aI (nI t))] [aI 160, aI (nI t)] S1 0 0 := by
    intro S1 t g1 e1 e2
    refine hP _ _ _ _ _ _ (And.intro (fun hc => ?_) (fun hc => ?_))
    · repeat (first | (refine hP _ _ _ _ _ _ ?_; show P _ _ _ _ _ _) | (refine hP _ _ _ _ _ _ (And.intro (hN _ _ _ rfl) ?_); show P _ _ (aR _ _ :: _) _ _ _) | refine hP _ _ _ _ _ _ (And.intro (fun _ => ?_) (fun hc => absurd hc (by decide))) | refine hP _ _ _ _ _ _ (And.intro (fun hc => absurd hc (by decide)) (fun _ => ?_)))
      refine hP _ _ _ _ _ _ (And.intro (Or.inl rfl) (h0 S1 g1 e1 e2))
    · repeat (first | (refine hP _ _ _ _ _ _ ?_; show P _ _ _ _ _ _) | (refine hP _ _ _ _ _ _ (And.intro (hN _ _ _ rfl) ?_); show P _ _ (aR _ _ :: _) _ _ _) | refine hP _ _ _ _ _ _ (And.intro (fun _ => ?_) (fun hc => absurd hc (by decide))) | refine hP _ _ _ _ _ _ (And.intro (fun hc => absurd hc (by decide)) (fun _ => ?_)))
      refine hP _ _ _ _ _ _ (And.intro (Or.inl rfl) (h0 S1 g1 e1 e2))
  have loop : ∀ m, m ≤ n → ∀ q1 c1 t S1, 20 * (T.1 - bg T q1) + 3 < m → P7 T (n + 1) 0 q o [] = P7 T m 10 q1 o c1 → Ag wRd S S1 → RD S1 T q1 (cc ++ c1) o → (cc ++ c1).length ≤ bg T q1 → t ≤ bg T q1 → P 11 [some (aR 7 0), some (aI 1), some (aI (nI t))] [aI 160, aI (nI t)] S1 0 0 := by
    intro m
    induction m with
    | zero => intro _ q1 c1 t S1 hz; omega
    | succ m ihm =>
      intro hmn q1 c1 t S1 hf hE g1 hR1 hl1 ht
      have hN1 := hN.up g1
      have hN := hN1
      by_cases hk : kd T q1 = 203
      · have hb := kd_lt (T := T) (q := q1) (by omega)
        have hb2 := nx_bg (T := T) (q := q1) (by omega)
        have hE2 : P7 T (n + 1) 0 q o [] = (bif (P7 T m 1 (nx T q1) o []).1 then P7 T m 10 (P7 T m 1 (nx T q1) o []).2.2 o (c1 ++ (P7 T m 1 (nx T q1) o []).2.1 ++ [10008]) else P7 T m 1 (nx T q1) o []) := hE.trans (if_pos hk)
        have hPI := P7_in T m 1 (nx T q1) o [] (by simp [okL]) (nx_le hR1.2.2.1)
        refine hP _ _ _ _ _ _ (And.intro (fun hc => absurd hc (nI_ge (b := 160) (a := t) (by omega) (by decide))) (fun _ => ?_))
        repeat (first | (refine hP _ _ _ _ _ _ ?_; show P _ _ _ _ _ _) | (refine hP _ _ _ _ _ _ (And.intro (hN _ _ _ rfl) ?_); show P _ _ (aR _ _ :: _) _ _ _) | refine hP _ _ _ _ _ _ (And.intro (fun _ => ?_) (fun hc => absurd hc (by decide))) | refine hP _ _ _ _ _ _ (And.intro (fun hc => absurd hc (by decide)) (fun _ => ?_)))
        rw [hR1.2.1.2.1]
        refine hP _ _ _ _ _ _ (kdN (c := 203) (by omega) (fun z => absurd hk z) (fun _ => ?_))
        repeat (first | (refine hP _ _ _ _ _ _ ?_; show P _ _ _ _ _ _) | (refine hP _ _ _ _ _ _ (And.intro (hN _ _ _ rfl) ?_); show P _ _ (aR _ _ :: _) _ _ _) | refine hP _ _ _ _ _ _ (And.intro (fun _ => ?_) (fun hc => absurd hc (by decide))) | refine hP _ _ _ _ _ _ (And.intro (fun hc => absurd hc (by decide)) (fun _ => ?_)))
        refine hP _ _ _ _ _ _ (r_next (by omega) hN1 hR1 (fun S2 g2 hR2 => ?_))
        have hN := hN1.up g2
        repeat (first | (refine hP _ _ _ _ _ _ ?_; show P _ _ _ _ _ _) | (refine hP _ _ _ _ _ _ (And.intro (hN _ _ _ rfl) ?_); show P _ _ (aR _ _ :: _) _ _ _) | refine hP _ _ _ _ _ _ (And.intro (fun _ => ?_) (fun hc => absurd hc (by decide))) | refine hP _ _ _ _ _ _ (And.intro (fun hc => absurd hc (by decide)) (fun _ => ?_)))
        refine hP _ _ _ _ _ _ (ih m (by omega) 1 (nx T q1) o (by simp [okL]) (by omega) (by omega) (nx_le hR1.2.2.1) ho e S2 _ (cc ++ c1) (by omega) hN hR2 (by omega) (fun S3 g3 e3 hR3 => ?_) (fun S3 g3 e3 b3 => ?_))
        · have hN3 := hN.up g3
          have hN := hN3
          have a2 := hPI.2 e3
          have a3 := a2.2.2 (by omega)
          simp only [show ¬ 10 ≤ 1 by omega, if_false] at a2
          have hle3 := bg_le hR3.2.2.1
          have hlen : (cc ++ c1 ++ (P7 T m 1 (nx T q1) o []).2.1).length + 1 ≤ bg T (P7 T m 1 (nx T q1) o []).2.2 := by
            rw [List.length_append]
            omega
          repeat (first | (refine hP _ _ _ _ _ _ ?_; show P _ _ _ _ _ _) | (refine hP _ _ _ _ _ _ (And.intro (hN _ _ _ rfl) ?_); show P _ _ (aR _ _ :: _) _ _ _) | refine hP _ _ _ _ _ _ (And.intro (fun _ => ?_) (fun hc => absurd hc (by decide))) | refine hP _ _ _ _ _ _ (And.intro (fun hc => absurd hc (by decide)) (fun _ => ?_)))
          refine hP _ _ _ _ _ _ (r_put (x := 10008) (by omega) hN3 hR3 (by omega) (fun S4 g4 hR4 => ?_))
          have hN4 := hN3.up g4
          have hN := hN4
          repeat (first | (refine hP _ _ _ _ _ _ ?_; show P _ _ _ _ _ _) | (refine hP _ _ _ _ _ _ (And.intro (hN _ _ _ rfl) ?_); show P _ _ (aR _ _ :: _) _ _ _) | refine hP _ _ _ _ _ _ (And.intro (fun _ => ?_) (fun hc => absurd hc (by decide))) | refine hP _ _ _ _ _ _ (And.intro (fun hc => absurd hc (by decide)) (fun _ => ?_)))
          have ihm := ihm (by omega) (P7 T m 1 (nx T q1) o []).2.2 (c1 ++ (P7 T m 1 (nx T q1) o []).2.1 ++ [10008]) (t + 1) S4 (by omega) (by rw [hE2, e3]; rfl) (g1.tr (g2.tr (g3.tr g4))) (by rw [← List.append_assoc, ← List.append_assoc]; exact hR4) (by rw [← List.append_assoc, ← List.append_assoc, List.length_append, List.length_singleton]; exact hlen) (by omega)
          rw [nI_succ] at ihm
          exact ihm
        · have hN := hN.up g3
          repeat (first | (refine hP _ _ _ _ _ _ ?_; show P _ _ _ _ _ _) | (refine hP _ _ _ _ _ _ (And.intro (hN _ _ _ rfl) ?_); show P _ _ (aR _ _ :: _) _ _ _) | refine hP _ _ _ _ _ _ (And.intro (fun _ => ?_) (fun hc => absurd hc (by decide))) | refine hP _ _ _ _ _ _ (And.intro (fun hc => absurd hc (by decide)) (fun _ => ?_)))
          have := out0 S3 (t + 1) (g1.tr (g2.tr g3)) (by rw [hE2, e3]; exact e3) (by rw [hE2, e3]; exact b3)
          rw [nI_succ] at this
          exact this
      · have hE2 : P7 T (n + 1) 0 q o [] = (true, c1, q1) := hE.trans (if_neg hk)
        have ok := h1 S1 g1 (by rw [hE2]) (by rw [hE2]; exact hR1)
        refine hP _ _ _ _ _ _ (And.intro (fun hc => ?_) (fun hc => ?_))
        · repeat (first | (refine hP _ _ _ _ _ _ ?_; show P _ _ _ _ _ _) | (refine hP _ _ _ _ _ _ (And.intro (hN _ _ _ rfl) ?_); show P _ _ (aR _ _ :: _) _ _ _) | refine hP _ _ _ _ _ _ (And.intro (fun _ => ?_) (fun hc => absurd hc (by decide))) | refine hP _ _ _ _ _ _ (And.intro (fun hc => absurd hc (by decide)) (fun _ => ?_)))
          refine hP _ _ _ _ _ _ (And.intro (Or.inr rfl) ok)
        · repeat (first | (refine hP _ _ _ _ _ _ ?_; show P _ _ _ _ _ _) | (refine hP _ _ _ _ _ _ (And.intro (hN _ _ _ rfl) ?_); show P _ _ (aR _ _ :: _) _ _ _) | refine hP _ _ _ _ _ _ (And.intro (fun _ => ?_) (fun hc => absurd hc (by decide))) | refine hP _ _ _ _ _ _ (And.intro (fun hc => absurd hc (by decide)) (fun _ => ?_)))
          rw [hR1.2.1.2.1]
          refine hP _ _ _ _ _ _ (kdN (c := 203) (by omega) (fun _ => ?_) (fun z => absurd z hk))
          repeat (first | (refine hP _ _ _ _ _ _ ?_; show P _ _ _ _ _ _) | (refine hP _ _ _ _ _ _ (And.intro (hN _ _ _ rfl) ?_); show P _ _ (aR _ _ :: _) _ _ _) | refine hP _ _ _ _ _ _ (And.intro (fun _ => ?_) (fun hc => absurd hc (by decide))) | refine hP _ _ _ _ _ _ (And.intro (fun hc => absurd hc (by decide)) (fun _ => ?_)))
          refine hP _ _ _ _ _ _ (And.intro (Or.inr rfl) ok)
  have hPI := P7_in T n 1 q o [] (by simp [okL]) hq
  have hE : P7 T (n + 1) 0 q o [] = (bif (P7 T n 1 q o []).1 then P7 T n 10 (P7 T n 1 q o []).2.2 o (P7 T n 1 q o []).2.1 else P7 T n 1 q o []) := rfl
  repeat (first | (refine hP _ _ _ _ _ _ ?_; show P _ _ _ _ _ _) | (refine hP _ _ _ _ _ _ (And.intro (hN _ _ _ rfl) ?_); show P _ _ (aR _ _ :: _) _ _ _) | refine hP _ _ _ _ _ _ (And.intro (fun _ => ?_) (fun hc => absurd hc (by decide))) | refine hP _ _ _ _ _ _ (And.intro (fun hc => absurd hc (by decide)) (fun _ => ?_)))
  refine hP _ _ _ _ _ _ (ih n (Nat.le_refl _) 1 q o (by simp [okL]) (by omega) (by omega) hq ho e S _ cc (by omega) hN hR hl (fun S3 g3 e3 hR3 => ?_) (fun S3 g3 e3 b3 => ?_))
  · have hN := hN.up g3
    have a2 := hPI.2 e3
    have a3 := a2.2.2 (by omega)
    have hle3 := bg_le hR3.2.2.1
    simp only [show ¬ 10 ≤ 1 by omega, if_false] at a2
    repeat (first | (refine hP _ _ _ _ _ _ ?_; show P _ _ _ _ _ _) | (refine hP _ _ _ _ _ _ (And.intro (hN _ _ _ rfl) ?_); show P _ _ (aR _ _ :: _) _ _ _))
    exact loop n (Nat.le_refl _) _ _ 0 S3 (by omega) (by rw [hE, e3]; rfl) g3 hR3 (by rw [List.length_append]; omega) (Nat.zero_le _)
  · have hN := hN.up g3
    repeat (first | (refine hP _ _ _ _ _ _ ?_; show P _ _ _ _ _ _) | (refine hP _ _ _ _ _ _ (And.intro (hN _ _ _ rfl) ?_); show P _ _ (aR _ _ :: _) _ _ _))
    exact out0 S3 0 g3 (by rw [hE, e3]; exact e3) (by rw [hE, e3]; exact b3)
theorem c_both {T : Tx} {n q o : Nat} (ih : ∀ m, m ≤ n → CP T m) (hm : 20 * (T.1 - bg T q) + rk 1 < n + 1) (hq : q ≤ T.1) (ho : o ≤ 5) : CP1 T (n + 1) 1 q o := by
  intro d S K cc hd hN hR hl h1 h0
  have hrk : rk 1 = 9 := rfl
  have hrk1 : rk 2 = 8 := rfl
  have hdp : dp 1 = 9 := rfl
  have hdp1 : dp 2 = 8 := rfl
  have h160 := hR.1.2.1
  show Call d m_X1_both [aR 7 0] S K
  refine Call.of (k := 10 * (5 - o) + 8) (by omega) (fun e he P hP => ?_)
  have out0 : ∀ S1 t, Ag wRd S S1 → (P7 T (n + 1) 1 q o []).1 = false → S1.1 7 0 8 = nI (bg T (P7 T (n + 1) 1 q o []).2.2) → P 11 [some (aR 7 0), some (aI 0), some (aI (nI t))] [aI 160, aI (nI t)] S1 0 0 := by
    intro S1 t g1 e1 e2
    refine hP _ _ _ _ _ _ (And.intro (fun hc => ?_) (fun hc => ?_))
    · repeat (first | (refine hP _ _ _ _ _ _ ?_; show P _ _ _ _ _ _) | (refine hP _ _ _ _ _ _ (And.intro (hN _ _ _ rfl) ?_); show P _ _ (aR _ _ :: _) _ _ _) | refine hP _ _ _ _ _ _ (And.intro (fun _ => ?_) (fun hc => absurd hc (by decide))) | refine hP _ _ _ _ _ _ (And.intro (fun hc => absurd hc (by decide)) (fun _ => ?_)))
      refine hP _ _ _ _ _ _ (And.intro (Or.inl rfl) (h0 S1 g1 e1 e2))
    · repeat (first | (refine hP _ _ _ _ _ _ ?_; show P _ _ _ _ _ _) | (refine hP _ _ _ _ _ _ (And.intro (hN _ _ _ rfl) ?_); show P _ _ (aR _ _ :: _) _ _ _) | refine hP _ _ _ _ _ _ (And.intro (fun _ => ?_) (fun hc => absurd hc (by decide))) | refine hP _ _ _ _ _ _ (And.intro (fun hc => absurd hc (by decide)) (fun _ => ?_)))
      refine hP _ _ _ _ _ _ (And.intro (Or.inl rfl) (h0 S1 g1 e1 e2))
  have loop : ∀ m, m ≤ n → ∀ q1 c1 t S1, 20 * (T.1 - bg T q1) + 3 < m → P7 T (n + 1) 1 q o [] = P7 T m 11 q1 o c1 → Ag wRd S S1 → RD S1 T q1 (cc ++ c1) o → (cc ++ c1).length ≤ bg T q1 → t ≤ bg T q1 → P 11 [some (aR 7 0), some (aI 1), some (aI (nI t))] [aI 160, aI (nI t)] S1 0 0 := by
    intro m
    induction m with
    | zero => intro _ q1 c1 t S1 hz; omega
    | succ m ihm =>
      intro hmn q1 c1 t S1 hf hE g1 hR1 hl1 ht
      have hN1 := hN.up g1
      have hN := hN1
      by_cases hk : kd T q1 = 204
      · have hb := kd_lt (T := T) (q := q1) (by omega)
        have hb2 := nx_bg (T := T) (q := q1) (by omega)
        have hE2 : P7 T (n + 1) 1 q o [] = (bif (P7 T m 2 (nx T q1) o []).1 then P7 T m 11 (P7 T m 2 (nx T q1) o []).2.2 o (c1 ++ (P7 T m 2 (nx T q1) o []).2.1 ++ [10009]) else P7 T m 2 (nx T q1) o []) := hE.trans (if_pos hk)
        have hPI := P7_in T m 2 (nx T q1) o [] (by simp [okL]) (nx_le hR1.2.2.1)
        refine hP _ _ _ _ _ _ (And.intro (fun hc => absurd hc (nI_ge (b := 160) (a := t) (by omega) (by decide))) (fun _ => ?_))
        repeat (first | (refine hP _ _ _ _ _ _ ?_; show P _ _ _ _ _ _) | (refine hP _ _ _ _ _ _ (And.intro (hN _ _ _ rfl) ?_); show P _ _ (aR _ _ :: _) _ _ _) | refine hP _ _ _ _ _ _ (And.intro (fun _ => ?_) (fun hc => absurd hc (by decide))) | refine hP _ _ _ _ _ _ (And.intro (fun hc => absurd hc (by decide)) (fun _ => ?_)))
        rw [hR1.2.1.2.1]
        refine hP _ _ _ _ _ _ (kdN (c := 204) (by omega) (fun z => absurd hk z) (fun _ => ?_))
        repeat (first | (refine hP _ _ _ _ _ _ ?_; show P _ _ _ _ _ _) | (refine hP _ _ _ _ _ _ (And.intro (hN _ _ _ rfl) ?_); show P _ _ (aR _ _ :: _) _ _ _) | refine hP _ _ _ _ _ _ (And.intro (fun _ => ?_) (fun hc => absurd hc (by decide))) | refine hP _ _ _ _ _ _ (And.intro (fun hc => absurd hc (by decide)) (fun _ => ?_)))
        refine hP _ _ _ _ _ _ (r_next (by omega) hN1 hR1 (fun S2 g2 hR2 => ?_))
        have hN := hN1.up g2
        repeat (first | (refine hP _ _ _ _ _ _ ?_; show P _ _ _ _ _ _) | (refine hP _ _ _ _ _ _ (And.intro (hN _ _ _ rfl) ?_); show P _ _ (aR _ _ :: _) _ _ _) | refine hP _ _ _ _ _ _ (And.intro (fun _ => ?_) (fun hc => absurd hc (by decide))) | refine hP _ _ _ _ _ _ (And.intro (fun hc => absurd hc (by decide)) (fun _ => ?_)))
        refine hP _ _ _ _ _ _ (ih m (by omega) 2 (nx T q1) o (by simp [okL]) (by omega) (by omega) (nx_le hR1.2.2.1) ho e S2 _ (cc ++ c1) (by omega) hN hR2 (by omega) (fun S3 g3 e3 hR3 => ?_) (fun S3 g3 e3 b3 => ?_))
        · have hN3 := hN.up g3
          have hN := hN3
          have a2 := hPI.2 e3
          have a3 := a2.2.2 (by omega)
          simp only [show ¬ 10 ≤ 2 by omega, if_false] at a2
          have hle3 := bg_le hR3.2.2.1
          have hlen : (cc ++ c1 ++ (P7 T m 2 (nx T q1) o []).2.1).length + 1 ≤ bg T (P7 T m 2 (nx T q1) o []).2.2 := by
            rw [List.length_append]
            omega
          repeat (first | (refine hP _ _ _ _ _ _ ?_; show P _ _ _ _ _ _) | (refine hP _ _ _ _ _ _ (And.intro (hN _ _ _ rfl) ?_); show P _ _ (aR _ _ :: _) _ _ _) | refine hP _ _ _ _ _ _ (And.intro (fun _ => ?_) (fun hc => absurd hc (by decide))) | refine hP _ _ _ _ _ _ (And.intro (fun hc => absurd hc (by decide)) (fun _ => ?_)))
          refine hP _ _ _ _ _ _ (r_put (x := 10009) (by omega) hN3 hR3 (by omega) (fun S4 g4 hR4 => ?_))
          have hN4 := hN3.up g4
          have hN := hN4
          repeat (first | (refine hP _ _ _ _ _ _ ?_; show P _ _ _ _ _ _) | (refine hP _ _ _ _ _ _ (And.intro (hN _ _ _ rfl) ?_); show P _ _ (aR _ _ :: _) _ _ _) | refine hP _ _ _ _ _ _ (And.intro (fun _ => ?_) (fun hc => absurd hc (by decide))) | refine hP _ _ _ _ _ _ (And.intro (fun hc => absurd hc (by decide)) (fun _ => ?_)))
          have ihm := ihm (by omega) (P7 T m 2 (nx T q1) o []).2.2 (c1 ++ (P7 T m 2 (nx T q1) o []).2.1 ++ [10009]) (t + 1) S4 (by omega) (by rw [hE2, e3]; rfl) (g1.tr (g2.tr (g3.tr g4))) (by rw [← List.append_assoc, ← List.append_assoc]; exact hR4) (by rw [← List.append_assoc, ← List.append_assoc, List.length_append, List.length_singleton]; exact hlen) (by omega)
          rw [nI_succ] at ihm
          exact ihm
        · have hN := hN.up g3
          repeat (first | (refine hP _ _ _ _ _ _ ?_; show P _ _ _ _ _ _) | (refine hP _ _ _ _ _ _ (And.intro (hN _ _ _ rfl) ?_); show P _ _ (aR _ _ :: _) _ _ _) | refine hP _ _ _ _ _ _ (And.intro (fun _ => ?_) (fun hc => absurd hc (by decide))) | refine hP _ _ _ _ _ _ (And.intro (fun hc => absurd hc (by decide)) (fun _ => ?_)))
          have := out0 S3 (t + 1) (g1.tr (g2.tr g3)) (by rw [hE2, e3]; exact e3) (by rw [hE2, e3]; exact b3)
          rw [nI_succ] at this
          exact this
      · have hE2 : P7 T (n + 1) 1 q o [] = (true, c1, q1) := hE.trans (if_neg hk)
        have ok := h1 S1 g1 (by rw [hE2]) (by rw [hE2]; exact hR1)
        refine hP _ _ _ _ _ _ (And.intro (fun hc => ?_) (fun hc => ?_))
        · repeat (first | (refine hP _ _ _ _ _ _ ?_; show P _ _ _ _ _ _) | (refine hP _ _ _ _ _ _ (And.intro (hN _ _ _ rfl) ?_); show P _ _ (aR _ _ :: _) _ _ _) | refine hP _ _ _ _ _ _ (And.intro (fun _ => ?_) (fun hc => absurd hc (by decide))) | refine hP _ _ _ _ _ _ (And.intro (fun hc => absurd hc (by decide)) (fun _ => ?_)))
          refine hP _ _ _ _ _ _ (And.intro (Or.inr rfl) ok)
        · repeat (first | (refine hP _ _ _ _ _ _ ?_; show P _ _ _ _ _ _) | (refine hP _ _ _ _ _ _ (And.intro (hN _ _ _ rfl) ?_); show P _ _ (aR _ _ :: _) _ _ _) | refine hP _ _ _ _ _ _ (And.intro (fun _ => ?_) (fun hc => absurd hc (by decide))) | refine hP _ _ _ _ _ _ (And.intro (fun hc => absurd hc (by decide)) (fun _ => ?_)))
          rw [hR1.2.1.2.1]
          refine hP _ _ _ _ _ _ (kdN (c := 204) (by omega) (fun _ => ?_) (fun z => absurd z hk))
          repeat (first | (refine hP _ _ _ _ _ _ ?_; show P _ _ _ _ _ _) | (refine hP _ _ _ _ _ _ (And.intro (hN _ _ _ rfl) ?_); show P _ _ (aR _ _ :: _) _ _ _) | refine hP _ _ _ _ _ _ (And.intro (fun _ => ?_) (fun hc => absurd hc (by decide))) | refine hP _ _ _ _ _ _ (And.intro (fun hc => absurd hc (by decide)) (fun _ => ?_)))
          refine hP _ _ _ _ _ _ (And.intro (Or.inr rfl) ok)
  have hPI := P7_in T n 2 q o [] (by simp [okL]) hq
  have hE : P7 T (n + 1) 1 q o [] = (bif (P7 T n 2 q o []).1 then P7 T n 11 (P7 T n 2 q o []).2.2 o (P7 T n 2 q o []).2.1 else P7 T n 2 q o []) := rfl
  repeat (first | (refine hP _ _ _ _ _ _ ?_; show P _ _ _ _ _ _) | (refine hP _ _ _ _ _ _ (And.intro (hN _ _ _ rfl) ?_); show P _ _ (aR _ _ :: _) _ _ _) | refine hP _ _ _ _ _ _ (And.intro (fun _ => ?_) (fun hc => absurd hc (by decide))) | refine hP _ _ _ _ _ _ (And.intro (fun hc => absurd hc (by decide)) (fun _ => ?_)))
  refine hP _ _ _ _ _ _ (ih n (Nat.le_refl _) 2 q o (by simp [okL]) (by omega) (by omega) hq ho e S _ cc (by omega) hN hR hl (fun S3 g3 e3 hR3 => ?_) (fun S3 g3 e3 b3 => ?_))
  · have hN := hN.up g3
    have a2 := hPI.2 e3
    have a3 := a2.2.2 (by omega)
    have hle3 := bg_le hR3.2.2.1
    simp only [show ¬ 10 ≤ 2 by omega, if_false] at a2
    repeat (first | (refine hP _ _ _ _ _ _ ?_; show P _ _ _ _ _ _) | (refine hP _ _ _ _ _ _ (And.intro (hN _ _ _ rfl) ?_); show P _ _ (aR _ _ :: _) _ _ _))
    exact loop n (Nat.le_refl _) _ _ 0 S3 (by omega) (by rw [hE, e3]; rfl) g3 hR3 (by rw [List.length_append]; omega) (Nat.zero_le _)
  · have hN := hN.up g3
    repeat (first | (refine hP _ _ _ _ _ _ ?_; show P _ _ _ _ _ _) | (refine hP _ _ _ _ _ _ (And.intro (hN _ _ _ rfl) ?_); show P _ _ (aR _ _ :: _) _ _ _))
    exact out0 S3 0 g3 (by rw [hE, e3]; exact e3) (by rw [hE, e3]; exact b3)
theorem c_term {T : Tx} {n q o : Nat} (ih : ∀ m, m ≤ n → CP T m) (hm : 20 * (T.1 - bg T q) + rk 5 < n + 1) (hq : q ≤ T.1) (ho : o ≤ 5) : CP1 T (n + 1) 5 q o := by
  intro d S K cc hd hN hR hl h1 h0
  have hrk : rk 5 = 5 := rfl
  have hrk1 : rk 6 = 4 := rfl
  have hdp : dp 5 = 5 := rfl
  have hdp1 : dp 6 = 4 := rfl
  have h160 := hR.1.2.1
  show Call d m_X1_term [aR 7 0] S K
  refine Call.of (k := 10 * (5 - o) + 4) (by omega) (fun e he P hP => ?_)
  have out0 : ∀ S1 t, Ag wRd S S1 → (P7 T (n + 1) 5 q o []).1 = false → S1.1 7 0 8 = nI (bg T (P7 T (n + 1) 5 q o []).2.2) → P 11 [some (aR 7 0), some (aI 0), some (aI (nI t))] [aI 160, aI (nI t)] S1 0 0 := by
    intro S1 t g1 e1 e2
    refine hP _ _ _ _ _ _ (And.intro (fun hc => ?_) (fun hc => ?_))
    · repeat (first | (refine hP _ _ _ _ _ _ ?_; show P _ _ _ _ _ _) | (refine hP _ _ _ _ _ _ (And.intro (hN _ _ _ rfl) ?_); show P _ _ (aR _ _ :: _) _ _ _) | refine hP _ _ _ _ _ _ (And.intro (fun _ => ?_) (fun hc => absurd hc (by decide))) | refine hP _ _ _ _ _ _ (And.intro (fun hc => absurd hc (by decide)) (fun _ => ?_)))
      refine hP _ _ _ _ _ _ (And.intro (Or.inl rfl) (h0 S1 g1 e1 e2))
    · repeat (first | (refine hP _ _ _ _ _ _ ?_; show P _ _ _ _ _ _) | (refine hP _ _ _ _ _ _ (And.intro (hN _ _ _ rfl) ?_); show P _ _ (aR _ _ :: _) _ _ _) | refine hP _ _ _ _ _ _ (And.intro (fun _ => ?_) (fun hc => absurd hc (by decide))) | refine hP _ _ _ _ _ _ (And.intro (fun hc => absurd hc (by decide)) (fun _ => ?_)))
      refine hP _ _ _ _ _ _ (And.intro (Or.inl rfl) (h0 S1 g1 e1 e2))
  have loop : ∀ m, m ≤ n → ∀ q1 c1 t S1, 20 * (T.1 - bg T q1) + 3 < m → P7 T (n + 1) 5 q o [] = P7 T m 15 q1 o c1 → Ag wRd S S1 → RD S1 T q1 (cc ++ c1) o → (cc ++ c1).length ≤ bg T q1 → t ≤ bg T q1 → P 11 [some (aR 7 0), some (aI 1), some (aI (nI t))] [aI 160, aI (nI t)] S1 0 0 := by
    intro m
    induction m with
    | zero => intro _ q1 c1 t S1 hz; omega
    | succ m ihm =>
      intro hmn q1 c1 t S1 hf hE g1 hR1 hl1 ht
      have hN1 := hN.up g1
      have hN := hN1
      by_cases hk : kd T q1 = 42
      · have hb := kd_lt (T := T) (q := q1) (by omega)
        have hb2 := nx_bg (T := T) (q := q1) (by omega)
        have hE2 : P7 T (n + 1) 5 q o [] = (bif (P7 T m 6 (nx T q1) o []).1 then P7 T m 15 (P7 T m 6 (nx T q1) o []).2.2 o (c1 ++ (P7 T m 6 (nx T q1) o []).2.1 ++ [10014]) else P7 T m 6 (nx T q1) o []) := hE.trans (if_pos hk)
        have hPI := P7_in T m 6 (nx T q1) o [] (by simp [okL]) (nx_le hR1.2.2.1)
        refine hP _ _ _ _ _ _ (And.intro (fun hc => absurd hc (nI_ge (b := 160) (a := t) (by omega) (by decide))) (fun _ => ?_))
        repeat (first | (refine hP _ _ _ _ _ _ ?_; show P _ _ _ _ _ _) | (refine hP _ _ _ _ _ _ (And.intro (hN _ _ _ rfl) ?_); show P _ _ (aR _ _ :: _) _ _ _) | refine hP _ _ _ _ _ _ (And.intro (fun _ => ?_) (fun hc => absurd hc (by decide))) | refine hP _ _ _ _ _ _ (And.intro (fun hc => absurd hc (by decide)) (fun _ => ?_)))
        rw [hR1.2.1.2.1]
        refine hP _ _ _ _ _ _ (kdN (c := 42) (by omega) (fun z => absurd hk z) (fun _ => ?_))
        repeat (first | (refine hP _ _ _ _ _ _ ?_; show P _ _ _ _ _ _) | (refine hP _ _ _ _ _ _ (And.intro (hN _ _ _ rfl) ?_); show P _ _ (aR _ _ :: _) _ _ _) | refine hP _ _ _ _ _ _ (And.intro (fun _ => ?_) (fun hc => absurd hc (by decide))) | refine hP _ _ _ _ _ _ (And.intro (fun hc => absurd hc (by decide)) (fun _ => ?_)))
        refine hP _ _ _ _ _ _ (r_next (by omega) hN1 hR1 (fun S2 g2 hR2 => ?_))
        have hN := hN1.up g2
        repeat (first | (refine hP _ _ _ _ _ _ ?_; show P _ _ _ _ _ _) | (refine hP _ _ _ _ _ _ (And.intro (hN _ _ _ rfl) ?_); show P _ _ (aR _ _ :: _) _ _ _) | refine hP _ _ _ _ _ _ (And.intro (fun _ => ?_) (fun hc => absurd hc (by decide))) | refine hP _ _ _ _ _ _ (And.intro (fun hc => absurd hc (by decide)) (fun _ => ?_)))
        refine hP _ _ _ _ _ _ (ih m (by omega) 6 (nx T q1) o (by simp [okL]) (by omega) (by omega) (nx_le hR1.2.2.1) ho e S2 _ (cc ++ c1) (by omega) hN hR2 (by omega) (fun S3 g3 e3 hR3 => ?_) (fun S3 g3 e3 b3 => ?_))
        · have hN3 := hN.up g3
          have hN := hN3
          have a2 := hPI.2 e3
          have a3 := a2.2.2 (by omega)
          simp only [show ¬ 10 ≤ 6 by omega, if_false] at a2
          have hle3 := bg_le hR3.2.2.1
          have hlen : (cc ++ c1 ++ (P7 T m 6 (nx T q1) o []).2.1).length + 1 ≤ bg T (P7 T m 6 (nx T q1) o []).2.2 := by
            rw [List.length_append]
            omega
          repeat (first | (refine hP _ _ _ _ _ _ ?_; show P _ _ _ _ _ _) | (refine hP _ _ _ _ _ _ (And.intro (hN _ _ _ rfl) ?_); show P _ _ (aR _ _ :: _) _ _ _) | refine hP _ _ _ _ _ _ (And.intro (fun _ => ?_) (fun hc => absurd hc (by decide))) | refine hP _ _ _ _ _ _ (And.intro (fun hc => absurd hc (by decide)) (fun _ => ?_)))
          refine hP _ _ _ _ _ _ (r_put (x := 10014) (by omega) hN3 hR3 (by omega) (fun S4 g4 hR4 => ?_))
          have hN4 := hN3.up g4
          have hN := hN4
          repeat (first | (refine hP _ _ _ _ _ _ ?_; show P _ _ _ _ _ _) | (refine hP _ _ _ _ _ _ (And.intro (hN _ _ _ rfl) ?_); show P _ _ (aR _ _ :: _) _ _ _) | refine hP _ _ _ _ _ _ (And.intro (fun _ => ?_) (fun hc => absurd hc (by decide))) | refine hP _ _ _ _ _ _ (And.intro (fun hc => absurd hc (by decide)) (fun _ => ?_)))
          have ihm := ihm (by omega) (P7 T m 6 (nx T q1) o []).2.2 (c1 ++ (P7 T m 6 (nx T q1) o []).2.1 ++ [10014]) (t + 1) S4 (by omega) (by rw [hE2, e3]; rfl) (g1.tr (g2.tr (g3.tr g4))) (by rw [← List.append_assoc, ← List.append_assoc]; exact hR4) (by rw [← List.append_assoc, ← List.append_assoc, List.length_append, List.length_singleton]; exact hlen) (by omega)
          rw [nI_succ] at ihm
          exact ihm
        · have hN := hN.up g3
          repeat (first | (refine hP _ _ _ _ _ _ ?_; show P _ _ _ _ _ _) | (refine hP _ _ _ _ _ _ (And.intro (hN _ _ _ rfl) ?_); show P _ _ (aR _ _ :: _) _ _ _) | refine hP _ _ _ _ _ _ (And.intro (fun _ => ?_) (fun hc => absurd hc (by decide))) | refine hP _ _ _ _ _ _ (And.intro (fun hc => absurd hc (by decide)) (fun _ => ?_)))
          have := out0 S3 (t + 1) (g1.tr (g2.tr g3)) (by rw [hE2, e3]; exact e3) (by rw [hE2, e3]; exact b3)
          rw [nI_succ] at this
          exact this
      · have hE2 : P7 T (n + 1) 5 q o [] = (true, c1, q1) := hE.trans (if_neg hk)
        have ok := h1 S1 g1 (by rw [hE2]) (by rw [hE2]; exact hR1)
        refine hP _ _ _ _ _ _ (And.intro (fun hc => ?_) (fun hc => ?_))
        · repeat (first | (refine hP _ _ _ _ _ _ ?_; show P _ _ _ _ _ _) | (refine hP _ _ _ _ _ _ (And.intro (hN _ _ _ rfl) ?_); show P _ _ (aR _ _ :: _) _ _ _) | refine hP _ _ _ _ _ _ (And.intro (fun _ => ?_) (fun hc => absurd hc (by decide))) | refine hP _ _ _ _ _ _ (And.intro (fun hc => absurd hc (by decide)) (fun _ => ?_)))
          refine hP _ _ _ _ _ _ (And.intro (Or.inr rfl) ok)
        · repeat (first | (refine hP _ _ _ _ _ _ ?_; show P _ _ _ _ _ _) | (refine hP _ _ _ _ _ _ (And.intro (hN _ _ _ rfl) ?_); show P _ _ (aR _ _ :: _) _ _ _) | refine hP _ _ _ _ _ _ (And.intro (fun _ => ?_) (fun hc => absurd hc (by decide))) | refine hP _ _ _ _ _ _ (And.intro (fun hc => absurd hc (by decide)) (fun _ => ?_)))
          rw [hR1.2.1.2.1]
          refine hP _ _ _ _ _ _ (kdN (c := 42) (by omega) (fun _ => ?_) (fun z => absurd z hk))
          repeat (first | (refine hP _ _ _ _ _ _ ?_; show P _ _ _ _ _ _) | (refine hP _ _ _ _ _ _ (And.intro (hN _ _ _ rfl) ?_); show P _ _ (aR _ _ :: _) _ _ _) | refine hP _ _ _ _ _ _ (And.intro (fun _ => ?_) (fun hc => absurd hc (by decide))) | refine hP _ _ _ _ _ _ (And.intro (fun hc => absurd hc (by decide)) (fun _ => ?_)))
          refine hP _ _ _ _ _ _ (And.intro (Or.inr rfl) ok)
  have hPI := P7_in T n 6 q o [] (by simp [okL]) hq
  have hE : P7 T (n + 1) 5 q o [] = (bif (P7 T n 6 q o []).1 then P7 T n 15 (P7 T n 6 q o []).2.2 o (P7 T n 6 q o []).2.1 else P7 T n 6 q o []) := rfl
  repeat (first | (refine hP _ _ _ _ _ _ ?_; show P _ _ _ _ _ _) | (refine hP _ _ _ _ _ _ (And.intro (hN _ _ _ rfl) ?_); show P _ _ (aR _ _ :: _) _ _ _) | refine hP _ _ _ _ _ _ (And.intro (fun _ => ?_) (fun hc => absurd hc (by decide))) | refine hP _ _ _ _ _ _ (And.intro (fun hc => absurd hc (by decide)) (fun _ => ?_)))
  refine hP _ _ _ _ _ _ (ih n (Nat.le_refl _) 6 q o (by simp [okL]) (by omega) (by omega) hq ho e S _ cc (by omega) hN hR hl (fun S3 g3 e3 hR3 => ?_) (fun S3 g3 e3 b3 => ?_))
  · have hN := hN.up g3
    have a2 := hPI.2 e3
    have a3 := a2.2.2 (by omega)
    have hle3 := bg_le hR3.2.2.1
    simp only [show ¬ 10 ≤ 6 by omega, if_false] at a2
    repeat (first | (refine hP _ _ _ _ _ _ ?_; show P _ _ _ _ _ _) | (refine hP _ _ _ _ _ _ (And.intro (hN _ _ _ rfl) ?_); show P _ _ (aR _ _ :: _) _ _ _))
    exact loop n (Nat.le_refl _) _ _ 0 S3 (by omega) (by rw [hE, e3]; rfl) g3 hR3 (by rw [List.length_append]; omega) (Nat.zero_le _)
  · have hN := hN.up g3
    repeat (first | (refine hP _ _ _ _ _ _ ?_; show P _ _ _ _ _ _) | (refine hP _ _ _ _ _ _ (And.intro (hN _ _ _ rfl) ?_); show P _ _ (aR _ _ :: _) _ _ _))
    exact out0 S3 0 g3 (by rw [hE, e3]; exact e3) (by rw [hE, e3]; exact b3)
theorem c_sum {T : Tx} {n q o : Nat} (ih : ∀ m, m ≤ n → CP T m) (hm : 20 * (T.1 - bg T q) + rk 4 < n + 1) (hq : q ≤ T.1) (ho : o ≤ 5) : CP1 T (n + 1) 4 q o := by
  intro d S K cc hd hN hR hl h1 h0
  have hrk : rk 4 = 6 := rfl
  have hrk1 : rk 5 = 5 := rfl
  have hdp : dp 4 = 6 := rfl
  have hdp1 : dp 5 = 5 := rfl
  have h160 := hR.1.2.1
  show Call d m_X1_sum [aR 7 0] S K
  refine Call.of (k := 10 * (5 - o) + 5) (by omega) (fun e he P hP => ?_)
  have out0 : ∀ S1 t x3, Ag wRd S S1 → (P7 T (n + 1) 4 q o []).1 = false → S1.1 7 0 8 = nI (bg T (P7 T (n + 1) 4 q o []).2.2) → P 11 [some (aR 7 0), some (aI 0), some (aI (nI t)), x3] [aI 160, aI (nI t)] S1 0 0 := by
    intro S1 t x3 g1 e1 e2
    refine hP _ _ _ _ _ _ (And.intro (fun hc => ?_) (fun hc => ?_))
    · repeat (first | (refine hP _ _ _ _ _ _ ?_; show P _ _ _ _ _ _) | (refine hP _ _ _ _ _ _ (And.intro (hN _ _ _ rfl) ?_); show P _ _ (aR _ _ :: _) _ _ _) | refine hP _ _ _ _ _ _ (And.intro (fun _ => ?_) (fun hc => absurd hc (by decide))) | refine hP _ _ _ _ _ _ (And.intro (fun hc => absurd hc (by decide)) (fun _ => ?_)))
      refine hP _ _ _ _ _ _ (And.intro (Or.inl rfl) (h0 S1 g1 e1 e2))
    · repeat (first | (refine hP _ _ _ _ _ _ ?_; show P _ _ _ _ _ _) | (refine hP _ _ _ _ _ _ (And.intro (hN _ _ _ rfl) ?_); show P _ _ (aR _ _ :: _) _ _ _) | refine hP _ _ _ _ _ _ (And.intro (fun _ => ?_) (fun hc => absurd hc (by decide))) | refine hP _ _ _ _ _ _ (And.intro (fun hc => absurd hc (by decide)) (fun _ => ?_)))
      refine hP _ _ _ _ _ _ (And.intro (Or.inl rfl) (h0 S1 g1 e1 e2))
  have loop : ∀ m, m ≤ n → ∀ q1 c1 t S1 x3, 20 * (T.1 - bg T q1) + 3 < m → P7 T (n + 1) 4 q o [] = P7 T m 14 q1 o c1 → Ag wRd S S1 → RD S1 T q1 (cc ++ c1) o → (cc ++ c1).length ≤ bg T q1 → t ≤ bg T q1 → P 11 [some (aR 7 0), some (aI 1), some (aI (nI t)), x3] [aI 160, aI (nI t)] S1 0 0 := by
    intro m
    induction m with
    | zero => intro _ q1 c1 t S1 x3 hz; omega
    | succ m ihm =>
      intro hmn q1 c1 t S1 x3 hf hE g1 hR1 hl1 ht
      have hN1 := hN.up g1
      have hN := hN1
      by_cases hk : (kd T q1 = 43 ∨ kd T q1 = 45)
      · have hb := kd_lt (T := T) (q := q1) (by omega)
        have hb2 := nx_bg (T := T) (q := q1) (by omega)
        have hE2 : P7 T (n + 1) 4 q o [] = (bif (P7 T m 5 (nx T q1) o []).1 then P7 T m 14 (P7 T m 5 (nx T q1) o []).2.2 o (c1 ++ (P7 T m 5 (nx T q1) o []).2.1 ++ [(if kd T q1 = 43 then 10012 else 10013)]) else P7 T m 5 (nx T q1) o []) := hE.trans (if_pos hk)
        have hPI := P7_in T m 5 (nx T q1) o [] (by simp [okL]) (nx_le hR1.2.2.1)
        refine hP _ _ _ _ _ _ (And.intro (fun hc => absurd hc (nI_ge (b := 160) (a := t) (by omega) (by decide))) (fun _ => ?_))
        repeat (first | (refine hP _ _ _ _ _ _ ?_; show P _ _ _ _ _ _) | (refine hP _ _ _ _ _ _ (And.intro (hN _ _ _ rfl) ?_); show P _ _ (aR _ _ :: _) _ _ _) | refine hP _ _ _ _ _ _ (And.intro (fun _ => ?_) (fun hc => absurd hc (by decide))) | refine hP _ _ _ _ _ _ (And.intro (fun hc => absurd hc (by decide)) (fun _ => ?_)))
        rw [hR1.2.1.2.1]
        have go : P 36 [some (aR 7 0), some (aI 1), some (aI (nI t)), x3] [] S1 0 0 := by
          repeat (first | (refine hP _ _ _ _ _ _ ?_; show P _ _ _ _ _ _) | (refine hP _ _ _ _ _ _ (And.intro (hN _ _ _ rfl) ?_); show P _ _ (aR _ _ :: _) _ _ _) | refine hP _ _ _ _ _ _ (And.intro (fun _ => ?_) (fun hc => absurd hc (by decide))) | refine hP _ _ _ _ _ _ (And.intro (fun hc => absurd hc (by decide)) (fun _ => ?_)))
          rw [hR1.2.1.2.1]
          refine hP _ _ _ _ _ _ (r_next (by omega) hN1 hR1 (fun S2 g2 hR2 => ?_))
          have hN := hN1.up g2
          repeat (first | (refine hP _ _ _ _ _ _ ?_; show P _ _ _ _ _ _) | (refine hP _ _ _ _ _ _ (And.intro (hN _ _ _ rfl) ?_); show P _ _ (aR _ _ :: _) _ _ _) | refine hP _ _ _ _ _ _ (And.intro (fun _ => ?_) (fun hc => absurd hc (by decide))) | refine hP _ _ _ _ _ _ (And.intro (fun hc => absurd hc (by decide)) (fun _ => ?_)))
          refine hP _ _ _ _ _ _ (ih m (by omega) 5 (nx T q1) o (by simp [okL]) (by omega) (by omega) (nx_le hR1.2.2.1) ho e S2 _ (cc ++ c1) (by omega) hN hR2 (by omega) (fun S3 g3 e3 hR3 => ?_) (fun S3 g3 e3 b3 => ?_))
          · have hN3 := hN.up g3
            have hN := hN3
            have a2 := hPI.2 e3
            have a3 := a2.2.2 (by omega)
            simp only [show ¬ 10 ≤ 5 by omega, if_false] at a2
            have hle3 := bg_le hR3.2.2.1
            have hlen : (cc ++ c1 ++ (P7 T m 5 (nx T q1) o []).2.1).length + 1 ≤ bg T (P7 T m 5 (nx T q1) o []).2.2 := by
              rw [List.length_append]
              omega
            have put : P 68 [some (aR 7 0), some (aI 1), some (aI (nI t)), some (aI (nI (kd T q1)))] [aI (nI (if kd T q1 = 43 then 10012 else 10013)), aR 7 0] S3 0 0 := by
              refine hP _ _ _ _ _ _ (r_put (x := (if kd T q1 = 43 then 10012 else 10013)) (by omega) hN3 hR3 (by omega) (fun S4 g4 hR4 => ?_))
              have hN4 := hN3.up g4
              have hN := hN4
              repeat (first | (refine hP _ _ _ _ _ _ ?_; show P _ _ _ _ _ _) | (refine hP _ _ _ _ _ _ (And.intro (hN _ _ _ rfl) ?_); show P _ _ (aR _ _ :: _) _ _ _) | refine hP _ _ _ _ _ _ (And.intro (fun _ => ?_) (fun hc => absurd hc (by decide))) | refine hP _ _ _ _ _ _ (And.intro (fun hc => absurd hc (by decide)) (fun _ => ?_)))
              have ihm := ihm (by omega) (P7 T m 5 (nx T q1) o []).2.2 (c1 ++ (P7 T m 5 (nx T q1) o []).2.1 ++ [(if kd T q1 = 43 then 10012 else 10013)]) (t + 1) S4 (some (aI (nI (kd T q1)))) (by omega) (by rw [hE2, e3]; rfl) (g1.tr (g2.tr (g3.tr g4))) (by rw [← List.append_assoc, ← List.append_assoc]; exact hR4) (by rw [← List.append_assoc, ← List.append_assoc, List.length_append, List.length_singleton]; exact hlen) (by omega)
              rw [nI_succ] at ihm
              exact ihm
            repeat (first | (refine hP _ _ _ _ _ _ ?_; show P _ _ _ _ _ _) | (refine hP _ _ _ _ _ _ (And.intro (hN _ _ _ rfl) ?_); show P _ _ (aR _ _ :: _) _ _ _) | refine hP _ _ _ _ _ _ (And.intro (fun _ => ?_) (fun hc => absurd hc (by decide))) | refine hP _ _ _ _ _ _ (And.intro (fun hc => absurd hc (by decide)) (fun _ => ?_)))
            refine hP _ _ _ _ _ _ (kdN (c := 43) (by omega) (fun z => ?_) (fun z => ?_))
            · rw [if_neg z] at put
              repeat (first | (refine hP _ _ _ _ _ _ ?_; show P _ _ _ _ _ _) | (refine hP _ _ _ _ _ _ (And.intro (hN _ _ _ rfl) ?_); show P _ _ (aR _ _ :: _) _ _ _) | refine hP _ _ _ _ _ _ (And.intro (fun _ => ?_) (fun hc => absurd hc (by decide))) | refine hP _ _ _ _ _ _ (And.intro (fun hc => absurd hc (by decide)) (fun _ => ?_)))
              exact put
            · rw [if_pos z] at put
              repeat (first | (refine hP _ _ _ _ _ _ ?_; show P _ _ _ _ _ _) | (refine hP _ _ _ _ _ _ (And.intro (hN _ _ _ rfl) ?_); show P _ _ (aR _ _ :: _) _ _ _) | refine hP _ _ _ _ _ _ (And.intro (fun _ => ?_) (fun hc => absurd hc (by decide))) | refine hP _ _ _ _ _ _ (And.intro (fun hc => absurd hc (by decide)) (fun _ => ?_)))
              exact put
          · have hN := hN.up g3
            repeat (first | (refine hP _ _ _ _ _ _ ?_; show P _ _ _ _ _ _) | (refine hP _ _ _ _ _ _ (And.intro (hN _ _ _ rfl) ?_); show P _ _ (aR _ _ :: _) _ _ _) | refine hP _ _ _ _ _ _ (And.intro (fun _ => ?_) (fun hc => absurd hc (by decide))) | refine hP _ _ _ _ _ _ (And.intro (fun hc => absurd hc (by decide)) (fun _ => ?_)))
            have := out0 S3 (t + 1) (some (aI (nI (kd T q1)))) (g1.tr (g2.tr g3)) (by rw [hE2, e3]; exact e3) (by rw [hE2, e3]; exact b3)
            rw [nI_succ] at this
            exact this
        refine hP _ _ _ _ _ _ (kdI (c := 43) (by omega) (fun _ => ?_) (fun hk1 => ?_))
        · exact go
        · have hk2 : kd T q1 = 45 := by omega
          repeat (first | (refine hP _ _ _ _ _ _ ?_; show P _ _ _ _ _ _) | (refine hP _ _ _ _ _ _ (And.intro (hN _ _ _ rfl) ?_); show P _ _ (aR _ _ :: _) _ _ _) | refine hP _ _ _ _ _ _ (And.intro (fun _ => ?_) (fun hc => absurd hc (by decide))) | refine hP _ _ _ _ _ _ (And.intro (fun hc => absurd hc (by decide)) (fun _ => ?_)))
          rw [hR1.2.1.2.1]
          refine hP _ _ _ _ _ _ (kdN (c := 45) (by omega) (fun z => absurd hk2 z) (fun _ => ?_))
          exact go
      · have hE2 : P7 T (n + 1) 4 q o [] = (true, c1, q1) := hE.trans (if_neg hk)
        have ok := h1 S1 g1 (by rw [hE2]) (by rw [hE2]; exact hR1)
        refine hP _ _ _ _ _ _ (And.intro (fun hc => ?_) (fun hc => ?_))
        · repeat (first | (refine hP _ _ _ _ _ _ ?_; show P _ _ _ _ _ _) | (refine hP _ _ _ _ _ _ (And.intro (hN _ _ _ rfl) ?_); show P _ _ (aR _ _ :: _) _ _ _) | refine hP _ _ _ _ _ _ (And.intro (fun _ => ?_) (fun hc => absurd hc (by decide))) | refine hP _ _ _ _ _ _ (And.intro (fun hc => absurd hc (by decide)) (fun _ => ?_)))
          refine hP _ _ _ _ _ _ (And.intro (Or.inr rfl) ok)
        · repeat (first | (refine hP _ _ _ _ _ _ ?_; show P _ _ _ _ _ _) | (refine hP _ _ _ _ _ _ (And.intro (hN _ _ _ rfl) ?_); show P _ _ (aR _ _ :: _) _ _ _) | refine hP _ _ _ _ _ _ (And.intro (fun _ => ?_) (fun hc => absurd hc (by decide))) | refine hP _ _ _ _ _ _ (And.intro (fun hc => absurd hc (by decide)) (fun _ => ?_)))
          rw [hR1.2.1.2.1]
          refine hP _ _ _ _ _ _ (kdI (c := 43) (by omega) (fun z => absurd (Or.inl z) hk) (fun _ => ?_))
          repeat (first | (refine hP _ _ _ _ _ _ ?_; show P _ _ _ _ _ _) | (refine hP _ _ _ _ _ _ (And.intro (hN _ _ _ rfl) ?_); show P _ _ (aR _ _ :: _) _ _ _) | refine hP _ _ _ _ _ _ (And.intro (fun _ => ?_) (fun hc => absurd hc (by decide))) | refine hP _ _ _ _ _ _ (And.intro (fun hc => absurd hc (by decide)) (fun _ => ?_)))
          rw [hR1.2.1.2.1]
          refine hP _ _ _ _ _ _ (kdN (c := 45) (by omega) (fun _ => ?_) (fun z => absurd (Or.inr z) hk))
          repeat (first | (refine hP _ _ _ _ _ _ ?_; show P _ _ _ _ _ _) | (refine hP _ _ _ _ _ _ (And.intro (hN _ _ _ rfl) ?_); show P _ _ (aR _ _ :: _) _ _ _) | refine hP _ _ _ _ _ _ (And.intro (fun _ => ?_) (fun hc => absurd hc (by decide))) | refine hP _ _ _ _ _ _ (And.intro (fun hc => absurd hc (by decide)) (fun _ => ?_)))
          refine hP _ _ _ _ _ _ (And.intro (Or.inr rfl) ok)
  have hPI := P7_in T n 5 q o [] (by simp [okL]) hq
  have hE : P7 T (n + 1) 4 q o [] = (bif (P7 T n 5 q o []).1 then P7 T n 14 (P7 T n 5 q o []).2.2 o (P7 T n 5 q o []).2.1 else P7 T n 5 q o []) := rfl
  repeat (first | (refine hP _ _ _ _ _ _ ?_; show P _ _ _ _ _ _) | (refine hP _ _ _ _ _ _ (And.intro (hN _ _ _ rfl) ?_); show P _ _ (aR _ _ :: _) _ _ _) | refine hP _ _ _ _ _ _ (And.intro (fun _ => ?_) (fun hc => absurd hc (by decide))) | refine hP _ _ _ _ _ _ (And.intro (fun hc => absurd hc (by decide)) (fun _ => ?_)))
  refine hP _ _ _ _ _ _ (ih n (Nat.le_refl _) 5 q o (by simp [okL]) (by omega) (by omega) hq ho e S _ cc (by omega) hN hR hl (fun S3 g3 e3 hR3 => ?_) (fun S3 g3 e3 b3 => ?_))
  · have hN := hN.up g3
    have a2 := hPI.2 e3
    have a3 := a2.2.2 (by omega)
    have hle3 := bg_le hR3.2.2.1
    simp only [show ¬ 10 ≤ 5 by omega, if_false] at a2
    repeat (first | (refine hP _ _ _ _ _ _ ?_; show P _ _ _ _ _ _) | (refine hP _ _ _ _ _ _ (And.intro (hN _ _ _ rfl) ?_); show P _ _ (aR _ _ :: _) _ _ _))
    exact loop n (Nat.le_refl _) _ _ 0 S3 _ (by omega) (by rw [hE, e3]; rfl) g3 hR3 (by rw [List.length_append]; omega) (Nat.zero_le _)
  · have hN := hN.up g3
    repeat (first | (refine hP _ _ _ _ _ _ ?_; show P _ _ _ _ _ _) | (refine hP _ _ _ _ _ _ (And.intro (hN _ _ _ rfl) ?_); show P _ _ (aR _ _ :: _) _ _ _))
    exact out0 S3 0 _ g3 (by rw [hE, e3]; exact e3) (by rw [hE, e3]; exact b3)
