/-! The class's reader: words, the next token -/
theorem strG_1 : strG 1 = ([112, 97, 121, 115] : List Nat).map nI := by decide +kernel
theorem strG_2 : strG 2 = ([119, 105, 108, 108, 115] : List Nat).map nI := by decide +kernel
theorem strG_3 : strG 3 = ([98, 114, 101, 97, 116, 104] : List Nat).map nI := by decide +kernel
theorem strG_4 : strG 4 = ([111, 114] : List Nat).map nI := by decide +kernel
theorem strG_5 : strG 5 = ([97, 110, 100] : List Nat).map nI := by decide +kernel
theorem strG_6 : strG 6 = ([110, 111, 116] : List Nat).map nI := by decide +kernel
theorem strG_7 : strG 7 = ([100, 101, 98, 116] : List Nat).map nI := by decide +kernel
theorem strG_8 : strG 8 = ([111, 119, 101, 100] : List Nat).map nI := by decide +kernel
theorem strG_9 : strG 9 = ([110, 117, 109, 98, 101, 114] : List Nat).map nI := by decide +kernel
theorem strG_10 : strG 10 = ([114, 111, 117, 110, 100] : List Nat).map nI := by decide +kernel
theorem strG_11 : strG 11 = ([100, 111, 110, 101] : List Nat).map nI := by decide +kernel
theorem strG_12 : strG 12 = ([110, 105, 103, 104, 116] : List Nat).map nI := by decide +kernel
theorem q_nextWord {d s : Nat} {S : St} {K : KT} {T : Tx} (hd : 2 ≤ d) (hN : NN S) (hT : TP S T) (hs : s ≤ T.1) (h5 : S.1 7 0 5 = nI s) (h8 : S.1 7 0 8 = nI s) (h : ∀ S', Ag wLx S S' → S'.1 7 0 5 = nI (lf isLt T s) → S'.1 7 0 6 = nI (kwK T s (lf isLt T s - s) kwL) → S'.1 7 0 8 = nI s → K none S') : Call d m_X1_nextWord [aR 7 0] S K := by
  refine Call.of (k := 1) hd (fun e he P hP => ?_)
  have h160 := hT.2.1
  have hle := lf_le isLt T hs
  have hge := lf_ge isLt T s
  have stop : ∀ S1, Ag wLx S S1 → S1.1 7 0 5 = nI (lf isLt T s) → S1.1 7 0 8 = nI s → P 39 [some (aR 7 0)] [] S1 0 0 := by
    intro S1 g1 a5 a8
    have hN := hN.up g1
    have hT := hT.lx g1
    have fin : ∀ v, kwK T s (lf isLt T s - s) kwL = v → P 224 [some (aR 7 0)] [] (ivSet S1 7 0 6 (nI v)) 0 0 := by
      intro v hv
      rw [← hv]
      exact hP _ _ _ _ _ _ (h _ (g1.tr (Ag.lx (by omega) (by omega))) (by rw [iv_ne (by omega)]; exact a5) iv_at (by rw [iv_ne (by omega)]; exact a8))
    simp only [kwL, kwK] at fin
    repeat (first | (refine hP _ _ _ _ _ _ ?_; show P _ _ _ _ _ _) | (refine hP _ _ _ _ _ _ (And.intro (hN _ _ _ rfl) ?_); show P _ _ (aR _ _ :: _) _ _ _))
    refine hP _ _ _ _ _ _ (q_spells (by omega) hN hT strG_1 (by decide) (by decide) hge hle a5 a8 ?_)
    repeat (first | (refine hP _ _ _ _ _ _ ?_; show P _ _ _ _ _ _) | (refine hP _ _ _ _ _ _ (And.intro (hN _ _ _ rfl) ?_); show P _ _ (aR _ _ :: _) _ _ _))
    refine hP _ _ _ _ _ _ (And.intro (fun hc0 => ?_) (fun hc0 => ?_))
    rotate_left
    · have hy := b2_1 hc0
      repeat (first | (refine hP _ _ _ _ _ _ ?_; show P _ _ _ _ _ _) | (refine hP _ _ _ _ _ _ (And.intro (hN _ _ _ rfl) ?_); show P _ _ (aR _ _ :: _) _ _ _))
      exact fin 200 (by simp only [hy, if_true, Bool.false_eq_true, if_false])
    have hn0 := b2_0 hc0
    repeat (first | (refine hP _ _ _ _ _ _ ?_; show P _ _ _ _ _ _) | (refine hP _ _ _ _ _ _ (And.intro (hN _ _ _ rfl) ?_); show P _ _ (aR _ _ :: _) _ _ _))
    refine hP _ _ _ _ _ _ (q_spells (by omega) hN hT strG_2 (by decide) (by decide) hge hle a5 a8 ?_)
    repeat (first | (refine hP _ _ _ _ _ _ ?_; show P _ _ _ _ _ _) | (refine hP _ _ _ _ _ _ (And.intro (hN _ _ _ rfl) ?_); show P _ _ (aR _ _ :: _) _ _ _))
    refine hP _ _ _ _ _ _ (And.intro (fun hc1 => ?_) (fun hc1 => ?_))
    rotate_left
    · have hy := b2_1 hc1
      repeat (first | (refine hP _ _ _ _ _ _ ?_; show P _ _ _ _ _ _) | (refine hP _ _ _ _ _ _ (And.intro (hN _ _ _ rfl) ?_); show P _ _ (aR _ _ :: _) _ _ _))
      exact fin 201 (by simp only [hn0, hy, if_true, Bool.false_eq_true, if_false])
    have hn1 := b2_0 hc1
    repeat (first | (refine hP _ _ _ _ _ _ ?_; show P _ _ _ _ _ _) | (refine hP _ _ _ _ _ _ (And.intro (hN _ _ _ rfl) ?_); show P _ _ (aR _ _ :: _) _ _ _))
    refine hP _ _ _ _ _ _ (q_spells (by omega) hN hT strG_3 (by decide) (by decide) hge hle a5 a8 ?_)
    repeat (first | (refine hP _ _ _ _ _ _ ?_; show P _ _ _ _ _ _) | (refine hP _ _ _ _ _ _ (And.intro (hN _ _ _ rfl) ?_); show P _ _ (aR _ _ :: _) _ _ _))
    refine hP _ _ _ _ _ _ (And.intro (fun hc2 => ?_) (fun hc2 => ?_))
    rotate_left
    · have hy := b2_1 hc2
      repeat (first | (refine hP _ _ _ _ _ _ ?_; show P _ _ _ _ _ _) | (refine hP _ _ _ _ _ _ (And.intro (hN _ _ _ rfl) ?_); show P _ _ (aR _ _ :: _) _ _ _))
      exact fin 202 (by simp only [hn0, hn1, hy, if_true, Bool.false_eq_true, if_false])
    have hn2 := b2_0 hc2
    repeat (first | (refine hP _ _ _ _ _ _ ?_; show P _ _ _ _ _ _) | (refine hP _ _ _ _ _ _ (And.intro (hN _ _ _ rfl) ?_); show P _ _ (aR _ _ :: _) _ _ _))
    refine hP _ _ _ _ _ _ (q_spells (by omega) hN hT strG_4 (by decide) (by decide) hge hle a5 a8 ?_)
    repeat (first | (refine hP _ _ _ _ _ _ ?_; show P _ _ _ _ _ _) | (refine hP _ _ _ _ _ _ (And.intro (hN _ _ _ rfl) ?_); show P _ _ (aR _ _ :: _) _ _ _))
    refine hP _ _ _ _ _ _ (And.intro (fun hc3 => ?_) (fun hc3 => ?_))
    rotate_left
    · have hy := b2_1 hc3
      repeat (first | (refine hP _ _ _ _ _ _ ?_; show P _ _ _ _ _ _) | (refine hP _ _ _ _ _ _ (And.intro (hN _ _ _ rfl) ?_); show P _ _ (aR _ _ :: _) _ _ _))
      exact fin 203 (by simp only [hn0, hn1, hn2, hy, if_true, Bool.false_eq_true, if_false])
    have hn3 := b2_0 hc3
    repeat (first | (refine hP _ _ _ _ _ _ ?_; show P _ _ _ _ _ _) | (refine hP _ _ _ _ _ _ (And.intro (hN _ _ _ rfl) ?_); show P _ _ (aR _ _ :: _) _ _ _))
    refine hP _ _ _ _ _ _ (q_spells (by omega) hN hT strG_5 (by decide) (by decide) hge hle a5 a8 ?_)
    repeat (first | (refine hP _ _ _ _ _ _ ?_; show P _ _ _ _ _ _) | (refine hP _ _ _ _ _ _ (And.intro (hN _ _ _ rfl) ?_); show P _ _ (aR _ _ :: _) _ _ _))
    refine hP _ _ _ _ _ _ (And.intro (fun hc4 => ?_) (fun hc4 => ?_))
    rotate_left
    · have hy := b2_1 hc4
      repeat (first | (refine hP _ _ _ _ _ _ ?_; show P _ _ _ _ _ _) | (refine hP _ _ _ _ _ _ (And.intro (hN _ _ _ rfl) ?_); show P _ _ (aR _ _ :: _) _ _ _))
      exact fin 204 (by simp only [hn0, hn1, hn2, hn3, hy, if_true, Bool.false_eq_true, if_false])
    have hn4 := b2_0 hc4
    repeat (first | (refine hP _ _ _ _ _ _ ?_; show P _ _ _ _ _ _) | (refine hP _ _ _ _ _ _ (And.intro (hN _ _ _ rfl) ?_); show P _ _ (aR _ _ :: _) _ _ _))
    refine hP _ _ _ _ _ _ (q_spells (by omega) hN hT strG_6 (by decide) (by decide) hge hle a5 a8 ?_)
    repeat (first | (refine hP _ _ _ _ _ _ ?_; show P _ _ _ _ _ _) | (refine hP _ _ _ _ _ _ (And.intro (hN _ _ _ rfl) ?_); show P _ _ (aR _ _ :: _) _ _ _))
    refine hP _ _ _ _ _ _ (And.intro (fun hc5 => ?_) (fun hc5 => ?_))
    rotate_left
    · have hy := b2_1 hc5
      repeat (first | (refine hP _ _ _ _ _ _ ?_; show P _ _ _ _ _ _) | (refine hP _ _ _ _ _ _ (And.intro (hN _ _ _ rfl) ?_); show P _ _ (aR _ _ :: _) _ _ _))
      exact fin 205 (by simp only [hn0, hn1, hn2, hn3, hn4, hy, if_true, Bool.false_eq_true, if_false])
    have hn5 := b2_0 hc5
    repeat (first | (refine hP _ _ _ _ _ _ ?_; show P _ _ _ _ _ _) | (refine hP _ _ _ _ _ _ (And.intro (hN _ _ _ rfl) ?_); show P _ _ (aR _ _ :: _) _ _ _))
    refine hP _ _ _ _ _ _ (q_spells (by omega) hN hT strG_7 (by decide) (by decide) hge hle a5 a8 ?_)
    repeat (first | (refine hP _ _ _ _ _ _ ?_; show P _ _ _ _ _ _) | (refine hP _ _ _ _ _ _ (And.intro (hN _ _ _ rfl) ?_); show P _ _ (aR _ _ :: _) _ _ _))
    refine hP _ _ _ _ _ _ (And.intro (fun hc6 => ?_) (fun hc6 => ?_))
    rotate_left
    · have hy := b2_1 hc6
      repeat (first | (refine hP _ _ _ _ _ _ ?_; show P _ _ _ _ _ _) | (refine hP _ _ _ _ _ _ (And.intro (hN _ _ _ rfl) ?_); show P _ _ (aR _ _ :: _) _ _ _))
      exact fin 10000 (by simp only [hn0, hn1, hn2, hn3, hn4, hn5, hy, if_true, Bool.false_eq_true, if_false])
    have hn6 := b2_0 hc6
    repeat (first | (refine hP _ _ _ _ _ _ ?_; show P _ _ _ _ _ _) | (refine hP _ _ _ _ _ _ (And.intro (hN _ _ _ rfl) ?_); show P _ _ (aR _ _ :: _) _ _ _))
    refine hP _ _ _ _ _ _ (q_spells (by omega) hN hT strG_8 (by decide) (by decide) hge hle a5 a8 ?_)
    repeat (first | (refine hP _ _ _ _ _ _ ?_; show P _ _ _ _ _ _) | (refine hP _ _ _ _ _ _ (And.intro (hN _ _ _ rfl) ?_); show P _ _ (aR _ _ :: _) _ _ _))
    refine hP _ _ _ _ _ _ (And.intro (fun hc7 => ?_) (fun hc7 => ?_))
    rotate_left
    · have hy := b2_1 hc7
      repeat (first | (refine hP _ _ _ _ _ _ ?_; show P _ _ _ _ _ _) | (refine hP _ _ _ _ _ _ (And.intro (hN _ _ _ rfl) ?_); show P _ _ (aR _ _ :: _) _ _ _))
      exact fin 10001 (by simp only [hn0, hn1, hn2, hn3, hn4, hn5, hn6, hy, if_true, Bool.false_eq_true, if_false])
    have hn7 := b2_0 hc7
    repeat (first | (refine hP _ _ _ _ _ _ ?_; show P _ _ _ _ _ _) | (refine hP _ _ _ _ _ _ (And.intro (hN _ _ _ rfl) ?_); show P _ _ (aR _ _ :: _) _ _ _))
    refine hP _ _ _ _ _ _ (q_spells (by omega) hN hT strG_9 (by decide) (by decide) hge hle a5 a8 ?_)
    repeat (first | (refine hP _ _ _ _ _ _ ?_; show P _ _ _ _ _ _) | (refine hP _ _ _ _ _ _ (And.intro (hN _ _ _ rfl) ?_); show P _ _ (aR _ _ :: _) _ _ _))
    refine hP _ _ _ _ _ _ (And.intro (fun hc8 => ?_) (fun hc8 => ?_))
    rotate_left
    · have hy := b2_1 hc8
      repeat (first | (refine hP _ _ _ _ _ _ ?_; show P _ _ _ _ _ _) | (refine hP _ _ _ _ _ _ (And.intro (hN _ _ _ rfl) ?_); show P _ _ (aR _ _ :: _) _ _ _))
      exact fin 10002 (by simp only [hn0, hn1, hn2, hn3, hn4, hn5, hn6, hn7, hy, if_true, Bool.false_eq_true, if_false])
    have hn8 := b2_0 hc8
    repeat (first | (refine hP _ _ _ _ _ _ ?_; show P _ _ _ _ _ _) | (refine hP _ _ _ _ _ _ (And.intro (hN _ _ _ rfl) ?_); show P _ _ (aR _ _ :: _) _ _ _))
    refine hP _ _ _ _ _ _ (q_spells (by omega) hN hT strG_10 (by decide) (by decide) hge hle a5 a8 ?_)
    repeat (first | (refine hP _ _ _ _ _ _ ?_; show P _ _ _ _ _ _) | (refine hP _ _ _ _ _ _ (And.intro (hN _ _ _ rfl) ?_); show P _ _ (aR _ _ :: _) _ _ _))
    refine hP _ _ _ _ _ _ (And.intro (fun hc9 => ?_) (fun hc9 => ?_))
    rotate_left
    · have hy := b2_1 hc9
      repeat (first | (refine hP _ _ _ _ _ _ ?_; show P _ _ _ _ _ _) | (refine hP _ _ _ _ _ _ (And.intro (hN _ _ _ rfl) ?_); show P _ _ (aR _ _ :: _) _ _ _))
      exact fin 10003 (by simp only [hn0, hn1, hn2, hn3, hn4, hn5, hn6, hn7, hn8, hy, if_true, Bool.false_eq_true, if_false])
    have hn9 := b2_0 hc9
    repeat (first | (refine hP _ _ _ _ _ _ ?_; show P _ _ _ _ _ _) | (refine hP _ _ _ _ _ _ (And.intro (hN _ _ _ rfl) ?_); show P _ _ (aR _ _ :: _) _ _ _))
    refine hP _ _ _ _ _ _ (q_spells (by omega) hN hT strG_11 (by decide) (by decide) hge hle a5 a8 ?_)
    repeat (first | (refine hP _ _ _ _ _ _ ?_; show P _ _ _ _ _ _) | (refine hP _ _ _ _ _ _ (And.intro (hN _ _ _ rfl) ?_); show P _ _ (aR _ _ :: _) _ _ _))
    refine hP _ _ _ _ _ _ (And.intro (fun hc10 => ?_) (fun hc10 => ?_))
    rotate_left
    · have hy := b2_1 hc10
      repeat (first | (refine hP _ _ _ _ _ _ ?_; show P _ _ _ _ _ _) | (refine hP _ _ _ _ _ _ (And.intro (hN _ _ _ rfl) ?_); show P _ _ (aR _ _ :: _) _ _ _))
      exact fin 10004 (by simp only [hn0, hn1, hn2, hn3, hn4, hn5, hn6, hn7, hn8, hn9, hy, if_true, Bool.false_eq_true, if_false])
    have hn10 := b2_0 hc10
    repeat (first | (refine hP _ _ _ _ _ _ ?_; show P _ _ _ _ _ _) | (refine hP _ _ _ _ _ _ (And.intro (hN _ _ _ rfl) ?_); show P _ _ (aR _ _ :: _) _ _ _))
    refine hP _ _ _ _ _ _ (q_spells (by omega) hN hT strG_12 (by decide) (by decide) hge hle a5 a8 ?_)
    repeat (first | (refine hP _ _ _ _ _ _ ?_; show P _ _ _ _ _ _) | (refine hP _ _ _ _ _ _ (And.intro (hN _ _ _ rfl) ?_); show P _ _ (aR _ _ :: _) _ _ _))
    refine hP _ _ _ _ _ _ (And.intro (fun hc11 => ?_) (fun hc11 => ?_))
    rotate_left
    · have hy := b2_1 hc11
      repeat (first | (refine hP _ _ _ _ _ _ ?_; show P _ _ _ _ _ _) | (refine hP _ _ _ _ _ _ (And.intro (hN _ _ _ rfl) ?_); show P _ _ (aR _ _ :: _) _ _ _))
      exact fin 10005 (by simp only [hn0, hn1, hn2, hn3, hn4, hn5, hn6, hn7, hn8, hn9, hn10, hy, if_true, Bool.false_eq_true, if_false])
    have hn11 := b2_0 hc11
    repeat (first | (refine hP _ _ _ _ _ _ ?_; show P _ _ _ _ _ _) | (refine hP _ _ _ _ _ _ (And.intro (hN _ _ _ rfl) ?_); show P _ _ (aR _ _ :: _) _ _ _))
    exact fin 1 (by simp only [hn0, hn1, hn2, hn3, hn4, hn5, hn6, hn7, hn8, hn9, hn10, hn11, Bool.false_eq_true, if_false])
  have loop : ∀ p, p ≤ lf isLt T s → (s ≤ p → ∀ S1, Ag wLx S S1 → S1.1 7 0 5 = nI p → S1.1 7 0 8 = nI s → P 8 [some (aR 7 0)] [aI (S1.1 7 0 1), aI (S1.1 7 0 5)] S1 0 0) := by
    refine dn ?_ ?_
    · intro _ S1 g1 a5 a8
      have hN := hN.up g1
      obtain ⟨t1, t2, t3⟩ := hT.lx g1
      rw [t1, a5]
      refine hP _ _ _ _ _ _ (geI (by omega) (by omega) (fun hc => ?_) (fun hc => ?_))
      · exact stop S1 g1 a5 a8
      · have hlt : lf isLt T s < T.1 := by omega
        have hno := lf_no hlt
        repeat (first | (refine hP _ _ _ _ _ _ ?_; show P _ _ _ _ _ _) | (refine hP _ _ _ _ _ _ (And.intro (hN _ _ _ rfl) ?_); show P _ _ (aR _ _ :: _) _ _ _))
        rw [a5]
        refine hP _ _ _ _ _ _ (Exists.intro (lf isLt T s) (And.intro (And.intro (rfl) (by show _ < 160; omega)) ?_))
        rw [(t3 _ hlt).1]
        refine hP _ _ _ _ _ _ (q_isLetter (by omega) (t3 _ hlt).2 ?_)
        rw [hno]
        refine hP _ _ _ _ _ _ (And.intro (fun _ => ?_) (fun hc => absurd rfl hc))
        exact stop S1 g1 a5 a8
    · intro p hp ih hsp S1 g1 a5 a8
      have hN := hN.up g1
      obtain ⟨t1, t2, t3⟩ := hT.lx g1
      have hpt : p < T.1 := by omega
      have hyes : isLt (T.2 p) = true := lf_in _ s rfl p hsp hp
      rw [t1, a5]
      refine hP _ _ _ _ _ _ (And.intro (fun hc => absurd hc (nI_ge hpt (by omega))) (fun _ => ?_))
      repeat (first | (refine hP _ _ _ _ _ _ ?_; show P _ _ _ _ _ _) | (refine hP _ _ _ _ _ _ (And.intro (hN _ _ _ rfl) ?_); show P _ _ (aR _ _ :: _) _ _ _))
      rw [a5]
      refine hP _ _ _ _ _ _ (Exists.intro (p) (And.intro (And.intro (rfl) (by show _ < 160; omega)) ?_))
      rw [(t3 _ hpt).1]
      refine hP _ _ _ _ _ _ (q_isLetter (by omega) (t3 _ hpt).2 ?_)
      rw [hyes]
      refine hP _ _ _ _ _ _ (And.intro (fun hc => absurd hc (by decide)) (fun _ => ?_))
      repeat (first | (refine hP _ _ _ _ _ _ ?_; show P _ _ _ _ _ _) | (refine hP _ _ _ _ _ _ (And.intro (hN _ _ _ rfl) ?_); show P _ _ (aR _ _ :: _) _ _ _))
      rw [a5, nI_1]
      exact ih (by omega) _ (g1.tr (Ag.lx (by omega) (by omega))) iv_at (by rw [iv_ne (by omega)]; exact a8)
  repeat (first | (refine hP _ _ _ _ _ _ ?_; show P _ _ _ _ _ _) | (refine hP _ _ _ _ _ _ (And.intro (hN _ _ _ rfl) ?_); show P _ _ (aR _ _ :: _) _ _ _))
  exact loop s hge (Nat.le_refl _) S (Ag.rf _ _) h5 h8
theorem ltI {x y : Nat} (hx : x < 2 ^ 31) (hy : y < 2 ^ 31) {A B : Prop} (h1 : x < y → A) (h2 : ¬ x < y → B) : (nI x < nI y → A) ∧ (¬ nI x < nI y → B) :=
  ⟨fun hc => h1 ((nI_ltI hx hy).mp hc), fun hc => h2 (fun z => hc ((nI_ltI hx hy).mpr z))⟩
/-- the reader's token is the one from q on -/
def LX (S : St) (T : Tx) (q : Nat) : Prop := S.1 7 0 5 = nI (nx T q) ∧ S.1 7 0 6 = nI (kd T q) ∧ S.1 7 0 8 = nI (bg T q) ∧ (kd T q = 2 → S.1 7 0 7 = nI (vlT T q))
theorem sgG : strG 0 = ([40, 41, 59, 43, 45, 42, 60, 61] : List Nat).map nI := by decide +kernel
theorem sg_iff {c : Nat} (hc : c ≤ 255) : (nI c ∈ strG 0) ↔ isSg c = true := by
  rw [sgG]
  have : ∀ k, k < 256 → ((nI k ∈ ([40, 41, 59, 43, 45, 42, 60, 61] : List Nat).map nI) ↔ isSg k = true) := by decide +kernel
  exact this c (by omega)
theorem i2c_b : ∀ c, c < 256 → ((nI c).toUInt32 % 65536).toInt32 = nI c := by decide +kernel
theorem kwK_ne2 (T : Tx) (s len : Nat) : ∀ l : List (List Nat × Nat), (∀ a ∈ l, a.2 ≠ 2) → kwK T s len l ≠ 2
  | [], _ => by simp [kwK]
  | a :: l, h => by
    simp only [kwK]
    split
    · exact h a List.mem_cons_self
    · exact kwK_ne2 T s len l (fun x hx => h x (List.mem_cons_of_mem _ hx))
theorem q_next {d q : Nat} {S : St} {K : KT} {T : Tx} (hd : 3 ≤ d) (hN : NN S) (hT : TP S T) (hq : q ≤ T.1) (h5 : S.1 7 0 5 = nI q) (h : ∀ S', Ag wLx S S' → LX S' T q → K none S') : Call d m_X1_next [aR 7 0] S K := by
  refine Call.of (k := 2) hd (fun e he P hP => ?_)
  have h160 := hT.2.1
  have hN0 := hN
  have hle := bg_le hq
  have hge := bg_ge T q
  have stop : ∀ S1, Ag wLx S S1 → S1.1 7 0 5 = nI (bg T q) → P 52 [some (aR 7 0)] [] S1 0 0 := by
    intro S1 g1 a5
    have hN := hN.up g1
    repeat (first | (refine hP _ _ _ _ _ _ ?_; show P _ _ _ _ _ _) | (refine hP _ _ _ _ _ _ (And.intro (hN _ _ _ rfl) ?_); show P _ _ (aR _ _ :: _) _ _ _))
    rw [a5]
    show P _ _ _ (ivSet S1 7 0 8 (nI (bg T q))) _ _
    have g2 : Ag wLx S (ivSet S1 7 0 8 (nI (bg T q))) := g1.tr (Ag.lx (by omega) (by omega))
    have c5 : (ivSet S1 7 0 8 (nI (bg T q))).1 7 0 5 = nI (bg T q) := by rw [iv_ne (by omega)]; exact a5
    have c8 : (ivSet S1 7 0 8 (nI (bg T q))).1 7 0 8 = nI (bg T q) := iv_at
    generalize ivSet S1 7 0 8 (nI (bg T q)) = S2 at g2 c5 c8 ⊢
    have hT2 := hT.lx g2
    obtain ⟨t1, t2, t3⟩ := id hT2
    have hN := hN0.up g2
    repeat (first | (refine hP _ _ _ _ _ _ ?_; show P _ _ _ _ _ _) | (refine hP _ _ _ _ _ _ (And.intro (hN _ _ _ rfl) ?_); show P _ _ (aR _ _ :: _) _ _ _))
    rw [c5, t1]
    refine hP _ _ _ _ _ _ (ltI (by omega) (by omega) (fun hc => ?_) (fun hc => ?_))
    · have hnl : ¬ T.1 ≤ bg T q := by omega
      obtain ⟨b1, b2'⟩ := t3 _ hc
      have two : P 79 [some (aR 7 0)] [] S2 0 0 → True := fun _ => trivial
      repeat (first | (refine hP _ _ _ _ _ _ ?_; show P _ _ _ _ _ _) | (refine hP _ _ _ _ _ _ (And.intro (hN _ _ _ rfl) ?_); show P _ _ (aR _ _ :: _) _ _ _))
      rw [c5]
      refine hP _ _ _ _ _ _ (Exists.intro (bg T q) (And.intro (And.intro (rfl) (by show _ < 160; omega)) ?_))
      rw [b1]
      refine hP _ _ _ _ _ _ (q_isDigit (by omega) b2' ?_)
      cases hdg : isDg (T.2 (bg T q)) with
      | true =>
        refine hP _ _ _ _ _ _ (And.intro (fun hc => absurd hc (by decide)) (fun _ => ?_))
        repeat (first | (refine hP _ _ _ _ _ _ ?_; show P _ _ _ _ _ _) | (refine hP _ _ _ _ _ _ (And.intro (hN _ _ _ rfl) ?_); show P _ _ (aR _ _ :: _) _ _ _))
        refine hP _ _ _ _ _ _ (q_nextNumber (by omega) hN hT2 (by omega) c5 c8 (fun S3 g3 d5 d6 d7 d8 => ?_))
        repeat (first | (refine hP _ _ _ _ _ _ ?_; show P _ _ _ _ _ _) | (refine hP _ _ _ _ _ _ (And.intro (hN _ _ _ rfl) ?_); show P _ _ (aR _ _ :: _) _ _ _))
        have ek : kd T q = if 4 < lf isDg T (bg T q) - bg T q then 1 else 2 := by unfold kd; rw [if_neg hnl, if_pos hdg]
        have en : nx T q = lf isDg T (bg T q) := by unfold nx; rw [if_neg hnl, if_pos hdg]
        exact hP _ _ _ _ _ _ (h S3 (g2.tr g3) ⟨by rw [en]; exact d5, by rw [ek]; exact d6, d8, fun _ => d7⟩)
      | false =>
        refine hP _ _ _ _ _ _ (And.intro (fun _ => ?_) (fun hc => absurd rfl hc))
        repeat (first | (refine hP _ _ _ _ _ _ ?_; show P _ _ _ _ _ _) | (refine hP _ _ _ _ _ _ (And.intro (hN _ _ _ rfl) ?_); show P _ _ (aR _ _ :: _) _ _ _))
        rw [c5]
        refine hP _ _ _ _ _ _ (Exists.intro (bg T q) (And.intro (And.intro (rfl) (by show _ < 160; omega)) ?_))
        rw [b1]
        refine hP _ _ _ _ _ _ (q_isLetter (by omega) b2' ?_)
        cases hlt : isLt (T.2 (bg T q)) with
        | true =>
          refine hP _ _ _ _ _ _ (And.intro (fun hc => absurd hc (by decide)) (fun _ => ?_))
          repeat (first | (refine hP _ _ _ _ _ _ ?_; show P _ _ _ _ _ _) | (refine hP _ _ _ _ _ _ (And.intro (hN _ _ _ rfl) ?_); show P _ _ (aR _ _ :: _) _ _ _))
          refine hP _ _ _ _ _ _ (q_nextWord (by omega) hN hT2 (by omega) c5 c8 (fun S3 g3 d5 d6 d8 => ?_))
          repeat (first | (refine hP _ _ _ _ _ _ ?_; show P _ _ _ _ _ _) | (refine hP _ _ _ _ _ _ (And.intro (hN _ _ _ rfl) ?_); show P _ _ (aR _ _ :: _) _ _ _))
          have ek : kd T q = kwK T (bg T q) (lf isLt T (bg T q) - bg T q) kwL := by unfold kd; rw [if_neg hnl, if_neg (by rw [hdg]; decide), if_pos hlt]
          have en : nx T q = lf isLt T (bg T q) := by unfold nx; rw [if_neg hnl, if_neg (by rw [hdg]; decide), if_pos hlt]
          exact hP _ _ _ _ _ _ (h S3 (g2.tr g3) ⟨by rw [en]; exact d5, by rw [ek]; exact d6, d8, fun z => absurd (ek.symm.trans z) (kwK_ne2 T _ _ kwL (by decide))⟩)
        | false =>
          have en : nx T q = bg T q + 1 := by unfold nx; rw [if_neg hnl, if_neg (by rw [hdg]; decide), if_neg (by rw [hlt]; decide)]
          refine hP _ _ _ _ _ _ (And.intro (fun _ => ?_) (fun hc => absurd rfl hc))
          repeat (first | (refine hP _ _ _ _ _ _ ?_; show P _ _ _ _ _ _) | (refine hP _ _ _ _ _ _ (And.intro (hN _ _ _ rfl) ?_); show P _ _ (aR _ _ :: _) _ _ _))
          rw [c5]
          refine hP _ _ _ _ _ _ (Exists.intro (bg T q) (And.intro (And.intro (rfl) (by show _ < 160; omega)) ?_))
          rw [b1]
          repeat (first | (refine hP _ _ _ _ _ _ ?_; show P _ _ _ _ _ _) | (refine hP _ _ _ _ _ _ (And.intro (hN _ _ _ rfl) ?_); show P _ _ (aR _ _ :: _) _ _ _))
          rw [i2c_b _ (by omega)]
          have fin : ∀ v, kd T q = v → v ≠ 2 → P 168 [some (aR 7 0)] [] (ivSet (ivSet S2 7 0 6 (nI v)) 7 0 5 ((ivSet S2 7 0 6 (nI v)).1 7 0 5 + 1)) 0 0 := by
            intro v hv hv2
            have e5 : (ivSet S2 7 0 6 (nI v)).1 7 0 5 + 1 = nI (nx T q) := by rw [iv_ne (by omega), c5, nI_1, en]
            rw [e5]
            exact hP _ _ _ _ _ _ (h _ ((g2.tr (Ag.lx (by omega) (by omega))).tr (Ag.lx (by omega) (by omega))) ⟨iv_at, by rw [iv_ne (by omega), hv]; exact iv_at, by rw [iv_ne (by omega), iv_ne (by omega)]; exact c8, fun z => absurd (hv.symm.trans z) hv2⟩)
          refine hP _ _ _ _ _ _ ((fun v hv => ?_))
          rcases hv with ⟨rfl, hv⟩ | ⟨k, rfl, hv⟩
          · have hs : ¬ isSg (T.2 (bg T q)) = true := fun z => hv ((sg_iff b2').mpr z)
            have ek : kd T q = 1 := by unfold kd; rw [if_neg hnl, if_neg (by rw [hdg]; decide), if_neg (by rw [hlt]; decide), if_neg hs]
            refine hP _ _ _ _ _ _ (And.intro (fun _ => ?_) (fun hc => absurd (by decide) hc))
            repeat (first | (refine hP _ _ _ _ _ _ ?_; show P _ _ _ _ _ _) | (refine hP _ _ _ _ _ _ (And.intro (hN _ _ _ rfl) ?_); show P _ _ (aR _ _ :: _) _ _ _))
            exact fin 1 ek (by decide)
          · have hmem : nI (T.2 (bg T q)) ∈ strG 0 := List.mem_of_getElem? hv
            have hs : isSg (T.2 (bg T q)) = true := (sg_iff b2').mp hmem
            have hk8 : k < 8 := by
              have := (List.getElem?_eq_some_iff.mp hv).1
              rw [sgG] at this
              exact this
            have ek : kd T q = T.2 (bg T q) := by unfold kd; rw [if_neg hnl, if_neg (by rw [hdg]; decide), if_neg (by rw [hlt]; decide), if_pos hs]
            refine hP _ _ _ _ _ _ (And.intro (fun hc => absurd hc (nI_pos (by omega))) (fun _ => ?_))
            repeat (first | (refine hP _ _ _ _ _ _ ?_; show P _ _ _ _ _ _) | (refine hP _ _ _ _ _ _ (And.intro (hN _ _ _ rfl) ?_); show P _ _ (aR _ _ :: _) _ _ _))
            rw [c5]
            refine hP _ _ _ _ _ _ (Exists.intro (bg T q) (And.intro (And.intro (rfl) (by show _ < 160; omega)) ?_))
            rw [b1]
            repeat (first | (refine hP _ _ _ _ _ _ ?_; show P _ _ _ _ _ _) | (refine hP _ _ _ _ _ _ (And.intro (hN _ _ _ rfl) ?_); show P _ _ (aR _ _ :: _) _ _ _))
            exact fin _ ek (fun z => by rw [z] at hs; exact absurd hs (by decide))
    · have hnl : T.1 ≤ bg T q := by omega
      have ek : kd T q = 0 := kd_0.mpr hnl
      have en : nx T q = bg T q := by unfold nx; rw [if_pos hnl]
      repeat (first | (refine hP _ _ _ _ _ _ ?_; show P _ _ _ _ _ _) | (refine hP _ _ _ _ _ _ (And.intro (hN _ _ _ rfl) ?_); show P _ _ (aR _ _ :: _) _ _ _))
      exact hP _ _ _ _ _ _ (h _ (g2.tr (Ag.lx (by omega) (by omega))) ⟨by rw [iv_ne (by omega), en]; exact c5, by rw [ek]; exact iv_at, by rw [iv_ne (by omega)]; exact c8, fun z => by rw [ek] at z; cases z⟩)
  have loop : ∀ p, p ≤ bg T q → (q ≤ p → ∀ S1, Ag wLx S S1 → S1.1 7 0 5 = nI p → P 8 [some (aR 7 0)] [aI (S1.1 7 0 1), aI (S1.1 7 0 5)] S1 0 0) := by
    refine dn ?_ ?_
    · intro _ S1 g1 a5
      have hN := hN.up g1
      obtain ⟨t1, t2, t3⟩ := hT.lx g1
      rw [t1, a5]
      refine hP _ _ _ _ _ _ (geI (by omega) (by omega) (fun hc => ?_) (fun hc => ?_))
      · exact stop S1 g1 a5
      · have hlt : bg T q < T.1 := by omega
        have hno : isSp (T.2 (bg T q)) = false := lf_no hlt
        obtain ⟨b1, b2'⟩ := t3 _ hlt
        simp only [isSp, decide_eq_false_iff_not, not_or] at hno
        repeat (first | (refine hP _ _ _ _ _ _ ?_; show P _ _ _ _ _ _) | (refine hP _ _ _ _ _ _ (And.intro (hN _ _ _ rfl) ?_); show P _ _ (aR _ _ :: _) _ _ _))
        rw [a5]
        refine hP _ _ _ _ _ _ (Exists.intro (bg T q) (And.intro (And.intro (rfl) (by show _ < 160; omega)) ?_))
        rw [b1]
        repeat (first | (refine hP _ _ _ _ _ _ ?_; show P _ _ _ _ _ _) | (refine hP _ _ _ _ _ _ (And.intro (hN _ _ _ rfl) ?_); show P _ _ (aR _ _ :: _) _ _ _))
        refine hP _ _ _ _ _ _ (And.intro (fun hc => absurd hc (fun z => hno.1 ((nI_eq (b := 32) (by omega) (by decide)).mp z))) (fun _ => ?_))
        repeat (first | (refine hP _ _ _ _ _ _ ?_; show P _ _ _ _ _ _) | (refine hP _ _ _ _ _ _ (And.intro (hN _ _ _ rfl) ?_); show P _ _ (aR _ _ :: _) _ _ _))
        rw [a5]
        refine hP _ _ _ _ _ _ (Exists.intro (bg T q) (And.intro (And.intro (rfl) (by show _ < 160; omega)) ?_))
        rw [b1]
        repeat (first | (refine hP _ _ _ _ _ _ ?_; show P _ _ _ _ _ _) | (refine hP _ _ _ _ _ _ (And.intro (hN _ _ _ rfl) ?_); show P _ _ (aR _ _ :: _) _ _ _))
        refine hP _ _ _ _ _ _ (And.intro (fun _ => ?_) (fun hc => absurd ((nI_eq (b := 10) (by omega) (by decide)).mp hc) hno.2))
        exact stop S1 g1 a5
    · intro p hp ih hsp S1 g1 a5
      have hN := hN.up g1
      obtain ⟨t1, t2, t3⟩ := hT.lx g1
      have hpt : p < T.1 := by omega
      obtain ⟨b1, b2'⟩ := t3 _ hpt
      have hyes : isSp (T.2 p) = true := lf_in _ q rfl p hsp hp
      simp only [isSp, decide_eq_true_eq] at hyes
      have go : P 39 [some (aR 7 0)] [] S1 0 0 := by
        repeat (first | (refine hP _ _ _ _ _ _ ?_; show P _ _ _ _ _ _) | (refine hP _ _ _ _ _ _ (And.intro (hN _ _ _ rfl) ?_); show P _ _ (aR _ _ :: _) _ _ _))
        rw [a5, nI_1]
        exact ih (by omega) _ (g1.tr (Ag.lx (by omega) (by omega))) iv_at
      rw [t1, a5]
      refine hP _ _ _ _ _ _ (And.intro (fun hc => absurd hc (nI_ge hpt (by omega))) (fun _ => ?_))
      repeat (first | (refine hP _ _ _ _ _ _ ?_; show P _ _ _ _ _ _) | (refine hP _ _ _ _ _ _ (And.intro (hN _ _ _ rfl) ?_); show P _ _ (aR _ _ :: _) _ _ _))
      rw [a5]
      refine hP _ _ _ _ _ _ (Exists.intro (p) (And.intro (And.intro (rfl) (by show _ < 160; omega)) ?_))
      rw [b1]
      repeat (first | (refine hP _ _ _ _ _ _ ?_; show P _ _ _ _ _ _) | (refine hP _ _ _ _ _ _ (And.intro (hN _ _ _ rfl) ?_); show P _ _ (aR _ _ :: _) _ _ _))
      refine hP _ _ _ _ _ _ (And.intro (fun hc => ?_) (fun hc => ?_))
      · exact go
      · repeat (first | (refine hP _ _ _ _ _ _ ?_; show P _ _ _ _ _ _) | (refine hP _ _ _ _ _ _ (And.intro (hN _ _ _ rfl) ?_); show P _ _ (aR _ _ :: _) _ _ _))
        rw [a5]
        refine hP _ _ _ _ _ _ (Exists.intro (p) (And.intro (And.intro (rfl) (by show _ < 160; omega)) ?_))
        rw [b1]
        repeat (first | (refine hP _ _ _ _ _ _ ?_; show P _ _ _ _ _ _) | (refine hP _ _ _ _ _ _ (And.intro (hN _ _ _ rfl) ?_); show P _ _ (aR _ _ :: _) _ _ _))
        refine hP _ _ _ _ _ _ (And.intro (fun hc2 => ?_) (fun _ => ?_))
        · exfalso
          rcases hyes with e | e
          · exact hc (by rw [e]; rfl)
          · exact hc2 (by rw [e]; rfl)
        · exact go
  repeat (first | (refine hP _ _ _ _ _ _ ?_; show P _ _ _ _ _ _) | (refine hP _ _ _ _ _ _ (And.intro (hN _ _ _ rfl) ?_); show P _ _ (aR _ _ :: _) _ _ _))
  exact loop q hge (Nat.le_refl _) S (Ag.rf _ _) h5
