/-! The model's reader: bytes, letters, words, signs -/
def mP : WW := fun j _ k => j = 40 ∧ 20 ≤ k ∧ k ≤ 28
theorem mP_0 : ∀ j g k, mP j g k → m0 j g k := by
  intro j g k h
  simp only [mP] at h
  simp only [m0]
  omega
theorem Ag.mp {S : St} {k : Nat} {v : Int32} (h1 : 20 ≤ k) (h2 : k ≤ 28) : Ag mP S (ivSet S 40 0 k v) := Ag.iv ⟨rfl, h1, h2⟩
/-- the model's reader is at text t -/
def MT0 (S : St) (T : Tx) (t : Nat) : Prop := t < 6 ∧ T.1 ≤ 160 ∧ ∀ k, k < T.1 → S.1 41 0 (160 * t + k) = nI (T.2 k) ∧ T.2 k ≤ 255
def MT1 (S : St) (T : Tx) (t : Nat) : Prop := MT0 S T t ∧ S.1 40 0 20 = nI (160 * t) ∧ S.1 40 0 21 = nI T.1
def mL : WW := fun j _ k => j = 40 ∧ (22 ≤ k ∧ k ≤ 28)
theorem mL_P : ∀ j g k, mL j g k → mP j g k := by
  intro j g k h
  simp only [mL] at h
  simp only [mP]
  omega
theorem Ag.ml {S : St} {k : Nat} {v : Int32} (h1 : 22 ≤ k) (h2 : k ≤ 28) : Ag mL S (ivSet S 40 0 k v) := Ag.iv ⟨rfl, h1, h2⟩
theorem MT0.up {S S' : St} {T : Tx} {t : Nat} {W : WW} (h : MT0 S T t) (h1 : Ag W S S') (hw : ∀ k, ¬ W 41 0 k) : MT0 S' T t := ⟨h.1, h.2.1, fun k hk => by rw [h1.1 41 0 _ (hw _)]; exact h.2.2 k hk⟩
theorem MT1.ml {S S' : St} {T : Tx} {t : Nat} (h : MT1 S T t) (h1 : Ag mL S S') : MT1 S' T t := by
  refine ⟨h.1.up h1 (fun k => by simp [mL]), ?_, ?_⟩
  · rw [h1.1 40 0 20 (by simp [mL])]; exact h.2.1
  · rw [h1.1 40 0 21 (by simp [mL])]; exact h.2.2
theorem n_in {d : Nat} {S : St} {K : KT} {x lo hi : Int64} (hd : 1 ≤ d) (h : K (some (aI (b2 (decide (lo ≤ x) && decide (x ≤ hi))))) S) : Call d m_X6_in [aL x, aL lo, aL hi] S K := by
  refine Call.of (k := 0) hd (fun e he P hP => ?_)
  have hN : True := trivial
  repeat (first | (refine hP _ _ _ _ _ _ ?_; show P _ _ _ _ _ _) | refine hP _ _ _ _ _ _ (And.intro (hN _ _ _ rfl) ?_))
  refine hP _ _ _ _ _ _ (And.intro (fun h1 => ?_) (fun h1 => ?_))
  · have e : decide (lo ≤ x) = false := decide_eq_false (fun z => by
      have := (lg_cmp_lt x lo).mp h1
      exact absurd z (Int64.not_le.mpr this))
    rw [e] at h
    repeat (first | (refine hP _ _ _ _ _ _ ?_; show P _ _ _ _ _ _) | refine hP _ _ _ _ _ _ (And.intro (hN _ _ _ rfl) ?_))
    refine hP _ _ _ _ _ _ (And.intro (Or.inl rfl) h)
  · have e1 : decide (lo ≤ x) = true := decide_eq_true (Int64.not_lt.mp (fun z => h1 ((lg_cmp_lt x lo).mpr z)))
    repeat (first | (refine hP _ _ _ _ _ _ ?_; show P _ _ _ _ _ _) | refine hP _ _ _ _ _ _ (And.intro (hN _ _ _ rfl) ?_))
    refine hP _ _ _ _ _ _ (And.intro (fun h2 => ?_) (fun h2 => ?_))
    · have e : decide (x ≤ hi) = false := decide_eq_false (fun z => by
        have := (lg_cmp_gt x hi).mp h2
        exact absurd z (Int64.not_le.mpr this))
      rw [e, Bool.and_false] at h
      repeat (first | (refine hP _ _ _ _ _ _ ?_; show P _ _ _ _ _ _) | refine hP _ _ _ _ _ _ (And.intro (hN _ _ _ rfl) ?_))
      refine hP _ _ _ _ _ _ (And.intro (Or.inl rfl) h)
    · have e : decide (x ≤ hi) = true := decide_eq_true (Int64.not_lt.mp (fun z => h2 ((lg_cmp_gt x hi).mpr z)))
      rw [e1, e] at h
      repeat (first | (refine hP _ _ _ _ _ _ ?_; show P _ _ _ _ _ _) | refine hP _ _ _ _ _ _ (And.intro (hN _ _ _ rfl) ?_))
      refine hP _ _ _ _ _ _ (And.intro (Or.inr rfl) h)
def byN (T : Tx) (k : Nat) : Int32 := if k < T.1 then nI (T.2 k) else -1
theorem n_byteAt {d k t : Nat} {S : St} {K : KT} {T : Tx} (hd : 1 ≤ d) (hN : NN S) (hT : MT1 S T t) (hk : k < 2 ^ 30) (h : K (some (aI (byN T k))) S) : Call d m_X6_byteAt [aR 40 0, aI (nI k)] S K := by
  refine Call.of (k := 0) hd (fun e he P hP => ?_)
  obtain ⟨⟨t1, t2, t3⟩, t4, t5⟩ := hT
  unfold byN at h
  repeat (first | (refine hP _ _ _ _ _ _ ?_; show P _ _ _ _ _ _) | (refine hP _ _ _ _ _ _ (And.intro (hN _ _ _ rfl) ?_); show P _ _ (aR _ _ :: _) _ _ _))
  rw [t5]
  refine hP _ _ _ _ _ _ (geI (x := k) (y := T.1) (by omega) (by omega) (fun hc => ?_) (fun hc => ?_))
  · rw [if_neg (by omega)] at h
    repeat (first | (refine hP _ _ _ _ _ _ ?_; show P _ _ _ _ _ _) | (refine hP _ _ _ _ _ _ (And.intro (hN _ _ _ rfl) ?_); show P _ _ (aR _ _ :: _) _ _ _))
    exact hP _ _ _ _ _ _ (h)
  · rw [if_pos (by omega)] at h
    repeat (first | (refine hP _ _ _ _ _ _ ?_; show P _ _ _ _ _ _) | (refine hP _ _ _ _ _ _ (And.intro (hN _ _ _ rfl) ?_); show P _ _ (aR _ _ :: _) _ _ _))
    rw [t4]
    refine hP _ _ _ _ _ _ (Exists.intro (160 * t + k) (And.intro (And.intro (nI_add _ _) (by show _ < 960; omega)) ?_))
    rw [(t3 k (by omega)).1]
    repeat (first | (refine hP _ _ _ _ _ _ ?_; show P _ _ _ _ _ _) | (refine hP _ _ _ _ _ _ (And.intro (hN _ _ _ rfl) ?_); show P _ _ (aR _ _ :: _) _ _ _))
    exact hP _ _ _ _ _ _ (h)
def inB (p : Nat → Bool) (T : Tx) (k : Nat) : Bool := decide (k < T.1) && p (T.2 k)
theorem by_in {T : Tx} {k : Nat} (lo hi : Nat) (hlo : lo ≤ 300) (hhi : hi ≤ 300) (hb : k < T.1 → T.2 k ≤ 255) : (decide (lN lo ≤ (byN T k).toInt64) && decide ((byN T k).toInt64 ≤ lN hi)) = inB (fun c => decide (lo ≤ c ∧ c ≤ hi)) T k := by
  unfold byN inB
  by_cases hk : k < T.1
  · have := hb hk
    rw [if_pos hk, nI_l (by omega), decide_eq_true hk, Bool.true_and]
    rw [show decide (lN lo ≤ lN (T.2 k)) = decide (lo ≤ T.2 k) from decide_eq_decide.mpr (lN_le (by omega) (by omega)), show decide (lN (T.2 k) ≤ lN hi) = decide (T.2 k ≤ hi) from decide_eq_decide.mpr (lN_le (by omega) (by omega))]
    by_cases h1 : lo ≤ T.2 k <;> by_cases h2 : T.2 k ≤ hi <;> simp [h1, h2]
  · rw [if_neg hk, decide_eq_false hk, Bool.false_and]
    have : decide (lN lo ≤ ((-1 : Int32)).toInt64) = false := decide_eq_false (fun z => by
      rw [Int64.le_iff_toInt_le, lN_toInt (by omega), show ((-1 : Int32)).toInt64.toInt = -1 by decide] at z
      omega)
    rw [this, Bool.false_and]
theorem n_inL {d k : Nat} {S : St} {K : KT} {T : Tx} (hd : 1 ≤ d) (hb : k < T.1 → T.2 k ≤ 255) (h : K (some (aI (b2 (inB isLt T k)))) S) : Call d m_X6_in [aL (byN T k).toInt64, aL 97, aL 122] S K := by
  refine n_in hd ?_
  rw [show (97 : Int64) = lN 97 from rfl, show (122 : Int64) = lN 122 from rfl, by_in 97 122 (by omega) (by omega) hb]
  exact h
theorem n_inD {d k : Nat} {S : St} {K : KT} {T : Tx} (hd : 1 ≤ d) (hb : k < T.1 → T.2 k ≤ 255) (h : K (some (aI (b2 (inB isDg T k)))) S) : Call d m_X6_in [aL (byN T k).toInt64, aL 48, aL 57] S K := by
  refine n_in hd ?_
  rw [show (48 : Int64) = lN 48 from rfl, show (57 : Int64) = lN 57 from rfl, by_in 48 57 (by omega) (by omega) hb]
  exact h
/-- a letter of the word from s to e, 0 behind it -/
def lt8 (T : Tx) (s e i c : Nat) : Bool := if s + i < e then decide (T.2 (s + i) = c) else decide (c = 0)
theorem n_isLetter {d s e' i c t : Nat} {S : St} {K : KT} {T : Tx} (hd : 2 ≤ d) (hN : NN S) (hT : MT1 S T t) (he : e' ≤ T.1) (hi : i < 8) (hc : c ≤ 255) (h24 : S.1 40 0 24 = nI s) (h22 : S.1 40 0 22 = nI e') (hs : s ≤ 160) (h : K (some (aI (b2 (lt8 T s e' i c)))) S) : Call d m_X6_isLetter [aR 40 0, aI (nI i), aI (nI c)] S K := by
  refine Call.of (k := 1) hd (fun e he P hP => ?_)
  have h160 := hT.1.2.1
  unfold lt8 at h
  repeat (first | (refine hP _ _ _ _ _ _ ?_; show P _ _ _ _ _ _) | (refine hP _ _ _ _ _ _ (And.intro (hN _ _ _ rfl) ?_); show P _ _ (aR _ _ :: _) _ _ _))
  rw [h24, h22, nI_add]
  refine hP _ _ _ _ _ _ (geI (x := s + i) (y := e') (by omega) (by omega) (fun hx => ?_) (fun hx => ?_))
  · rw [if_neg (by omega)] at h
    repeat (first | (refine hP _ _ _ _ _ _ ?_; show P _ _ _ _ _ _) | (refine hP _ _ _ _ _ _ (And.intro (hN _ _ _ rfl) ?_); show P _ _ (aR _ _ :: _) _ _ _))
    refine hP _ _ _ _ _ _ (And.intro (fun h1 => ?_) (fun h1 => ?_))
    · have : ¬ c = 0 := fun z => h1 (by rw [z]; rfl)
      rw [decide_eq_false this] at h
      repeat (first | (refine hP _ _ _ _ _ _ ?_; show P _ _ _ _ _ _) | (refine hP _ _ _ _ _ _ (And.intro (hN _ _ _ rfl) ?_); show P _ _ (aR _ _ :: _) _ _ _))
      refine hP _ _ _ _ _ _ (And.intro (Or.inl rfl) h)
    · have : c = 0 := (nI_eq (b := 0) (by omega) (by omega)).mp h1
      rw [decide_eq_true this] at h
      repeat (first | (refine hP _ _ _ _ _ _ ?_; show P _ _ _ _ _ _) | (refine hP _ _ _ _ _ _ (And.intro (hN _ _ _ rfl) ?_); show P _ _ (aR _ _ :: _) _ _ _))
      refine hP _ _ _ _ _ _ (And.intro (Or.inr rfl) h)
  · have hlt : s + i < T.1 := by omega
    have hb := (hT.1.2.2 _ hlt).2
    rw [if_pos (by omega)] at h
    repeat (first | (refine hP _ _ _ _ _ _ ?_; show P _ _ _ _ _ _) | (refine hP _ _ _ _ _ _ (And.intro (hN _ _ _ rfl) ?_); show P _ _ (aR _ _ :: _) _ _ _))
    rw [h24, nI_add]
    refine hP _ _ _ _ _ _ (n_byteAt (by omega) hN hT (by omega) ?_)
    unfold byN
    rw [if_pos hlt]
    repeat (first | (refine hP _ _ _ _ _ _ ?_; show P _ _ _ _ _ _) | (refine hP _ _ _ _ _ _ (And.intro (hN _ _ _ rfl) ?_); show P _ _ (aR _ _ :: _) _ _ _))
    refine hP _ _ _ _ _ _ (And.intro (fun h1 => ?_) (fun h1 => ?_))
    · have : ¬ T.2 (s + i) = c := fun z => h1 (by rw [z])
      rw [decide_eq_false this] at h
      repeat (first | (refine hP _ _ _ _ _ _ ?_; show P _ _ _ _ _ _) | (refine hP _ _ _ _ _ _ (And.intro (hN _ _ _ rfl) ?_); show P _ _ (aR _ _ :: _) _ _ _))
      refine hP _ _ _ _ _ _ (And.intro (Or.inl rfl) h)
    · have : T.2 (s + i) = c := (nI_eq (by omega) (by omega)).mp h1
      rw [decide_eq_true this] at h
      repeat (first | (refine hP _ _ _ _ _ _ ?_; show P _ _ _ _ _ _) | (refine hP _ _ _ _ _ _ (And.intro (hN _ _ _ rfl) ?_); show P _ _ (aR _ _ :: _) _ _ _))
      refine hP _ _ _ _ _ _ (And.intro (Or.inr rfl) h)
/-- the word from s to e, letter by letter -/
def w8 (T : Tx) (s e : Nat) (c : Nat → Nat) : Bool := decide (e ≤ s + 8) && (lt8 T s e 0 (c 0) && (lt8 T s e 1 (c 1) && (lt8 T s e 2 (c 2) && (lt8 T s e 3 (c 3) && (lt8 T s e 4 (c 4) && (lt8 T s e 5 (c 5) && (lt8 T s e 6 (c 6) && lt8 T s e 7 (c 7))))))))
theorem n_isWord0 {d s e' t tk : Nat} {S : St} {K : KT} {T : Tx} {c : Nat → Nat} {b : Bool} (hd : 3 ≤ d) (hN : NN S) (hT : MT1 S T t) (hle : e' ≤ T.1) (hc : ∀ i, c i ≤ 255) (h24 : S.1 40 0 24 = nI s) (h22 : S.1 40 0 22 = nI e') (h23 : S.1 40 0 23 = nI tk) (htk : tk ≤ 4) (h27 : S.1 40 0 27 = b2 b) (hs : s ≤ 160) (h : K (some (aI (b2 (!b && (decide (tk = 1) && w8 T s e' c))))) S) : Call d m_X6_isWord [aR 40 0, aI (nI (c 0)), aI (nI (c 1)), aI (nI (c 2)), aI (nI (c 3)), aI (nI (c 4)), aI (nI (c 5)), aI (nI (c 6)), aI (nI (c 7))] S K := by
  refine Call.of (k := 2) hd (fun e he P hP => ?_)
  have h160 := hT.1.2.1
  have out0 : (!b && (decide (tk = 1) && w8 T s e' c)) = false → P 112 [some (aR 40 0), some (aI (nI (c 0))), some (aI (nI (c 1))), some (aI (nI (c 2))), some (aI (nI (c 3))), some (aI (nI (c 4))), some (aI (nI (c 5))), some (aI (nI (c 6))), some (aI (nI (c 7)))] [] S 0 0 := by
    intro e1
    rw [e1] at h
    repeat (first | (refine hP _ _ _ _ _ _ ?_; show P _ _ _ _ _ _) | (refine hP _ _ _ _ _ _ (And.intro (hN _ _ _ rfl) ?_); show P _ _ (aR _ _ :: _) _ _ _))
    refine hP _ _ _ _ _ _ (And.intro (Or.inl rfl) h)
  repeat (first | (refine hP _ _ _ _ _ _ ?_; show P _ _ _ _ _ _) | (refine hP _ _ _ _ _ _ (And.intro (hN _ _ _ rfl) ?_); show P _ _ (aR _ _ :: _) _ _ _))
  rw [h27]
  cases b with
  | true =>
    refine hP _ _ _ _ _ _ (And.intro (fun _ => ?_) (fun hc => absurd hc (by decide)))
    exact out0 rfl
  | false =>
    refine hP _ _ _ _ _ _ (And.intro (fun hc => absurd rfl hc) (fun _ => ?_))
    repeat (first | (refine hP _ _ _ _ _ _ ?_; show P _ _ _ _ _ _) | (refine hP _ _ _ _ _ _ (And.intro (hN _ _ _ rfl) ?_); show P _ _ (aR _ _ :: _) _ _ _))
    rw [h23]
    refine hP _ _ _ _ _ _ (And.intro (fun h1 => ?_) (fun h1 => ?_))
    · have : ¬ tk = 1 := fun z => h1 (by rw [z]; rfl)
      exact out0 (by rw [decide_eq_false this]; rfl)
    · have t1 : tk = 1 := (nI_eq (b := 1) (by omega) (by omega)).mp h1
      rw [decide_eq_true t1] at h out0
      repeat (first | (refine hP _ _ _ _ _ _ ?_; show P _ _ _ _ _ _) | (refine hP _ _ _ _ _ _ (And.intro (hN _ _ _ rfl) ?_); show P _ _ (aR _ _ :: _) _ _ _))
      rw [h22, h24, show nI s + 8 = nI (s + 8) from nI_add s 8]
      refine hP _ _ _ _ _ _ (ltI (x := s + 8) (y := e') (by omega) (by omega) (fun h2 => ?_) (fun h2 => ?_))
      · have e1 : w8 T s e' c = false := by unfold w8; rw [decide_eq_false (show ¬ e' ≤ s + 8 by omega)]; rfl
        exact out0 (by rw [e1]; rfl)
      · have e0 : decide (e' ≤ s + 8) = true := decide_eq_true (by omega)
        unfold w8 at h out0
        rw [e0] at h out0
        repeat (first | (refine hP _ _ _ _ _ _ ?_; show P _ _ _ _ _ _) | (refine hP _ _ _ _ _ _ (And.intro (hN _ _ _ rfl) ?_); show P _ _ (aR _ _ :: _) _ _ _))
        refine hP _ _ _ _ _ _ (n_isLetter (i := 0) (c := c 0) (by omega) hN hT hle (by omega) (hc 0) h24 h22 hs ?_)
        repeat (first | (refine hP _ _ _ _ _ _ ?_; show P _ _ _ _ _ _) | (refine hP _ _ _ _ _ _ (And.intro (hN _ _ _ rfl) ?_); show P _ _ (aR _ _ :: _) _ _ _))
        cases l0 : lt8 T s e' 0 (c 0)
        · refine hP _ _ _ _ _ _ (And.intro (fun _ => ?_) (fun hc => absurd rfl hc))
          exact out0 (by simp only [l0, Bool.true_and, Bool.false_and, Bool.and_false])
        refine hP _ _ _ _ _ _ (And.intro (fun hc => absurd hc (by decide)) (fun _ => ?_))
        repeat (first | (refine hP _ _ _ _ _ _ ?_; show P _ _ _ _ _ _) | (refine hP _ _ _ _ _ _ (And.intro (hN _ _ _ rfl) ?_); show P _ _ (aR _ _ :: _) _ _ _))
        refine hP _ _ _ _ _ _ (n_isLetter (i := 1) (c := c 1) (by omega) hN hT hle (by omega) (hc 1) h24 h22 hs ?_)
        repeat (first | (refine hP _ _ _ _ _ _ ?_; show P _ _ _ _ _ _) | (refine hP _ _ _ _ _ _ (And.intro (hN _ _ _ rfl) ?_); show P _ _ (aR _ _ :: _) _ _ _))
        cases l1 : lt8 T s e' 1 (c 1)
        · refine hP _ _ _ _ _ _ (And.intro (fun _ => ?_) (fun hc => absurd rfl hc))
          exact out0 (by simp only [l0, l1, Bool.true_and, Bool.false_and, Bool.and_false])
        refine hP _ _ _ _ _ _ (And.intro (fun hc => absurd hc (by decide)) (fun _ => ?_))
        repeat (first | (refine hP _ _ _ _ _ _ ?_; show P _ _ _ _ _ _) | (refine hP _ _ _ _ _ _ (And.intro (hN _ _ _ rfl) ?_); show P _ _ (aR _ _ :: _) _ _ _))
        refine hP _ _ _ _ _ _ (n_isLetter (i := 2) (c := c 2) (by omega) hN hT hle (by omega) (hc 2) h24 h22 hs ?_)
        repeat (first | (refine hP _ _ _ _ _ _ ?_; show P _ _ _ _ _ _) | (refine hP _ _ _ _ _ _ (And.intro (hN _ _ _ rfl) ?_); show P _ _ (aR _ _ :: _) _ _ _))
        cases l2 : lt8 T s e' 2 (c 2)
        · refine hP _ _ _ _ _ _ (And.intro (fun _ => ?_) (fun hc => absurd rfl hc))
          exact out0 (by simp only [l0, l1, l2, Bool.true_and, Bool.false_and, Bool.and_false])
        refine hP _ _ _ _ _ _ (And.intro (fun hc => absurd hc (by decide)) (fun _ => ?_))
        repeat (first | (refine hP _ _ _ _ _ _ ?_; show P _ _ _ _ _ _) | (refine hP _ _ _ _ _ _ (And.intro (hN _ _ _ rfl) ?_); show P _ _ (aR _ _ :: _) _ _ _))
        refine hP _ _ _ _ _ _ (n_isLetter (i := 3) (c := c 3) (by omega) hN hT hle (by omega) (hc 3) h24 h22 hs ?_)
        repeat (first | (refine hP _ _ _ _ _ _ ?_; show P _ _ _ _ _ _) | (refine hP _ _ _ _ _ _ (And.intro (hN _ _ _ rfl) ?_); show P _ _ (aR _ _ :: _) _ _ _))
        cases l3 : lt8 T s e' 3 (c 3)
        · refine hP _ _ _ _ _ _ (And.intro (fun _ => ?_) (fun hc => absurd rfl hc))
          exact out0 (by simp only [l0, l1, l2, l3, Bool.true_and, Bool.false_and, Bool.and_false])
        refine hP _ _ _ _ _ _ (And.intro (fun hc => absurd hc (by decide)) (fun _ => ?_))
        repeat (first | (refine hP _ _ _ _ _ _ ?_; show P _ _ _ _ _ _) | (refine hP _ _ _ _ _ _ (And.intro (hN _ _ _ rfl) ?_); show P _ _ (aR _ _ :: _) _ _ _))
        refine hP _ _ _ _ _ _ (n_isLetter (i := 4) (c := c 4) (by omega) hN hT hle (by omega) (hc 4) h24 h22 hs ?_)
        repeat (first | (refine hP _ _ _ _ _ _ ?_; show P _ _ _ _ _ _) | (refine hP _ _ _ _ _ _ (And.intro (hN _ _ _ rfl) ?_); show P _ _ (aR _ _ :: _) _ _ _))
        cases l4 : lt8 T s e' 4 (c 4)
        · refine hP _ _ _ _ _ _ (And.intro (fun _ => ?_) (fun hc => absurd rfl hc))
          exact out0 (by simp only [l0, l1, l2, l3, l4, Bool.true_and, Bool.false_and, Bool.and_false])
        refine hP _ _ _ _ _ _ (And.intro (fun hc => absurd hc (by decide)) (fun _ => ?_))
        repeat (first | (refine hP _ _ _ _ _ _ ?_; show P _ _ _ _ _ _) | (refine hP _ _ _ _ _ _ (And.intro (hN _ _ _ rfl) ?_); show P _ _ (aR _ _ :: _) _ _ _))
        refine hP _ _ _ _ _ _ (n_isLetter (i := 5) (c := c 5) (by omega) hN hT hle (by omega) (hc 5) h24 h22 hs ?_)
        repeat (first | (refine hP _ _ _ _ _ _ ?_; show P _ _ _ _ _ _) | (refine hP _ _ _ _ _ _ (And.intro (hN _ _ _ rfl) ?_); show P _ _ (aR _ _ :: _) _ _ _))
        cases l5 : lt8 T s e' 5 (c 5)
        · refine hP _ _ _ _ _ _ (And.intro (fun _ => ?_) (fun hc => absurd rfl hc))
          exact out0 (by simp only [l0, l1, l2, l3, l4, l5, Bool.true_and, Bool.false_and, Bool.and_false])
        refine hP _ _ _ _ _ _ (And.intro (fun hc => absurd hc (by decide)) (fun _ => ?_))
        repeat (first | (refine hP _ _ _ _ _ _ ?_; show P _ _ _ _ _ _) | (refine hP _ _ _ _ _ _ (And.intro (hN _ _ _ rfl) ?_); show P _ _ (aR _ _ :: _) _ _ _))
        refine hP _ _ _ _ _ _ (n_isLetter (i := 6) (c := c 6) (by omega) hN hT hle (by omega) (hc 6) h24 h22 hs ?_)
        repeat (first | (refine hP _ _ _ _ _ _ ?_; show P _ _ _ _ _ _) | (refine hP _ _ _ _ _ _ (And.intro (hN _ _ _ rfl) ?_); show P _ _ (aR _ _ :: _) _ _ _))
        cases l6 : lt8 T s e' 6 (c 6)
        · refine hP _ _ _ _ _ _ (And.intro (fun _ => ?_) (fun hc => absurd rfl hc))
          exact out0 (by simp only [l0, l1, l2, l3, l4, l5, l6, Bool.true_and, Bool.false_and, Bool.and_false])
        refine hP _ _ _ _ _ _ (And.intro (fun hc => absurd hc (by decide)) (fun _ => ?_))
        repeat (first | (refine hP _ _ _ _ _ _ ?_; show P _ _ _ _ _ _) | (refine hP _ _ _ _ _ _ (And.intro (hN _ _ _ rfl) ?_); show P _ _ (aR _ _ :: _) _ _ _))
        refine hP _ _ _ _ _ _ (n_isLetter (i := 7) (c := c 7) (by omega) hN hT hle (by omega) (hc 7) h24 h22 hs ?_)
        repeat (first | (refine hP _ _ _ _ _ _ ?_; show P _ _ _ _ _ _) | (refine hP _ _ _ _ _ _ (And.intro (hN _ _ _ rfl) ?_); show P _ _ (aR _ _ :: _) _ _ _))
        cases l7 : lt8 T s e' 7 (c 7)
        · refine hP _ _ _ _ _ _ (And.intro (fun _ => ?_) (fun hc => absurd rfl hc))
          exact out0 (by simp only [l0, l1, l2, l3, l4, l5, l6, l7, Bool.true_and, Bool.false_and, Bool.and_false])
        refine hP _ _ _ _ _ _ (And.intro (fun hc => absurd hc (by decide)) (fun _ => ?_))
        repeat (first | (refine hP _ _ _ _ _ _ ?_; show P _ _ _ _ _ _) | (refine hP _ _ _ _ _ _ (And.intro (hN _ _ _ rfl) ?_); show P _ _ (aR _ _ :: _) _ _ _))
        simp only [l0, l1, l2, l3, l4, l5, l6, l7] at h
        refine hP _ _ _ _ _ _ (And.intro (Or.inr rfl) h)
theorem n_isSign {d c t tk : Nat} {S : St} {K : KT} {w : Int64} {b : Bool} (hd : 1 ≤ d) (h23 : S.1 40 0 23 = nI tk) (htk : tk ≤ 4) (h27 : S.1 40 0 27 = b2 b) (hc : c ≤ 255) (hw : S.2.1 = w) (h : K (some (aI (b2 (!b && (decide (tk = 3) && decide (w = lN c)))))) S) : Call d m_X6_isSign [aR 40 0, aI (nI c)] S K := by
  refine Call.of (k := 0) hd (fun e he P hP => ?_)
  have hN : True := trivial
  have out0 : (!b && (decide (tk = 3) && decide (w = lN c))) = false → P 29 [some (aR 40 0), some (aI (nI c))] [] S 0 0 := by
    intro e1
    rw [e1] at h
    repeat (first | (refine hP _ _ _ _ _ _ ?_; show P _ _ _ _ _ _) | refine hP _ _ _ _ _ _ (And.intro (hN _ _ _ rfl) ?_))
    refine hP _ _ _ _ _ _ (And.intro (Or.inl rfl) h)
  repeat (first | (refine hP _ _ _ _ _ _ ?_; show P _ _ _ _ _ _) | refine hP _ _ _ _ _ _ (And.intro (hN _ _ _ rfl) ?_))
  rw [h27]
  cases b with
  | true =>
    refine hP _ _ _ _ _ _ (And.intro (fun _ => ?_) (fun hc => absurd hc (by decide)))
    exact out0 rfl
  | false =>
    refine hP _ _ _ _ _ _ (And.intro (fun hc => absurd rfl hc) (fun _ => ?_))
    repeat (first | (refine hP _ _ _ _ _ _ ?_; show P _ _ _ _ _ _) | refine hP _ _ _ _ _ _ (And.intro (hN _ _ _ rfl) ?_))
    rw [h23]
    refine hP _ _ _ _ _ _ (And.intro (fun h1 => ?_) (fun h1 => ?_))
    · have : ¬ tk = 3 := fun z => h1 (by rw [z]; rfl)
      exact out0 (by rw [decide_eq_false this]; rfl)
    · have t1 : tk = 3 := (nI_eq (b := 3) (by omega) (by omega)).mp h1
      rw [decide_eq_true t1] at h out0
      repeat (first | (refine hP _ _ _ _ _ _ ?_; show P _ _ _ _ _ _) | refine hP _ _ _ _ _ _ (And.intro (hN _ _ _ rfl) ?_))
      rw [hw, nI_l (by omega)]
      refine hP _ _ _ _ _ _ (And.intro (fun h2 => ?_) (fun h2 => ?_))
      · have : ¬ w = lN c := fun z => h2 ((lg_cmp_eq _ _).mpr z)
        exact out0 (by rw [decide_eq_false this]; rfl)
      · have : w = lN c := (lg_cmp_eq _ _).mp h2
        rw [decide_eq_true this] at h
        repeat (first | (refine hP _ _ _ _ _ _ ?_; show P _ _ _ _ _ _) | refine hP _ _ _ _ _ _ (And.intro (hN _ _ _ rfl) ?_))
        refine hP _ _ _ _ _ _ (And.intro (Or.inr rfl) h)
theorem n_fail {d f : Nat} {S : St} {K : KT} (hd : 1 ≤ d) (h27 : S.1 40 0 27 = 0) (h24 : S.1 40 0 24 = nI f) (h : ∀ S', Ag mL S S' → S'.1 40 0 27 = 1 → S'.1 40 0 28 = nI f → K none S') : Call d m_X6_fail [aR 40 0] S K := by
  refine Call.of (k := 0) hd (fun e he P hP => ?_)
  have hN : True := trivial
  repeat (first | (refine hP _ _ _ _ _ _ ?_; show P _ _ _ _ _ _) | refine hP _ _ _ _ _ _ (And.intro (hN _ _ _ rfl) ?_))
  rw [h27]
  refine hP _ _ _ _ _ _ (And.intro (fun hc => absurd rfl hc) (fun _ => ?_))
  repeat (first | (refine hP _ _ _ _ _ _ ?_; show P _ _ _ _ _ _) | refine hP _ _ _ _ _ _ (And.intro (hN _ _ _ rfl) ?_))
  refine hP _ _ _ _ _ _ (And.intro (Or.inr rfl) ?_)
  have e : (ivSet S 40 0 27 1).1 40 0 24 = nI f := by rw [iv_ne (by omega)]; exact h24
  repeat (first | (refine hP _ _ _ _ _ _ ?_; show P _ _ _ _ _ _) | refine hP _ _ _ _ _ _ (And.intro (hN _ _ _ rfl) ?_))
  rw [e]
  exact hP _ _ _ _ _ _ (h _ ((Ag.ml (by omega) (by omega)).tr (Ag.ml (by omega) (by omega))) (by rw [iv_ne (by omega)]; exact iv_at) iv_at)
theorem n_fail1 {d : Nat} {S : St} {K : KT} (hd : 1 ≤ d) (h27 : S.1 40 0 27 = 1) (h : K none S) : Call d m_X6_fail [aR 40 0] S K := by
  refine Call.of (k := 0) hd (fun e he P hP => ?_)
  have hN : True := trivial
  repeat (first | (refine hP _ _ _ _ _ _ ?_; show P _ _ _ _ _ _) | refine hP _ _ _ _ _ _ (And.intro (hN _ _ _ rfl) ?_))
  rw [h27]
  refine hP _ _ _ _ _ _ (And.intro (fun _ => ?_) (fun hc => absurd hc (by decide)))
  exact hP _ _ _ _ _ _ (h)
