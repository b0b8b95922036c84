/-! The model's reader and the pure one: which token it is -/
theorem kwK_or (T : Tx) (s len : Nat) : ∀ l : List (List Nat × Nat), kwK T s len l = 1 ∨ ∃ a ∈ l, kwK T s len l = a.2 ∧ wdE T s len a.1 = true
  | [] => Or.inl rfl
  | a :: l => by
    simp only [kwK]
    by_cases h : wdE T s len a.1 = true
    · rw [if_pos h]
      exact Or.inr ⟨a, List.mem_cons_self, rfl, h⟩
    · rw [if_neg h]
      rcases kwK_or T s len l with e | ⟨b, hb, e⟩
      · exact Or.inl e
      · exact Or.inr ⟨b, List.mem_cons_of_mem _ hb, e⟩
theorem wdE_iff {T : Tx} {s len : Nat} {w : List Nat} : wdE T s len w = true ↔ len = w.length ∧ ∀ i, i < w.length → T.2 (s + i) = w.getD i 0 := by
  unfold wdE
  rw [Bool.and_eq_true, al_iff]
  simp only [decide_eq_true_eq]
theorem wdE_uq {T : Tx} {s len : Nat} {w u : List Nat} (h1 : wdE T s len w = true) (h2 : wdE T s len u = true) : w = u := by
  rw [wdE_iff] at h1 h2
  apply List.ext_getElem?
  intro i
  by_cases hi : i < w.length
  · have a := h1.2 i hi
    have b := h2.2 i (by omega)
    rw [a] at b
    have hi2 : i < u.length := by omega
    rw [List.getElem?_eq_getElem hi, List.getElem?_eq_getElem hi2]
    simp only [List.getD, List.getElem?_eq_getElem hi, List.getElem?_eq_getElem hi2, Option.getD_some] at b
    rw [b]
  · rw [List.getElem?_eq_none (by omega), List.getElem?_eq_none (by omega)]
theorem kwK_yes {T : Tx} {s len : Nat} : ∀ {l : List (List Nat × Nat)} {w : List Nat} {k : Nat}, (w, k) ∈ l → l.Pairwise (fun a b => a.1 ≠ b.1) → wdE T s len w = true → kwK T s len l = k
  | [], w, k, h, _, _ => absurd h List.not_mem_nil
  | a :: l, w, k, h, hp, hw => by
    simp only [kwK]
    rcases List.mem_cons.mp h with e | h2
    · rw [← e, if_pos hw]
    · have hne := (List.pairwise_cons.mp hp).1 _ h2
      rw [if_neg (fun z => hne (wdE_uq z hw))]
      exact kwK_yes h2 (List.pairwise_cons.mp hp).2 hw
theorem kwL_pw : kwL.Pairwise (fun a b => a.1 ≠ b.1) := by decide
theorem kwL_ky : ∀ a ∈ kwL, ∀ b ∈ kwL, a.2 = b.2 → a.1 = b.1 := by decide
theorem kwL_ge : ∀ a ∈ kwL, 200 ≤ a.2 ∧ a.1.length ≤ 8 ∧ (∀ x ∈ a.1, x ≠ 0 ∧ x ≤ 255) := by decide
theorem kwK_iff {T : Tx} {s len k : Nat} {w : List Nat} (h : (w, k) ∈ kwL) : kwK T s len kwL = k ↔ wdE T s len w = true := by
  constructor
  · intro e
    rcases kwK_or T s len kwL with e1 | ⟨a, ha, e1, e2⟩
    · have := (kwL_ge _ h).1
      simp only at this
      omega
    · have := kwL_ky a ha (w, k) h (by rw [← e1, e])
      have this : a.1 = w := this
      rw [← this]
      exact e2
  · exact kwK_yes h kwL_pw
theorem w8_iff {T : Tx} {s e : Nat} {c : Nat → Nat} : w8 T s e c = true ↔ e ≤ s + 8 ∧ ∀ i, i < 8 → lt8 T s e i (c i) = true := by
  unfold w8
  simp only [Bool.and_eq_true, decide_eq_true_eq]
  constructor
  · rintro ⟨h, h0, h1, h2, h3, h4, h5, h6, h7⟩
    refine ⟨h, fun i hi => ?_⟩
    rcases (show i = 0 ∨ i = 1 ∨ i = 2 ∨ i = 3 ∨ i = 4 ∨ i = 5 ∨ i = 6 ∨ i = 7 by omega) with rfl | rfl | rfl | rfl | rfl | rfl | rfl | rfl <;> assumption
  · rintro ⟨h, hi⟩
    exact ⟨h, hi 0 (by omega), hi 1 (by omega), hi 2 (by omega), hi 3 (by omega), hi 4 (by omega), hi 5 (by omega), hi 6 (by omega), hi 7 (by omega)⟩
theorem w8_wdE {T : Tx} {s e : Nat} {w : List Nat} (hse : s ≤ e) (hl : ∀ i, s ≤ i → i < e → T.2 i ≠ 0) (hw : w.length ≤ 8) (hw0 : ∀ i, i < w.length → w.getD i 0 ≠ 0) : w8 T s e (fun i => w.getD i 0) = true ↔ wdE T s (e - s) w = true := by
  have h0 : ∀ i, w.length ≤ i → w.getD i 0 = 0 := fun i hi => by simp [List.getD, List.getElem?_eq_none hi]
  rw [w8_iff, wdE_iff]
  constructor
  · rintro ⟨h8, h⟩
    have hlen : e - s = w.length := by
      rcases Nat.lt_trichotomy (e - s) w.length with hlt | heq | hgt
      · have := h (e - s) (by omega)
        unfold lt8 at this
        rw [if_neg (by omega), decide_eq_true_eq] at this
        exact absurd this (hw0 _ hlt)
      · exact heq
      · have := h w.length (by omega)
        unfold lt8 at this
        rw [if_pos (by omega), decide_eq_true_eq, h0 _ (Nat.le_refl _)] at this
        exact absurd this (hl _ (by omega) (by omega))
    refine ⟨hlen, fun i hi => ?_⟩
    have := h i (by omega)
    unfold lt8 at this
    rw [if_pos (by omega), decide_eq_true_eq] at this
    exact this
  · rintro ⟨hlen, h⟩
    refine ⟨by omega, fun i hi => ?_⟩
    unfold lt8
    by_cases hil : i < w.length
    · rw [if_pos (by omega), decide_eq_true_eq]
      exact h i hil
    · rw [if_neg (by omega), decide_eq_true_eq]
      exact h0 i (by omega)
theorem lt_dg {c : Nat} (h : isLt c = true) : isDg c = false := by
  simp only [isLt, decide_eq_true_eq] at h
  simp only [isDg, decide_eq_false_iff_not]
  omega
theorem kd_cases (T : Tx) (q : Nat) :
    (T.1 ≤ bg T q ∧ kd T q = 0 ∧ tkM T q = 0 ∧ nx T q = bg T q ∧ hrM T q = bg T q) ∨
    (bg T q < T.1 ∧ isLt (T.2 (bg T q)) = true ∧ kd T q = kwK T (bg T q) (lf isLt T (bg T q) - bg T q) kwL ∧ tkM T q = 1 ∧ nx T q = lf isLt T (bg T q) ∧ hrM T q = lf isLt T (bg T q)) ∨
    (bg T q < T.1 ∧ kd T q = 2 ∧ tkM T q = 2 ∧ hrM T q = nx T q) ∨
    (bg T q < T.1 ∧ kd T q = 1 ∧ tkM T q = 4) ∨
    (bg T q < T.1 ∧ isSg (T.2 (bg T q)) = true ∧ kd T q = T.2 (bg T q) ∧ tkM T q = 3 ∧ hrM T q = nx T q) := by
  unfold kd tkM nx hrM
  by_cases h0 : T.1 ≤ bg T q
  · left
    simp [h0]
  · right
    have hlt : bg T q < T.1 := by omega
    by_cases hl : isLt (T.2 (bg T q)) = true
    · left
      have hd := lt_dg hl
      simp [h0, hl, hd, hlt]
    · right
      by_cases hd : isDg (T.2 (bg T q)) = true
      · by_cases h4 : 4 < lf isDg T (bg T q) - bg T q
        · right; left
          simp [h0, hl, hd, hlt, h4]
        · left
          simp [h0, hl, hd, hlt, h4]
      · by_cases hs : isSg (T.2 (bg T q)) = true
        · right; right
          simp [h0, hl, hd, hlt, hs]
        · right; left
          simp [h0, hl, hd, hlt, hs]
theorem sg_rng {c : Nat} (h : isSg c = true) : 40 ≤ c ∧ c ≤ 61 := by
  simp only [isSg, decide_eq_true_eq] at h
  omega
theorem kwK_rng (T : Tx) (s len : Nat) : kwK T s len kwL = 1 ∨ 200 ≤ kwK T s len kwL := by
  rcases kwK_or T s len kwL with e | ⟨a, ha, e, -⟩
  · exact Or.inl e
  · rw [e]
    exact Or.inr (kwL_ge a ha).1
theorem kd_sg {T : Tx} {q c : Nat} (hc : isSg c = true) : (tkM T q = 3 ∧ T.2 (bg T q) = c) ↔ kd T q = c := by
  have hr := sg_rng hc
  rcases kd_cases T q with ⟨-, k, t, -⟩ | ⟨-, -, k, t, -⟩ | ⟨-, k, t, -⟩ | ⟨-, k, t⟩ | ⟨-, hs, k, t, -⟩
  · rw [k, t]; omega
  · rw [k, t]
    rcases kwK_rng T (bg T q) (lf isLt T (bg T q) - bg T q) with e | e <;> omega
  · rw [k, t]; omega
  · rw [k, t]; omega
  · rw [k, t]; omega
theorem kd_num {T : Tx} {q : Nat} : tkM T q = 2 ↔ kd T q = 2 := by
  rcases kd_cases T q with ⟨-, k, t, -⟩ | ⟨-, -, k, t, -⟩ | ⟨-, k, t, -⟩ | ⟨-, k, t⟩ | ⟨-, hs, k, t, -⟩
  · rw [k, t]
    try omega
  · rw [k, t]
    rcases kwK_rng T (bg T q) (lf isLt T (bg T q) - bg T q) with e | e <;> omega
  · rw [k, t]
  · rw [k, t]
    try omega
  · have := sg_rng hs
    rw [k, t]; omega
theorem kd_end {T : Tx} {q : Nat} : tkM T q = 0 ↔ kd T q = 0 := by
  rcases kd_cases T q with ⟨-, k, t, -⟩ | ⟨-, -, k, t, -⟩ | ⟨-, k, t, -⟩ | ⟨-, k, t⟩ | ⟨-, hs, k, t, -⟩
  · rw [k, t]
  · rw [k, t]
    rcases kwK_rng T (bg T q) (lf isLt T (bg T q) - bg T q) with e | e <;> omega
  · rw [k, t]
    try omega
  · rw [k, t]
    try omega
  · have := sg_rng hs
    rw [k, t]; omega
theorem kd_hr {T : Tx} {q : Nat} (h : kd T q ≠ 1) : hrM T q = nx T q := by
  rcases kd_cases T q with ⟨-, k, t, e1, e2⟩ | ⟨-, -, k, t, e1, e2⟩ | ⟨-, k, t, e⟩ | ⟨-, k, t⟩ | ⟨-, hs, k, t, e⟩
  · rw [e1, e2]
  · rw [e1, e2]
  · exact e
  · exact absurd k h
  · exact e
theorem tk_le (T : Tx) (q : Nat) : tkM T q ≤ 4 := by
  rcases kd_cases T q with ⟨-, k, t, -⟩ | ⟨-, -, k, t, -⟩ | ⟨-, k, t, -⟩ | ⟨-, k, t⟩ | ⟨-, hs, k, t, -⟩ <;> omega
theorem hr_le {T : Tx} {q : Nat} (hq : q ≤ T.1) : hrM T q ≤ T.1 := by
  have h1 := bg_le hq
  unfold hrM
  split
  · exact h1
  · split
    · exact lf_le _ T h1
    · split
      · exact lf_le _ T h1
      · split <;> omega
theorem kd_wd {T : Tx} {q k : Nat} {w : List Nat} (h : (w, k) ∈ kwL) : (decide (tkM T q = 1) && w8 T (bg T q) (hrM T q) (fun i => w.getD i 0)) = decide (kd T q = k) := by
  obtain ⟨g1, g2, g3⟩ := kwL_ge _ h
  simp only at g1 g2 g3
  have hw0 : ∀ i, i < w.length → w.getD i 0 ≠ 0 := by
    intro i hi
    have := (g3 (w[i]) (List.getElem_mem hi)).1
    simpa [List.getD, hi] using this
  rcases kd_cases T q with ⟨-, e, t, -⟩ | ⟨-, hl, e, t, -, er⟩ | ⟨-, e, t, -⟩ | ⟨-, e, t⟩ | ⟨-, hs, e, t, -⟩
  · rw [e, t, decide_eq_false (by omega), decide_eq_false (by omega)]; rfl
  · rw [t, er, decide_eq_true rfl, Bool.true_and]
    have h1 := w8_wdE (T := T) (s := bg T q) (e := lf isLt T (bg T q)) (w := w) (lf_ge _ _ _) (fun i h1 h2 => by
      have := lf_in _ (bg T q) rfl i h1 h2
      simp only [isLt, decide_eq_true_eq] at this
      omega) g2 hw0
    rw [← kwK_iff h, ← e] at h1
    cases hw : w8 T (bg T q) (lf isLt T (bg T q)) (fun i => w.getD i 0) with
    | true => exact (decide_eq_true (h1.mp hw)).symm
    | false => exact (decide_eq_false (fun z => by rw [h1.mpr z] at hw; cases hw)).symm
  · rw [e, t, decide_eq_false (by omega), decide_eq_false (by omega)]; rfl
  · rw [e, t, decide_eq_false (by omega), decide_eq_false (by omega)]; rfl
  · have := sg_rng hs
    rw [t, decide_eq_false (by omega), decide_eq_false (by omega)]; rfl
/-- the model reads text t: the token ahead is the one from q on, o are open, the names are N -/
def MS (S : St) (T : Tx) (t q o : Nat) (N : Nat → Int32) : Prop := MT1 S T t ∧ ML S T q ∧ q ≤ T.1 ∧ S.1 40 0 26 = nI o ∧ S.1 40 0 27 = 0 ∧ ∀ k, k < 6 → S.1 40 0 (14 + k) = N k
theorem m_next {d q o t : Nat} {S : St} {K : KT} {T : Tx} {N : Nat → Int32} (hd : 2 ≤ d) (hN : NN S) (hM : MS S T t q o N) (hk : kd T q ≠ 1) (h : ∀ S', Ag mL S S' → MS S' T t (nx T q) o N → K none S') : Call d m_X6_next [aR 40 0] S K := by
  obtain ⟨m1, m2, m3, m4, m5, m6⟩ := hM
  refine n_next hd hN m1 (nx_le m3) (by rw [m2.2.2.1, kd_hr hk]) (fun S' g1 h26 h27 hL => h S' g1 ⟨m1.ml g1, hL, nx_le m3, by rw [h26]; exact m4, by rw [h27]; exact m5, fun k hk => ?_⟩)
  rw [g1.1 40 0 _ (by simp [mL]; omega)]
  exact m6 k hk
theorem m_sign {d q o t c : Nat} {S : St} {K : KT} {T : Tx} {N : Nat → Int32} (hd : 1 ≤ d) (hM : MS S T t q o N) (hc : isSg c = true) (h : K (some (aI (b2 (decide (kd T q = c))))) S) : Call d m_X6_isSign [aR 40 0, aI (nI c)] S K := by
  obtain ⟨m1, m2, m3, m4, m5, m6⟩ := hM
  have hr := sg_rng hc
  refine n_isSign (t := 0) hd m2.2.1 (tk_le T q) (b := false) m5 (by omega) rfl ?_
  have e : (!false && (decide (tkM T q = 3) && decide (S.2.1 = lN c))) = decide (kd T q = c) := by
    rw [show decide (kd T q = c) = decide (tkM T q = 3 ∧ T.2 (bg T q) = c) from (decide_eq_decide.mpr (kd_sg (T := T) (q := q) hc)).symm]
    by_cases ht : tkM T q = 3
    · have hb : T.2 (bg T q) ≤ 255 := by
        rcases kd_cases T q with ⟨-, k, t', -⟩ | ⟨-, -, k, t', -⟩ | ⟨-, k, t', -⟩ | ⟨-, k, t'⟩ | ⟨hl, hs, k, t', -⟩
        · omega
        · omega
        · omega
        · omega
        · exact (m1.1.2.2 _ hl).2
      rw [m2.2.2.2.2 ht]
      have : (lN (T.2 (bg T q)) = lN c) ↔ T.2 (bg T q) = c := lN_eq (by omega) (by omega)
      simp [ht, this]
    · simp [ht]
  rw [e]
  exact h
theorem m_word {d q o t k : Nat} {S : St} {K : KT} {T : Tx} {N : Nat → Int32} {w : List Nat} (hd : 3 ≤ d) (hN : NN S) (hM : MS S T t q o N) (hw : (w, k) ∈ kwL) (h : K (some (aI (b2 (decide (kd T q = k))))) S) : Call d m_X6_isWord [aR 40 0, aI (nI (w.getD 0 0)), aI (nI (w.getD 1 0)), aI (nI (w.getD 2 0)), aI (nI (w.getD 3 0)), aI (nI (w.getD 4 0)), aI (nI (w.getD 5 0)), aI (nI (w.getD 6 0)), aI (nI (w.getD 7 0))] S K := by
  obtain ⟨m1, m2, m3, m4, m5, m6⟩ := hM
  have h160 := m1.1.2.1
  have hbl := bg_le m3
  refine n_isWord0 (c := fun i => w.getD i 0) hd hN m1 (hr_le m3) (fun i => ?_) m2.1 m2.2.2.1 m2.2.1 (tk_le T q) (b := false) m5 (by omega) ?_
  · by_cases hi : i < w.length
    · have := ((kwL_ge _ hw).2.2 (w[i]) (List.getElem_mem hi)).2
      simpa [List.getD, hi] using this
    · simp [List.getD, List.getElem?_eq_none (show w.length ≤ i by omega)]
  · rw [kd_wd hw, Bool.not_false, Bool.true_and]
    exact h
theorem b_sign {d : Nat} {S : St} {K : KT} {x : Int32} (hd : 1 ≤ d) (h27 : S.1 40 0 27 = 1) (h : K (some (aI 0)) S) : Call d m_X6_isSign [aR 40 0, aI x] S K := by
  refine Call.of (k := 0) hd (fun e he P hP => ?_)
  have hN : True := trivial
  repeat (first | (refine hP _ _ _ _ _ _ ?_; show P _ _ _ _ _ _) | refine hP _ _ _ _ _ _ (And.intro (hN _ _ _ rfl) ?_))
  rw [h27]
  refine hP _ _ _ _ _ _ (And.intro (fun _ => ?_) (fun hc => absurd hc (by decide)))
  repeat (first | (refine hP _ _ _ _ _ _ ?_; show P _ _ _ _ _ _) | refine hP _ _ _ _ _ _ (And.intro (hN _ _ _ rfl) ?_))
  refine hP _ _ _ _ _ _ (And.intro (Or.inl rfl) h)
theorem b_word {d : Nat} {S : St} {K : KT} {x1 x2 x3 x4 x5 x6 x7 x8 : Int32} (hd : 1 ≤ d) (h27 : S.1 40 0 27 = 1) (h : K (some (aI 0)) S) : Call d m_X6_isWord [aR 40 0, aI x1, aI x2, aI x3, aI x4, aI x5, aI x6, aI x7, aI x8] S K := by
  refine Call.of (k := 0) hd (fun e he P hP => ?_)
  have hN : True := trivial
  repeat (first | (refine hP _ _ _ _ _ _ ?_; show P _ _ _ _ _ _) | refine hP _ _ _ _ _ _ (And.intro (hN _ _ _ rfl) ?_))
  rw [h27]
  refine hP _ _ _ _ _ _ (And.intro (fun _ => ?_) (fun hc => absurd hc (by decide)))
  repeat (first | (refine hP _ _ _ _ _ _ ?_; show P _ _ _ _ _ _) | refine hP _ _ _ _ _ _ (And.intro (hN _ _ _ rfl) ?_))
  refine hP _ _ _ _ _ _ (And.intro (Or.inl rfl) h)
theorem m_opens {d q o t : Nat} {S : St} {K : KT} {T : Tx} {N : Nat → Int32} (hd : 3 ≤ d) (ho : o ≤ 5) (hN : NN S) (hM : MS S T t q o N) (hk : kd T q ≠ 1) (h1 : ¬ 5 ≤ o → ∀ S', Ag mL S S' → MS S' T t (nx T q) (o + 1) N → K (some (aI 1)) S') (h0 : 5 ≤ o → ∀ S', Ag mL S S' → S'.1 40 0 27 = 1 → S'.1 40 0 28 = nI (bg T q) → K (some (aI 0)) S') : Call d m_X6_opens [aR 40 0] S K := by
  refine Call.of (k := 2) hd (fun e he P hP => ?_)
  obtain ⟨m1, m2, m3, m4, m5, m6⟩ := id hM
  repeat (first | (refine hP _ _ _ _ _ _ ?_; show P _ _ _ _ _ _) | (refine hP _ _ _ _ _ _ (And.intro (hN _ _ _ rfl) ?_); show P _ _ (aR _ _ :: _) _ _ _))
  rw [m4]
  refine hP _ _ _ _ _ _ (And.intro (fun hc => ?_) (fun hc => ?_))
  · have h5 : ¬ 5 ≤ o := fun z => hc (by rw [show o = 5 by omega]; rfl)
    repeat (first | (refine hP _ _ _ _ _ _ ?_; show P _ _ _ _ _ _) | (refine hP _ _ _ _ _ _ (And.intro (hN _ _ _ rfl) ?_); show P _ _ (aR _ _ :: _) _ _ _))
    rw [m4, nI_1]
    show P _ _ _ (ivSet S 40 0 26 (nI (o + 1))) _ _
    have g2 : Ag mL S (ivSet S 40 0 26 (nI (o + 1))) := Ag.ml (by omega) (by omega)
    have hM2 : MS (ivSet S 40 0 26 (nI (o + 1))) T t q (o + 1) N := by
      refine ⟨m1.ml g2, ⟨?_, ?_, ?_, m2.2.2.2.1, m2.2.2.2.2⟩, m3, iv_at, ?_, fun k hk => ?_⟩
      · rw [iv_ne (by omega)]; exact m2.1
      · rw [iv_ne (by omega)]; exact m2.2.1
      · rw [iv_ne (by omega)]; exact m2.2.2.1
      · rw [iv_ne (by omega)]; exact m5
      · rw [iv_ne (by omega)]; exact m6 k hk
    generalize ivSet S 40 0 26 (nI (o + 1)) = S2 at g2 hM2 ⊢
    repeat (first | (refine hP _ _ _ _ _ _ ?_; show P _ _ _ _ _ _) | (refine hP _ _ _ _ _ _ (And.intro (hN _ _ _ rfl) ?_); show P _ _ (aR _ _ :: _) _ _ _))
    refine hP _ _ _ _ _ _ (m_next (by omega) (hN.up g2) hM2 hk (fun S3 g3 hM3 => ?_))
    repeat (first | (refine hP _ _ _ _ _ _ ?_; show P _ _ _ _ _ _) | (refine hP _ _ _ _ _ _ (And.intro (hN _ _ _ rfl) ?_); show P _ _ (aR _ _ :: _) _ _ _))
    refine hP _ _ _ _ _ _ (And.intro (Or.inr rfl) (h1 h5 S3 (g2.tr g3) hM3))
  · have h5 : o = 5 := (nI_eq (b := 5) (by omega) (by omega)).mp hc
    repeat (first | (refine hP _ _ _ _ _ _ ?_; show P _ _ _ _ _ _) | (refine hP _ _ _ _ _ _ (And.intro (hN _ _ _ rfl) ?_); show P _ _ (aR _ _ :: _) _ _ _))
    refine hP _ _ _ _ _ _ (n_fail (by omega) m5 m2.1 (fun S3 g3 e27 e28 => ?_))
    repeat (first | (refine hP _ _ _ _ _ _ ?_; show P _ _ _ _ _ _) | (refine hP _ _ _ _ _ _ (And.intro (hN _ _ _ rfl) ?_); show P _ _ (aR _ _ :: _) _ _ _))
    refine hP _ _ _ _ _ _ (And.intro (Or.inl rfl) (h0 (by omega) S3 g3 e27 e28))
