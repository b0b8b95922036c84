/-! sheet, cell, film, copy -/
def wSH : WW := fun j _ _ => j = 4 ∨ j = 5 ∨ j = 20 ∨ j = 21
def mSH : WW := fun j _ k => (j = 40 ∧ 14 ≤ k ∧ k ≤ 28) ∨ (55 ≤ j ∧ j ≤ 58)
theorem TT.sh2 {S S1 S2 : St} {F : Fl} {I : Option Fl} {sh sh' : Shs} {T : Tx} {nT : Nat} {tb : Nat → Tx} (h : TT S F I sh T nT tb) (h1 : Ag wSH S S1) (hc : SHc S1 sh') (h2 : Ag mSH S1 S2) (hm : SHm S2 sh') : TT S2 F I sh' T nT tb := by
  obtain ⟨t1, t2, t3, t4, t5⟩ := h
  refine ⟨(t1.up h1).up h2, t2, by rw [h2.2, h1.2]; exact t3, ?_, ?_⟩
  · obtain ⟨c1, c2, c3, c4, c5, c6, c7⟩ := t4
    have : CR S1 F I sh' T nT tb := ⟨c1.ag h1 (fun j g k z => by simp only [wSH] at z; omega), c2.up h1 (fun j g k z => by simp only [wSH] at z; omega), c3.up h1 (fun j k z => by simp only [wSH] at z; omega), c4.up h1 (fun j k z => by simp only [wSH] at z; omega), c5.up h1 (fun j g k z => by simp only [wSH] at z; omega), hc, c7.up h1 (fun k => by simp [wSH])⟩
    exact this.mo (h2.mono (fun j g k z => by simp only [mSH] at z; simp only [wMo]; omega))
  · obtain ⟨m1, m2, m3, m4, m5, m6⟩ := t5.ac h1 (fun j g k z => by simp only [wSH] at z; omega)
    exact ⟨m1.up (fun j g k a b c => h2.1 j g k (by simp only [mSH]; omega)), fun k hk => by rw [h2.1 47 0 k (by simp [mSH])]; exact m2 k hk, m3.up h2 (fun j g k z => by simp only [mSH] at z; omega), m4.up (fun j g k a => h2.1 j g k (by simp only [mSH]; omega)), hm, m6.up (fun j g k a => h2.1 j g k (by simp only [mSH]; omega))⟩
def upS (sh : Shs) (g : Nat) (v : Nat × Nat × (Nat → Int32)) : Shs := fun i => if i = g then v else sh i
theorem upS_at {sh : Shs} {g : Nat} {v : Nat × Nat × (Nat → Int32)} : upS sh g v g = v := if_pos rfl
theorem upS_ne {sh : Shs} {g i : Nat} {v : Nat × Nat × (Nat → Int32)} (h : ¬ i = g) : upS sh g v i = sh i := if_neg h
def wS1 (g : Nat) : WW := fun j i _ => i = g ∧ (j = 20 ∨ j = 21)
def mS1 (g : Nat) : WW := fun j _ k => (55 ≤ j ∧ j ≤ 57 ∧ k = g) ∨ (j = 58 ∧ 40 * g ≤ k ∧ k < 40 * g + 40)
theorem SHc.set {S S' : St} {sh : Shs} {g : Nat} {v : Nat × Nat × (Nat → Int32)} {W : WW} (h : SHc S sh) (h1 : Ag W S S') (hw : ∀ j i k, W j i k → ¬ i = g → ¬ (j = 20 ∨ j = 21)) (h2 : S'.1 20 g 0 = nI v.1 - 1 ∧ v.1 ≤ 3 ∧ S'.1 20 g 1 = nI v.2.1 ∧ v.2.1 ≤ 40 ∧ ∀ k, k < v.2.1 → S'.1 21 g k = v.2.2 k) : SHc S' (upS sh g v) := by
  intro i hi
  by_cases e : i = g
  · rw [e, upS_at]
    exact h2
  · rw [upS_ne e]
    obtain ⟨a1, a2, a3, a4, a5⟩ := h i hi
    refine ⟨?_, a2, ?_, a4, fun k hk => ?_⟩
    · rw [h1.1 20 i 0 (fun z => hw _ _ _ z e (by omega))]; exact a1
    · rw [h1.1 20 i 1 (fun z => hw _ _ _ z e (by omega))]; exact a3
    · rw [h1.1 21 i k (fun z => hw _ _ _ z e (by omega))]; exact a5 k hk
theorem SHm.set {S S' : St} {sh : Shs} {g : Nat} {v : Nat × Nat × (Nat → Int32)} {W : WW} (h : SHm S sh) (hc : ∀ i, i < 4 → (sh i).2.1 ≤ 40) (h1 : Ag W S S') (hw : ∀ j i k, W j i k → ¬ (55 ≤ j ∧ j ≤ 57 ∧ ¬ k = g) ∧ ¬ (j = 58 ∧ (k < 40 * g ∨ 40 * g + 40 ≤ k))) (h2 : (S'.1 55 0 g = if v.1 = 0 then 0 else 1) ∧ (v.1 ≠ 0 → S'.1 56 0 g = nI v.1 - 1 ∧ S'.1 57 0 g = nI v.2.1 ∧ ∀ k, k < v.2.1 → S'.1 58 0 (40 * g + k) = v.2.2 k)) : SHm S' (upS sh g v) := by
  intro i hi
  by_cases e : i = g
  · rw [e, upS_at]
    exact h2
  · rw [upS_ne e]
    obtain ⟨a1, a2⟩ := h i hi
    have hs := hc i hi
    refine ⟨by rw [h1.1 55 0 i (fun z => (hw _ _ _ z).1 ⟨by omega, by omega, e⟩)]; exact a1, fun hn => ?_⟩
    obtain ⟨b1, b2', b3⟩ := a2 hn
    refine ⟨?_, ?_, fun k hk => ?_⟩
    · rw [h1.1 56 0 i (fun z => (hw _ _ _ z).1 ⟨by omega, by omega, e⟩)]; exact b1
    · rw [h1.1 57 0 i (fun z => (hw _ _ _ z).1 ⟨by omega, by omega, e⟩)]; exact b2'
    · rw [h1.1 58 0 _ (fun z => (hw _ _ _ z).2 ⟨rfl, by omega⟩)]; exact b3 k hk
theorem b2_01 (w : Bool) : b2 w = 0 ∨ b2 w = 1 := by
  cases w
  · exact Or.inl rfl
  · exact Or.inr rfl
theorem c_isSheet {d : Nat} {S : St} {K : KT} {x : Int32} (hd : 1 ≤ d) (h : K (some (aI (b2 (isD 4 x)))) S) : Call d m_X5_isSheet [aI x] S K := by
  refine Call.of (k := 0) hd (fun e he P hP => ?_)
  have hN : True := trivial
  repeat (first | (refine hP _ _ _ _ _ _ ?_; show P _ _ _ _ _ _) | refine hP _ _ _ _ _ _ (And.intro (hN _ _ _ rfl) ?_))
  rcases rng (x := x) (n := 4) (by omega) with ⟨hf, h0 | ⟨h0, h1⟩⟩ | ⟨k, hk, hf, rfl⟩
  · rw [hf] at h
    refine hP _ _ _ _ _ _ (And.intro (fun _ => ?_) (fun hc => absurd h0 hc))
    repeat (first | (refine hP _ _ _ _ _ _ ?_; show P _ _ _ _ _ _) | refine hP _ _ _ _ _ _ (And.intro (hN _ _ _ rfl) ?_))
    refine hP _ _ _ _ _ _ (And.intro (Or.inl rfl) h)
  · rw [hf] at h
    refine hP _ _ _ _ _ _ (And.intro (fun hc => absurd hc h0) (fun _ => ?_))
    repeat (first | (refine hP _ _ _ _ _ _ ?_; show P _ _ _ _ _ _) | refine hP _ _ _ _ _ _ (And.intro (hN _ _ _ rfl) ?_))
    refine hP _ _ _ _ _ _ (And.intro (fun _ => ?_) (fun hc => absurd h1 hc))
    repeat (first | (refine hP _ _ _ _ _ _ ?_; show P _ _ _ _ _ _) | refine hP _ _ _ _ _ _ (And.intro (hN _ _ _ rfl) ?_))
    refine hP _ _ _ _ _ _ (And.intro (Or.inl rfl) h)
  · rw [hf] at h
    refine hP _ _ _ _ _ _ (And.intro (fun hc => absurd hc (nI_pos (by omega))) (fun _ => ?_))
    repeat (first | (refine hP _ _ _ _ _ _ ?_; show P _ _ _ _ _ _) | refine hP _ _ _ _ _ _ (And.intro (hN _ _ _ rfl) ?_))
    refine hP _ _ _ _ _ _ (And.intro (fun hc => absurd hc (nI_ge (b := 4) hk (by omega))) (fun _ => ?_))
    repeat (first | (refine hP _ _ _ _ _ _ ?_; show P _ _ _ _ _ _) | refine hP _ _ _ _ _ _ (And.intro (hN _ _ _ rfl) ?_))
    refine hP _ _ _ _ _ _ (And.intro (Or.inr rfl) h)
theorem c_isSort {d : Nat} {S : St} {K : KT} {x : Int32} (hd : 1 ≤ d) (h : K (some (aI (b2 (isD 3 x)))) S) : Call d m_X5_isSort [aI x] S K := by
  refine Call.of (k := 0) hd (fun e he P hP => ?_)
  have hN : True := trivial
  repeat (first | (refine hP _ _ _ _ _ _ ?_; show P _ _ _ _ _ _) | refine hP _ _ _ _ _ _ (And.intro (hN _ _ _ rfl) ?_))
  rcases rng (x := x) (n := 3) (by omega) with ⟨hf, h0 | ⟨h0, h1⟩⟩ | ⟨k, hk, hf, rfl⟩
  · rw [hf] at h
    refine hP _ _ _ _ _ _ (And.intro (fun _ => ?_) (fun hc => absurd h0 hc))
    repeat (first | (refine hP _ _ _ _ _ _ ?_; show P _ _ _ _ _ _) | refine hP _ _ _ _ _ _ (And.intro (hN _ _ _ rfl) ?_))
    refine hP _ _ _ _ _ _ (And.intro (Or.inl rfl) h)
  · rw [hf] at h
    refine hP _ _ _ _ _ _ (And.intro (fun hc => absurd hc h0) (fun _ => ?_))
    repeat (first | (refine hP _ _ _ _ _ _ ?_; show P _ _ _ _ _ _) | refine hP _ _ _ _ _ _ (And.intro (hN _ _ _ rfl) ?_))
    refine hP _ _ _ _ _ _ (And.intro (fun _ => ?_) (fun hc => absurd (gtK h1 (by decide)) hc))
    repeat (first | (refine hP _ _ _ _ _ _ ?_; show P _ _ _ _ _ _) | refine hP _ _ _ _ _ _ (And.intro (hN _ _ _ rfl) ?_))
    refine hP _ _ _ _ _ _ (And.intro (Or.inl rfl) h)
  · rw [hf] at h
    refine hP _ _ _ _ _ _ (And.intro (fun hc => absurd hc (nI_pos (by omega))) (fun _ => ?_))
    repeat (first | (refine hP _ _ _ _ _ _ ?_; show P _ _ _ _ _ _) | refine hP _ _ _ _ _ _ (And.intro (hN _ _ _ rfl) ?_))
    refine hP _ _ _ _ _ _ (And.intro (fun hc => absurd hc (nI_nlt (a := 2) (b := k) (by omega) (by omega))) (fun _ => ?_))
    repeat (first | (refine hP _ _ _ _ _ _ ?_; show P _ _ _ _ _ _) | refine hP _ _ _ _ _ _ (And.intro (hN _ _ _ rfl) ?_))
    refine hP _ _ _ _ _ _ (And.intro (Or.inr rfl) h)
theorem n_isSheet {d : Nat} {S : St} {K : KT} {x : Int32} (hd : 2 ≤ d) (h : K (some (aI (b2 (isD 4 x)))) S) : Call d m_X6_isSheet [aI x] S K := by
  refine Call.of (k := 1) hd (fun e he P hP => ?_)
  have hN : True := trivial
  repeat (first | (refine hP _ _ _ _ _ _ ?_; show P _ _ _ _ _ _) | refine hP _ _ _ _ _ _ (And.intro (hN _ _ _ rfl) ?_))
  refine hP _ _ _ _ _ _ (n_in0 (m := 3) (by omega) (by omega) ?_)
  repeat (first | (refine hP _ _ _ _ _ _ ?_; show P _ _ _ _ _ _) | refine hP _ _ _ _ _ _ (And.intro (hN _ _ _ rfl) ?_))
  refine hP _ _ _ _ _ _ (And.intro (b2_01 _) h)
theorem n_inM {d : Nat} {S : St} {K : KT} {x : Int32} (hd : 1 ≤ d) (h : K (some (aI (b2 (decide (x = -1) || isD 3 x)))) S) : Call d m_X6_in [aL x.toInt64, aL (-1), aL (lN 2)] S K := by
  refine n_in hd ?_
  have e : (decide ((-1 : Int64) ≤ x.toInt64) && decide (x.toInt64 ≤ lN 2)) = (decide (x = -1) || isD 3 x) := by
    have h1 : ((-1 : Int64) ≤ x.toInt64) ↔ -1 ≤ x.toInt := by
      rw [Int64.le_iff_toInt_le, Int32.toInt_toInt64]
      rfl
    have h2 : (x.toInt64 ≤ lN 2) ↔ x.toInt ≤ 2 := by
      rw [Int64.le_iff_toInt_le, Int32.toInt_toInt64, lN_toInt (by omega)]
      rfl
    have h3 : (0 ≤ x) ↔ 0 ≤ x.toInt := by
      rw [Int32.le_iff_toInt_le]
      rfl
    have h4 : (x < nI 3) ↔ x.toInt < 3 := by
      rw [Int32.lt_iff_toInt_lt, nI_toInt (by omega)]
      rfl
    have h5 : (x = -1) ↔ x.toInt = -1 := by
      rw [← Int32.toInt_inj]
      rfl
    rw [Bool.eq_iff_iff]
    simp only [Bool.and_eq_true, Bool.or_eq_true, decide_eq_true_eq, isD, h1, h2, h3, h4, h5]
    omega
  rw [e]
  exact h
theorem c_become {d g : Nat} {S : St} {K : KT} {s n : Int32} (hd : 1 ≤ d) (hN : NN S) (h : ∀ S', Ag (wS1 g) S S' → S'.1 20 g 0 = s → S'.1 20 g 1 = n → (∀ k, k < 40 → S'.1 21 g k = 0) → K none S') : Call d m_X3_become [aR 20 g, aI s, aI n] S K := by
  refine Call.of (k := 0) hd (fun e he P hP => ?_)
  have hN0 := hN
  have e0 : (ivSet (ivSet S 20 g 0 s) 20 g 1 n).1 20 g 0 = s := by rw [iv_ne (by omega), iv_at]
  have e1 : (ivSet (ivSet S 20 g 0 s) 20 g 1 n).1 20 g 1 = n := iv_at
  have g0 : Ag (wS1 g) S (ivSet (ivSet S 20 g 0 s) 20 g 1 n) := (Ag.iv ⟨rfl, Or.inl rfl⟩).tr (Ag.iv ⟨rfl, Or.inl rfl⟩)
  have loop : ∀ k, k ≤ 40 → ∀ S1, Ag (fun j i k => i = g ∧ j = 21) (ivSet (ivSet S 20 g 0 s) 20 g 1 n) S1 → (∀ m, m < k → S1.1 21 g m = 0) → P 18 [some (aR 20 g), some (aI s), some (aI n), some (aI (nI k))] [aI (nI 40), aI (nI k)] S1 0 0 := by
    refine dn ?_ ?_
    · intro S1 g1 a1
      refine hP _ _ _ _ _ _ (And.intro (fun _ => ?_) (fun hc => absurd (nI_le (Nat.le_refl 40) (by decide)) hc))
      repeat (first | (refine hP _ _ _ _ _ _ ?_; show P _ _ _ _ _ _) | (refine hP _ _ _ _ _ _ (And.intro (hN _ _ _ rfl) ?_); show P _ _ (aR _ _ :: _) _ _ _))
      exact hP _ _ _ _ _ _ (h S1 (g0.tr (g1.mono (fun j i k z => ⟨z.1, Or.inr z.2⟩))) (by rw [g1.1 20 g 0 (by simp)]; exact e0) (by rw [g1.1 20 g 1 (by simp)]; exact e1) a1)
    · intro k hk ih S1 g1 a1
      have hN := (hN0.up g0).up g1
      rw [nI_succ k] at ih
      refine hP _ _ _ _ _ _ (And.intro (fun hc => absurd hc (nI_ge hk (by decide))) (fun _ => ?_))
      repeat (first | (refine hP _ _ _ _ _ _ ?_; show P _ _ _ _ _ _) | (refine hP _ _ _ _ _ _ (And.intro (hN _ _ _ rfl) ?_); show P _ _ (aR _ _ :: _) _ _ _))
      refine hP _ _ _ _ _ _ (Exists.intro (k) (And.intro (And.intro (rfl) (show k < 40 from hk)) ?_))
      show P _ _ _ (ivSet S1 21 g k 0) _ _
      have := ih (ivSet S1 21 g k 0) (g1.tr (Ag.iv ⟨rfl, rfl⟩)) (fun m hm => by
        by_cases e : m = k
        · rw [e, iv_at]
        · rw [iv_ne (by omega)]
          exact a1 m (by omega))
      repeat (first | (refine hP _ _ _ _ _ _ ?_; show P _ _ _ _ _ _) | (refine hP _ _ _ _ _ _ (And.intro (hN _ _ _ rfl) ?_); show P _ _ (aR _ _ :: _) _ _ _))
      exact this
  repeat (first | (refine hP _ _ _ _ _ _ ?_; show P _ _ _ _ _ _) | (refine hP _ _ _ _ _ _ (And.intro (hN _ _ _ rfl) ?_); show P _ _ (aR _ _ :: _) _ _ _))
  exact loop 0 (by omega) _ (Ag.rf _ _) (fun m hm => by omega)
theorem nn18 {g : Nat} (h : g < 4) : nnr 18 g = true := by
  rcases (show g = 0 ∨ g = 1 ∨ g = 2 ∨ g = 3 by omega) with rfl | rfl | rfl | rfl <;> rfl
theorem jx40 (g k : Nat) : (40 : Int32) * nI g + nI k = nI (40 * g + k) := by
  rw [show (40 : Int32) = nI 40 from rfl, pk_mul, nI_add]
/-- the model's sheet(), when it becomes one -/
theorem n_sheetx {d g u m : Nat} {S : St} {K : KT} (hd : 3 ≤ d) (hN : NN S) (hg : g < 4) (hu : u < 3) (hm : m ≤ 40) (h : ∀ S', Ag (mS1 g) S S' → S'.1 55 0 g = 1 → S'.1 56 0 g = nI u → S'.1 57 0 g = nI m → (∀ k, k < m → S'.1 58 0 (40 * g + k) = 0) → K (some (aI 1)) S') : Call d m_X6_sheet [aR 40 0, aI (nI g), aI (nI u), aI (nI m)] S K := by
  refine Call.of (k := 2) hd (fun e he P hP => ?_)
  have hN0 := hN
  repeat (first | (refine hP _ _ _ _ _ _ ?_; show P _ _ _ _ _ _) | (refine hP _ _ _ _ _ _ (And.intro (hN _ _ _ rfl) ?_); show P _ _ (aR _ _ :: _) _ _ _))
  refine hP _ _ _ _ _ _ (n_isSheet (by omega) ?_)
  rw [isD_N (by omega) (by omega), decide_eq_true hg]
  repeat (first | (refine hP _ _ _ _ _ _ ?_; show P _ _ _ _ _ _) | (refine hP _ _ _ _ _ _ (And.intro (hN _ _ _ rfl) ?_); show P _ _ (aR _ _ :: _) _ _ _) | refine hP _ _ _ _ _ _ (And.intro (fun _ => ?_) (fun hc => absurd hc (by decide))) | refine hP _ _ _ _ _ _ (And.intro (fun hc => absurd hc (by decide)) (fun _ => ?_)))
  refine hP _ _ _ _ _ _ (n_inM (by omega) ?_)
  rw [isD_N (by omega) (by omega), decide_eq_true hu, Bool.or_true]
  repeat (first | (refine hP _ _ _ _ _ _ ?_; show P _ _ _ _ _ _) | (refine hP _ _ _ _ _ _ (And.intro (hN _ _ _ rfl) ?_); show P _ _ (aR _ _ :: _) _ _ _) | refine hP _ _ _ _ _ _ (And.intro (fun _ => ?_) (fun hc => absurd hc (by decide))) | refine hP _ _ _ _ _ _ (And.intro (fun hc => absurd hc (by decide)) (fun _ => ?_)))
  refine hP _ _ _ _ _ _ (And.intro (fun hc => absurd hc (nI_pos (by omega))) (fun _ => ?_))
  repeat (first | (refine hP _ _ _ _ _ _ ?_; show P _ _ _ _ _ _) | (refine hP _ _ _ _ _ _ (And.intro (hN _ _ _ rfl) ?_); show P _ _ (aR _ _ :: _) _ _ _))
  refine hP _ _ _ _ _ _ (And.intro (fun _ => ?_) (fun hc => absurd (nI_le (a := m) (b := 40) hm (by omega)) hc))
  repeat (first | (refine hP _ _ _ _ _ _ ?_; show P _ _ _ _ _ _) | (refine hP _ _ _ _ _ _ (And.intro (hN _ _ _ rfl) ?_); show P _ _ (aR _ _ :: _) _ _ _))
  refine hP _ _ _ _ _ _ (And.intro (fun hc => absurd hc (nI_pos (by omega))) (fun _ => ?_))
  repeat (first | (refine hP _ _ _ _ _ _ ?_; show P _ _ _ _ _ _) | (refine hP _ _ _ _ _ _ (And.intro (hN _ _ _ rfl) ?_); show P _ _ (aR _ _ :: _) _ _ _))
  refine hP _ _ _ _ _ _ (And.intro (fun _ => ?_) (fun hc => absurd (nI_pos' (by omega)) hc))
  repeat (first | (refine hP _ _ _ _ _ _ ?_; show P _ _ _ _ _ _) | (refine hP _ _ _ _ _ _ (And.intro (hN _ _ _ rfl) ?_); show P _ _ (aR _ _ :: _) _ _ _))
  refine hP _ _ _ _ _ _ (And.intro (fun hc => absurd hc (nI_pos (by omega))) (fun _ => ?_))
  repeat (first | (refine hP _ _ _ _ _ _ ?_; show P _ _ _ _ _ _) | (refine hP _ _ _ _ _ _ (And.intro (hN _ _ _ rfl) ?_); show P _ _ (aR _ _ :: _) _ _ _))
  refine hP _ _ _ _ _ _ (Exists.intro (g) (And.intro (And.intro (rfl) (show g < 4 from hg)) ?_))
  refine And.intro (Or.inr rfl) ?_
  repeat (first | (refine hP _ _ _ _ _ _ ?_; show P _ _ _ _ _ _) | (refine hP _ _ _ _ _ _ (And.intro (hN _ _ _ rfl) ?_); show P _ _ (aR _ _ :: _) _ _ _))
  refine hP _ _ _ _ _ _ (Exists.intro (g) (And.intro (And.intro (rfl) (show g < 4 from hg)) ?_))
  repeat (first | (refine hP _ _ _ _ _ _ ?_; show P _ _ _ _ _ _) | (refine hP _ _ _ _ _ _ (And.intro (hN _ _ _ rfl) ?_); show P _ _ (aR _ _ :: _) _ _ _))
  refine hP _ _ _ _ _ _ (Exists.intro (g) (And.intro (And.intro (rfl) (show g < 4 from hg)) ?_))
  show P _ _ _ (ivSet (ivSet (ivSet S 55 0 g 1) 56 0 g (nI u)) 57 0 g (nI m)) _ _
  have g0 : Ag (mS1 g) S (ivSet (ivSet (ivSet S 55 0 g 1) 56 0 g (nI u)) 57 0 g (nI m)) := ((Ag.iv (Or.inl ⟨by omega, by omega, rfl⟩)).tr (Ag.iv (Or.inl ⟨by omega, by omega, rfl⟩))).tr (Ag.iv (Or.inl ⟨by omega, by omega, rfl⟩))
  have c1 : (ivSet (ivSet (ivSet S 55 0 g 1) 56 0 g (nI u)) 57 0 g (nI m)).1 55 0 g = 1 := by rw [iv_ne (by omega), iv_ne (by omega), iv_at]
  have c2 : (ivSet (ivSet (ivSet S 55 0 g 1) 56 0 g (nI u)) 57 0 g (nI m)).1 56 0 g = nI u := by rw [iv_ne (by omega), iv_at]
  have c3 : (ivSet (ivSet (ivSet S 55 0 g 1) 56 0 g (nI u)) 57 0 g (nI m)).1 57 0 g = nI m := iv_at
  generalize ivSet (ivSet (ivSet S 55 0 g 1) 56 0 g (nI u)) 57 0 g (nI m) = S0 at g0 c1 c2 c3 ⊢
  have loop : ∀ k, k ≤ m → ∀ S1, Ag (fun j _ i => j = 58 ∧ 40 * g ≤ i ∧ i < 40 * g + 40) S0 S1 → (∀ q, q < k → S1.1 58 0 (40 * g + q) = 0) → P 80 [some (aR 40 0), some (aI (nI g)), some (aI (nI u)), some (aI (nI m)), some (aI (nI k))] [aI (nI m), aI (nI k)] S1 0 0 := by
    refine dn ?_ ?_
    · intro S1 g1 a1
      refine hP _ _ _ _ _ _ (And.intro (fun _ => ?_) (fun hc => absurd (nI_le (Nat.le_refl m) (by omega)) hc))
      repeat (first | (refine hP _ _ _ _ _ _ ?_; show P _ _ _ _ _ _) | (refine hP _ _ _ _ _ _ (And.intro (hN _ _ _ rfl) ?_); show P _ _ (aR _ _ :: _) _ _ _))
      exact hP _ _ _ _ _ _ (h S1 (g0.tr (g1.mono (fun j i k z => Or.inr z))) (by rw [g1.1 55 0 g (by simp)]; exact c1) (by rw [g1.1 56 0 g (by simp)]; exact c2) (by rw [g1.1 57 0 g (by simp)]; exact c3) a1)
    · intro k hk ih S1 g1 a1
      have hN := (hN0.up g0).up g1
      rw [nI_succ k] at ih
      refine hP _ _ _ _ _ _ (And.intro (fun hc => absurd hc (nI_ge hk (by omega))) (fun _ => ?_))
      repeat (first | (refine hP _ _ _ _ _ _ ?_; show P _ _ _ _ _ _) | (refine hP _ _ _ _ _ _ (And.intro (hN _ _ _ rfl) ?_); show P _ _ (aR _ _ :: _) _ _ _))
      refine hP _ _ _ _ _ _ (And.intro (fun hc => absurd hc (nI_pos (by omega))) (fun _ => ?_))
      repeat (first | (refine hP _ _ _ _ _ _ ?_; show P _ _ _ _ _ _) | (refine hP _ _ _ _ _ _ (And.intro (hN _ _ _ rfl) ?_); show P _ _ (aR _ _ :: _) _ _ _))
      refine hP _ _ _ _ _ _ (Exists.intro (40 * g + k) (And.intro (And.intro (jx40 g k) (by show 40 * g + k < 160; omega)) ?_))
      show P _ _ _ (ivSet S1 58 0 (40 * g + k) 0) _ _
      have := ih (ivSet S1 58 0 (40 * g + k) 0) (g1.tr (Ag.iv ⟨rfl, by omega, by omega⟩)) (fun q hq => by
        by_cases e : q = k
        · rw [e, iv_at]
        · rw [iv_ne (by omega)]
          exact a1 q (by omega))
      repeat (first | (refine hP _ _ _ _ _ _ ?_; show P _ _ _ _ _ _) | (refine hP _ _ _ _ _ _ (And.intro (hN _ _ _ rfl) ?_); show P _ _ (aR _ _ :: _) _ _ _))
      exact this
  repeat (first | (refine hP _ _ _ _ _ _ ?_; show P _ _ _ _ _ _) | (refine hP _ _ _ _ _ _ (And.intro (hN _ _ _ rfl) ?_); show P _ _ (aR _ _ :: _) _ _ _))
  exact loop 0 (by omega) S0 (Ag.rf _ _) (fun q hq => by omega)
theorem op_sheet (x s n : Int32) : OpA m_X5_sheet m_X6_sheet [aI x, aI s, aI n] isI := by
  intro d S K hd hT hK
  obtain ⟨F, I, sh, T, nT, tb, hT⟩ := hT
  have hX := hT.fx
  have hN0 := hX.1.1
  have hc0 := hT.2.2.2.1.2.2.2.2.2.1
  have hm0 := hT.2.2.2.2.2.2.2.2.1
  have hcl : ∀ i, i < 4 → (sh i).2.1 ≤ 40 := fun i hi => (hc0 i hi).2.2.2.1
  have hTT : TTx S := ⟨F, I, sh, T, nT, tb, hT⟩
  refine Call.of (k := 199) hd (fun e he P hP => ?_)
  have hN := hN0
  repeat (first | (refine hP _ _ _ _ _ _ ?_; show P _ _ _ _ _ _) | (refine hP _ _ _ _ _ _ (And.intro (hN _ _ _ rfl) ?_); show P _ _ (aR _ _ :: _) _ _ _))
  refine hP _ _ _ _ _ _ (c_isSheet (by omega) ?_)
  cases hx : isD 4 x with
  | false =>
    have fin := hK S (aI (-2)) ⟨_, rfl⟩ (by omega) (fun d' K' hd' hK' => by
      have hK' := hK' S hTT
      refine Call.of (k := 199) hd' (fun e he P hP => ?_)
      repeat (first | (refine hP _ _ _ _ _ _ ?_; show P _ _ _ _ _ _) | (refine hP _ _ _ _ _ _ (And.intro (hN _ _ _ rfl) ?_); show P _ _ (aR _ _ :: _) _ _ _))
      refine hP _ _ _ _ _ _ (n_isSheet (by omega) ?_)
      rw [hx]
      repeat (first | (refine hP _ _ _ _ _ _ ?_; show P _ _ _ _ _ _) | (refine hP _ _ _ _ _ _ (And.intro (hN _ _ _ rfl) ?_); show P _ _ (aR _ _ :: _) _ _ _) | refine hP _ _ _ _ _ _ (And.intro (fun _ => ?_) (fun hc => absurd hc (by decide))) | refine hP _ _ _ _ _ _ (And.intro (fun hc => absurd hc (by decide)) (fun _ => ?_)))
      exact hP _ _ _ _ _ _ (hK'))
    repeat (first | (refine hP _ _ _ _ _ _ ?_; show P _ _ _ _ _ _) | (refine hP _ _ _ _ _ _ (And.intro (hN _ _ _ rfl) ?_); show P _ _ (aR _ _ :: _) _ _ _) | refine hP _ _ _ _ _ _ (And.intro (fun _ => ?_) (fun hc => absurd hc (by decide))) | refine hP _ _ _ _ _ _ (And.intro (fun hc => absurd hc (by decide)) (fun _ => ?_)))
    exact hP _ _ _ _ _ _ (fin)
  | true =>
    obtain ⟨g, hg, -, rfl⟩ := isD_of hx
    repeat (first | (refine hP _ _ _ _ _ _ ?_; show P _ _ _ _ _ _) | (refine hP _ _ _ _ _ _ (And.intro (hN _ _ _ rfl) ?_); show P _ _ (aR _ _ :: _) _ _ _) | refine hP _ _ _ _ _ _ (And.intro (fun _ => ?_) (fun hc => absurd hc (by decide))) | refine hP _ _ _ _ _ _ (And.intro (fun hc => absurd hc (by decide)) (fun _ => ?_)))
    by_cases hs : s = -1
    · subst hs
      repeat (first | (refine hP _ _ _ _ _ _ ?_; show P _ _ _ _ _ _) | (refine hP _ _ _ _ _ _ (And.intro (hN _ _ _ rfl) ?_); show P _ _ (aR _ _ :: _) _ _ _) | refine hP _ _ _ _ _ _ (And.intro (fun _ => ?_) (fun hc => absurd hc (by decide))) | refine hP _ _ _ _ _ _ (And.intro (fun hc => absurd hc (by decide)) (fun _ => ?_)))
      refine hP _ _ _ _ _ _ (Exists.intro (g) (And.intro (And.intro (rfl) (show g < 4 from hg)) ?_))
      refine And.intro (hN _ _ _ (nn18 hg)) ?_
      show P _ _ (aR 20 g :: _) _ _ _
      repeat (first | (refine hP _ _ _ _ _ _ ?_; show P _ _ _ _ _ _) | (refine hP _ _ _ _ _ _ (And.intro (hN _ _ _ rfl) ?_); show P _ _ (aR _ _ :: _) _ _ _))
      refine hP _ _ _ _ _ _ (c_become (by omega) hN (fun S1 g1 a1 a2 a3 => ?_))
      have g1w : Ag wSH S S1 := g1.mono (fun j i k z => by simp only [wS1] at z; simp only [wSH]; omega)
      repeat (first | (refine hP _ _ _ _ _ _ ?_; show P _ _ _ _ _ _) | (refine hP _ _ _ _ _ _ (And.intro (hN _ _ _ rfl) ?_); show P _ _ (aR _ _ :: _) _ _ _))
      refine hP _ _ _ _ _ _ (hK S1 _ ⟨_, rfl⟩ (by rw [g1.2]; omega) (fun d' K' hd' hK' => ?_))
      have hN := hN0.up g1
      have hc1 : SHc S1 (upS sh g (0, 0, fun _ => 0)) := hc0.set g1 (fun j i k z e => by simp only [wS1] at z; omega) ⟨a1, by show 0 ≤ 3; omega, a2, by show 0 ≤ 40; omega, fun k hk => absurd hk (Nat.not_lt_zero k)⟩
      have hm1 : SHm S1 sh := hm0.up (fun j i k a b => g1.1 j i k (by simp only [wS1]; omega))
      refine Call.of (k := 199) hd' (fun e he P hP => ?_)
      have fin : ∀ S2, Ag (mS1 g) S1 S2 → S2.1 55 0 g = 0 → P 107 [some (aR 40 0), some (aI (nI g)), some (aI (-1)), some (aI n), some (aI (nI 0))] [aI 1] S2 0 0 := by
        intro S2 g2 h55
        have hT2 := hT.sh2 g1w hc1 (g2.mono (fun j i k z => by simp only [mS1] at z; simp only [mSH]; omega)) (hm1.set hcl g2 (fun j i k z => by simp only [mS1] at z; omega) ⟨by rw [if_pos rfl]; exact h55, fun z => absurd rfl z⟩)
        have hK' := hK' S2 ⟨_, _, _, _, _, _, hT2⟩
        exact hP _ _ _ _ _ _ (hK')
      repeat (first | (refine hP _ _ _ _ _ _ ?_; show P _ _ _ _ _ _) | (refine hP _ _ _ _ _ _ (And.intro (hN _ _ _ rfl) ?_); show P _ _ (aR _ _ :: _) _ _ _))
      refine hP _ _ _ _ _ _ (n_isSheet (by omega) ?_)
      rw [hx]
      repeat (first | (refine hP _ _ _ _ _ _ ?_; show P _ _ _ _ _ _) | (refine hP _ _ _ _ _ _ (And.intro (hN _ _ _ rfl) ?_); show P _ _ (aR _ _ :: _) _ _ _) | refine hP _ _ _ _ _ _ (And.intro (fun _ => ?_) (fun hc => absurd hc (by decide))) | refine hP _ _ _ _ _ _ (And.intro (fun hc => absurd hc (by decide)) (fun _ => ?_)))
      refine hP _ _ _ _ _ _ (n_inM (by omega) ?_)
      rw [show (decide ((-1 : Int32) = -1) || isD 3 (-1)) = true from by decide]
      repeat (first | (refine hP _ _ _ _ _ _ ?_; show P _ _ _ _ _ _) | (refine hP _ _ _ _ _ _ (And.intro (hN _ _ _ rfl) ?_); show P _ _ (aR _ _ :: _) _ _ _) | refine hP _ _ _ _ _ _ (And.intro (fun _ => ?_) (fun hc => absurd hc (by decide))) | refine hP _ _ _ _ _ _ (And.intro (fun hc => absurd hc (by decide)) (fun _ => ?_)))
      refine hP _ _ _ _ _ _ (Exists.intro (g) (And.intro (And.intro (rfl) (show g < 4 from hg)) ?_))
      refine And.intro (Or.inl rfl) ?_
      repeat (first | (refine hP _ _ _ _ _ _ ?_; show P _ _ _ _ _ _) | (refine hP _ _ _ _ _ _ (And.intro (hN _ _ _ rfl) ?_); show P _ _ (aR _ _ :: _) _ _ _))
      refine hP _ _ _ _ _ _ (Exists.intro (g) (And.intro (And.intro (rfl) (show g < 4 from hg)) ?_))
      repeat (first | (refine hP _ _ _ _ _ _ ?_; show P _ _ _ _ _ _) | (refine hP _ _ _ _ _ _ (And.intro (hN _ _ _ rfl) ?_); show P _ _ (aR _ _ :: _) _ _ _))
      refine hP _ _ _ _ _ _ (Exists.intro (g) (And.intro (And.intro (rfl) (show g < 4 from hg)) ?_))
      show P _ _ _ (ivSet (ivSet (ivSet S1 55 0 g 0) 56 0 g (-1)) 57 0 g n) _ _
      have fin := fin (ivSet (ivSet (ivSet S1 55 0 g 0) 56 0 g (-1)) 57 0 g n) (((Ag.iv (Or.inl ⟨by omega, by omega, rfl⟩)).tr (Ag.iv (Or.inl ⟨by omega, by omega, rfl⟩))).tr (Ag.iv (Or.inl ⟨by omega, by omega, rfl⟩))) (by rw [iv_ne (by omega), iv_ne (by omega), iv_at])
      repeat (first | (refine hP _ _ _ _ _ _ ?_; show P _ _ _ _ _ _) | (refine hP _ _ _ _ _ _ (And.intro (hN _ _ _ rfl) ?_); show P _ _ (aR _ _ :: _) _ _ _))
      refine hP _ _ _ _ _ _ (And.intro (fun hc => ?_) (fun hc => ?_))
      · repeat (first | (refine hP _ _ _ _ _ _ ?_; show P _ _ _ _ _ _) | (refine hP _ _ _ _ _ _ (And.intro (hN _ _ _ rfl) ?_); show P _ _ (aR _ _ :: _) _ _ _))
        exact fin
      · repeat (first | (refine hP _ _ _ _ _ _ ?_; show P _ _ _ _ _ _) | (refine hP _ _ _ _ _ _ (And.intro (hN _ _ _ rfl) ?_); show P _ _ (aR _ _ :: _) _ _ _))
        refine hP _ _ _ _ _ _ (And.intro (fun _ => ?_) (fun hc => absurd (by decide) hc))
        repeat (first | (refine hP _ _ _ _ _ _ ?_; show P _ _ _ _ _ _) | (refine hP _ _ _ _ _ _ (And.intro (hN _ _ _ rfl) ?_); show P _ _ (aR _ _ :: _) _ _ _))
        exact fin
    · refine hP _ _ _ _ _ _ (And.intro (fun hc => absurd hc hs) (fun _ => ?_))
      repeat (first | (refine hP _ _ _ _ _ _ ?_; show P _ _ _ _ _ _) | (refine hP _ _ _ _ _ _ (And.intro (hN _ _ _ rfl) ?_); show P _ _ (aR _ _ :: _) _ _ _))
      refine hP _ _ _ _ _ _ (c_isSort (by omega) ?_)
      cases h3 : isD 3 s with
      | false =>
        have hb : (decide (s = -1) || isD 3 s) = false := by rw [h3, decide_eq_false hs]; rfl
        have fin := hK S (aI (-2)) ⟨_, rfl⟩ (by omega) (fun d' K' hd' hK' => by
          have hK' := hK' S hTT
          refine Call.of (k := 199) hd' (fun e he P hP => ?_)
          repeat (first | (refine hP _ _ _ _ _ _ ?_; show P _ _ _ _ _ _) | (refine hP _ _ _ _ _ _ (And.intro (hN _ _ _ rfl) ?_); show P _ _ (aR _ _ :: _) _ _ _))
          refine hP _ _ _ _ _ _ (n_isSheet (by omega) ?_)
          rw [hx]
          repeat (first | (refine hP _ _ _ _ _ _ ?_; show P _ _ _ _ _ _) | (refine hP _ _ _ _ _ _ (And.intro (hN _ _ _ rfl) ?_); show P _ _ (aR _ _ :: _) _ _ _) | refine hP _ _ _ _ _ _ (And.intro (fun _ => ?_) (fun hc => absurd hc (by decide))) | refine hP _ _ _ _ _ _ (And.intro (fun hc => absurd hc (by decide)) (fun _ => ?_)))
          refine hP _ _ _ _ _ _ (n_inM (by omega) ?_)
          rw [hb]
          repeat (first | (refine hP _ _ _ _ _ _ ?_; show P _ _ _ _ _ _) | (refine hP _ _ _ _ _ _ (And.intro (hN _ _ _ rfl) ?_); show P _ _ (aR _ _ :: _) _ _ _) | refine hP _ _ _ _ _ _ (And.intro (fun _ => ?_) (fun hc => absurd hc (by decide))) | refine hP _ _ _ _ _ _ (And.intro (fun hc => absurd hc (by decide)) (fun _ => ?_)))
          exact hP _ _ _ _ _ _ (hK'))
        repeat (first | (refine hP _ _ _ _ _ _ ?_; show P _ _ _ _ _ _) | (refine hP _ _ _ _ _ _ (And.intro (hN _ _ _ rfl) ?_); show P _ _ (aR _ _ :: _) _ _ _) | refine hP _ _ _ _ _ _ (And.intro (fun _ => ?_) (fun hc => absurd hc (by decide))) | refine hP _ _ _ _ _ _ (And.intro (fun hc => absurd hc (by decide)) (fun _ => ?_)))
        exact hP _ _ _ _ _ _ (fin)
      | true =>
        have hb : (decide (s = -1) || isD 3 s) = true := by rw [h3, Bool.or_true]
        obtain ⟨u, hu, -, rfl⟩ := isD_of h3
        repeat (first | (refine hP _ _ _ _ _ _ ?_; show P _ _ _ _ _ _) | (refine hP _ _ _ _ _ _ (And.intro (hN _ _ _ rfl) ?_); show P _ _ (aR _ _ :: _) _ _ _) | refine hP _ _ _ _ _ _ (And.intro (fun _ => ?_) (fun hc => absurd hc (by decide))) | refine hP _ _ _ _ _ _ (And.intro (fun hc => absurd hc (by decide)) (fun _ => ?_)))
        refine hP _ _ _ _ _ _ (And.intro (fun _ => ?_) (fun hc => absurd hc hs))
        repeat (first | (refine hP _ _ _ _ _ _ ?_; show P _ _ _ _ _ _) | (refine hP _ _ _ _ _ _ (And.intro (hN _ _ _ rfl) ?_); show P _ _ (aR _ _ :: _) _ _ _))
        rcases rng (x := n) (n := 41) (by omega) with ⟨hf, h0 | ⟨h0, h1⟩⟩ | ⟨m, hm, hf, rfl⟩
        · have n40 : n ≤ 40 := by
            rw [Int32.lt_iff_toInt_lt] at h0
            rw [Int32.le_iff_toInt_le]
            have e1 : (40 : Int32).toInt = 40 := by decide
            have e0 : (0 : Int32).toInt = 0 := by decide
            omega
          have fin := hK S (aI (-14)) ⟨_, rfl⟩ (by omega) (fun d' K' hd' hK' => by
            have hK' := hK' S hTT
            refine Call.of (k := 199) hd' (fun e he P hP => ?_)
            repeat (first | (refine hP _ _ _ _ _ _ ?_; show P _ _ _ _ _ _) | (refine hP _ _ _ _ _ _ (And.intro (hN _ _ _ rfl) ?_); show P _ _ (aR _ _ :: _) _ _ _))
            refine hP _ _ _ _ _ _ (n_isSheet (by omega) ?_)
            rw [hx]
            repeat (first | (refine hP _ _ _ _ _ _ ?_; show P _ _ _ _ _ _) | (refine hP _ _ _ _ _ _ (And.intro (hN _ _ _ rfl) ?_); show P _ _ (aR _ _ :: _) _ _ _) | refine hP _ _ _ _ _ _ (And.intro (fun _ => ?_) (fun hc => absurd hc (by decide))) | refine hP _ _ _ _ _ _ (And.intro (fun hc => absurd hc (by decide)) (fun _ => ?_)))
            refine hP _ _ _ _ _ _ (n_inM (by omega) ?_)
            rw [hb]
            repeat (first | (refine hP _ _ _ _ _ _ ?_; show P _ _ _ _ _ _) | (refine hP _ _ _ _ _ _ (And.intro (hN _ _ _ rfl) ?_); show P _ _ (aR _ _ :: _) _ _ _) | refine hP _ _ _ _ _ _ (And.intro (fun _ => ?_) (fun hc => absurd hc (by decide))) | refine hP _ _ _ _ _ _ (And.intro (fun hc => absurd hc (by decide)) (fun _ => ?_)))
            refine hP _ _ _ _ _ _ (And.intro (fun hc => absurd hc (nI_pos (by omega))) (fun _ => ?_))
            repeat (first | (refine hP _ _ _ _ _ _ ?_; show P _ _ _ _ _ _) | (refine hP _ _ _ _ _ _ (And.intro (hN _ _ _ rfl) ?_); show P _ _ (aR _ _ :: _) _ _ _))
            refine hP _ _ _ _ _ _ (And.intro (fun _ => ?_) (fun hc => absurd n40 hc))
            repeat (first | (refine hP _ _ _ _ _ _ ?_; show P _ _ _ _ _ _) | (refine hP _ _ _ _ _ _ (And.intro (hN _ _ _ rfl) ?_); show P _ _ (aR _ _ :: _) _ _ _))
            refine hP _ _ _ _ _ _ (And.intro (fun hc => absurd hc (nI_pos (by omega))) (fun _ => ?_))
            repeat (first | (refine hP _ _ _ _ _ _ ?_; show P _ _ _ _ _ _) | (refine hP _ _ _ _ _ _ (And.intro (hN _ _ _ rfl) ?_); show P _ _ (aR _ _ :: _) _ _ _))
            refine hP _ _ _ _ _ _ (And.intro (fun hc => absurd hc (Int32.not_le.mpr h0)) (fun _ => ?_))
            repeat (first | (refine hP _ _ _ _ _ _ ?_; show P _ _ _ _ _ _) | (refine hP _ _ _ _ _ _ (And.intro (hN _ _ _ rfl) ?_); show P _ _ (aR _ _ :: _) _ _ _))
            exact hP _ _ _ _ _ _ (hK'))
          refine hP _ _ _ _ _ _ (And.intro (fun _ => ?_) (fun hc => absurd n40 hc))
          repeat (first | (refine hP _ _ _ _ _ _ ?_; show P _ _ _ _ _ _) | (refine hP _ _ _ _ _ _ (And.intro (hN _ _ _ rfl) ?_); show P _ _ (aR _ _ :: _) _ _ _))
          refine hP _ _ _ _ _ _ (And.intro (fun hc => absurd hc (Int32.not_le.mpr h0)) (fun _ => ?_))
          repeat (first | (refine hP _ _ _ _ _ _ ?_; show P _ _ _ _ _ _) | (refine hP _ _ _ _ _ _ (And.intro (hN _ _ _ rfl) ?_); show P _ _ (aR _ _ :: _) _ _ _))
          exact hP _ _ _ _ _ _ (fin)
        · have n40 : ¬ n ≤ 40 := fun hc => absurd (Int32.le_trans h1 hc) (nI_ge (a := 40) (b := 41) (by decide) (by decide))
          have fin := hK S (aI (-2)) ⟨_, rfl⟩ (by omega) (fun d' K' hd' hK' => by
            have hK' := hK' S hTT
            refine Call.of (k := 199) hd' (fun e he P hP => ?_)
            repeat (first | (refine hP _ _ _ _ _ _ ?_; show P _ _ _ _ _ _) | (refine hP _ _ _ _ _ _ (And.intro (hN _ _ _ rfl) ?_); show P _ _ (aR _ _ :: _) _ _ _))
            refine hP _ _ _ _ _ _ (n_isSheet (by omega) ?_)
            rw [hx]
            repeat (first | (refine hP _ _ _ _ _ _ ?_; show P _ _ _ _ _ _) | (refine hP _ _ _ _ _ _ (And.intro (hN _ _ _ rfl) ?_); show P _ _ (aR _ _ :: _) _ _ _) | refine hP _ _ _ _ _ _ (And.intro (fun _ => ?_) (fun hc => absurd hc (by decide))) | refine hP _ _ _ _ _ _ (And.intro (fun hc => absurd hc (by decide)) (fun _ => ?_)))
            refine hP _ _ _ _ _ _ (n_inM (by omega) ?_)
            rw [hb]
            repeat (first | (refine hP _ _ _ _ _ _ ?_; show P _ _ _ _ _ _) | (refine hP _ _ _ _ _ _ (And.intro (hN _ _ _ rfl) ?_); show P _ _ (aR _ _ :: _) _ _ _) | refine hP _ _ _ _ _ _ (And.intro (fun _ => ?_) (fun hc => absurd hc (by decide))) | refine hP _ _ _ _ _ _ (And.intro (fun hc => absurd hc (by decide)) (fun _ => ?_)))
            refine hP _ _ _ _ _ _ (And.intro (fun hc => absurd hc (nI_pos (by omega))) (fun _ => ?_))
            repeat (first | (refine hP _ _ _ _ _ _ ?_; show P _ _ _ _ _ _) | (refine hP _ _ _ _ _ _ (And.intro (hN _ _ _ rfl) ?_); show P _ _ (aR _ _ :: _) _ _ _))
            refine hP _ _ _ _ _ _ (And.intro (fun hc => absurd hc n40) (fun _ => ?_))
            repeat (first | (refine hP _ _ _ _ _ _ ?_; show P _ _ _ _ _ _) | (refine hP _ _ _ _ _ _ (And.intro (hN _ _ _ rfl) ?_); show P _ _ (aR _ _ :: _) _ _ _))
            exact hP _ _ _ _ _ _ (hK'))
          refine hP _ _ _ _ _ _ (And.intro (fun hc => absurd hc n40) (fun _ => ?_))
          repeat (first | (refine hP _ _ _ _ _ _ ?_; show P _ _ _ _ _ _) | (refine hP _ _ _ _ _ _ (And.intro (hN _ _ _ rfl) ?_); show P _ _ (aR _ _ :: _) _ _ _))
          exact hP _ _ _ _ _ _ (fin)
        · refine hP _ _ _ _ _ _ (And.intro (fun _ => ?_) (fun hc => absurd (nI_le (a := m) (b := 40) (by omega) (by omega)) hc))
          repeat (first | (refine hP _ _ _ _ _ _ ?_; show P _ _ _ _ _ _) | (refine hP _ _ _ _ _ _ (And.intro (hN _ _ _ rfl) ?_); show P _ _ (aR _ _ :: _) _ _ _))
          refine hP _ _ _ _ _ _ (And.intro (fun _ => ?_) (fun hc => absurd (nI_pos' (by omega)) hc))
          repeat (first | (refine hP _ _ _ _ _ _ ?_; show P _ _ _ _ _ _) | (refine hP _ _ _ _ _ _ (And.intro (hN _ _ _ rfl) ?_); show P _ _ (aR _ _ :: _) _ _ _))
          refine hP _ _ _ _ _ _ (Exists.intro (g) (And.intro (And.intro (rfl) (show g < 4 from hg)) ?_))
          refine And.intro (hN _ _ _ (nn18 hg)) ?_
          show P _ _ (aR 20 g :: _) _ _ _
          repeat (first | (refine hP _ _ _ _ _ _ ?_; show P _ _ _ _ _ _) | (refine hP _ _ _ _ _ _ (And.intro (hN _ _ _ rfl) ?_); show P _ _ (aR _ _ :: _) _ _ _))
          refine hP _ _ _ _ _ _ (c_become (by omega) hN (fun S1 g1 a1 a2 a3 => ?_))
          have g1w : Ag wSH S S1 := g1.mono (fun j i k z => by simp only [wS1] at z; simp only [wSH]; omega)
          repeat (first | (refine hP _ _ _ _ _ _ ?_; show P _ _ _ _ _ _) | (refine hP _ _ _ _ _ _ (And.intro (hN _ _ _ rfl) ?_); show P _ _ (aR _ _ :: _) _ _ _))
          refine hP _ _ _ _ _ _ (hK S1 _ ⟨_, rfl⟩ (by rw [g1.2]; omega) (fun d' K' hd' hK' => ?_))
          have hc1 : SHc S1 (upS sh g (u + 1, m, fun _ => 0)) := hc0.set g1 (fun j i k z e => by simp only [wS1] at z; omega) ⟨by rw [a1, nI_pred], by show u + 1 ≤ 3; omega, a2, by show m ≤ 40; omega, fun k hk => a3 k (by have hk : k < m := hk; omega)⟩
          exact n_sheetx (by omega) (hN0.up g1) hg hu (by omega) (fun S2 g2 b1 b2' b3 b4 => hK' S2 ⟨_, _, _, _, _, _, hT.sh2 g1w hc1 (g2.mono (fun j i k z => by simp only [mS1] at z; simp only [mSH]; omega)) ((hm0.up (fun j i k a b => g1.1 j i k (by simp only [wS1]; omega))).set hcl g2 (fun j i k z => by simp only [mS1] at z; omega) ⟨by rw [if_neg (Nat.succ_ne_zero u)]; exact b1, fun _ => ⟨by rw [b2', nI_pred], b3, b4⟩⟩)⟩)
