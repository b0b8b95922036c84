/-! The model: by how few rounds all is paid -/
theorem an_iff {f : Nat → Bool} : ∀ {n : Nat}, an f n = true ↔ ∃ k, k < n ∧ f k = true
  | 0 => by
    constructor
    · intro h
      cases h
    · rintro ⟨k, hk, _⟩
      omega
  | n + 1 => by
    simp only [an, Bool.or_eq_true, an_iff (n := n)]
    constructor
    · rintro (⟨k, hk, h⟩ | h)
      · exact ⟨k, by omega, h⟩
      · exact ⟨n, by omega, h⟩
    · rintro ⟨k, hk, h⟩
      by_cases e : k = n
      · exact Or.inr (e ▸ h)
      · exact Or.inl ⟨k, by omega, h⟩
def clN (tv : TV) : Nat → Fl → Bool
  | 0, F => decide (oA F = 0)
  | n + 1, F => an (fun i => okS tv F i && clN tv n (dsF tv F i)) 26
def mIP (n : Nat) : WW := fun j _ k => (j = 40 ∧ 14 ≤ k ∧ k ≤ 29) ∨ (j = 50 ∧ k < 25 * (n + 1)) ∨ (j = 51 ∧ k < 10 * (n + 1))
theorem mIP_M (n : Nat) : okM (mIP n) := by
  intro j g k hj
  simp only [mIP] at hj
  omega
theorem mIP_G (n : Nat) : okG (mIP n) := by
  intro j g k hj
  simp only [mIP] at hj
  omega
theorem n_isPaidBy {tv : TV} {nT : Nat} : ∀ n, n ≤ 3 → ∀ {d : Nat} {S : St} {K : KT} {F : Fl}, 110 + n ≤ d → MX tv nT S F → (∀ S', Ag (mIP n) S S' → K (some (aI (b2 (clN tv n F)))) S') → Call d m_X6_isPaidBy [aR 40 0, aI (nI n)] S K := by
  intro n
  induction n with
  | zero =>
    intro _ d S K F hd hX h
    refine Call.of (k := 109) (by omega) (fun e he P hP => ?_)
    have hA := hX.2.2.bA
    have h := h S (Ag.rf _ _)
    repeat (first | (refine hP _ _ _ _ _ _ ?_; show P _ _ _ _ _ _) | (refine hP _ _ _ _ _ _ (And.intro (hN _ _ _ rfl) ?_); show P _ _ (aR _ _ :: _) _ _ _) | refine hP _ _ _ _ _ _ (And.intro (fun _ => ?_) (fun hc => absurd hc (by decide))) | refine hP _ _ _ _ _ _ (And.intro (fun hc => absurd hc (by decide)) (fun _ => ?_)))
    refine hP _ _ _ _ _ _ (n_owedAll (by omega) hX ?_)
    repeat (first | (refine hP _ _ _ _ _ _ ?_; show P _ _ _ _ _ _) | (refine hP _ _ _ _ _ _ (And.intro (hN _ _ _ rfl) ?_); show P _ _ (aR _ _ :: _) _ _ _))
    refine hP _ _ _ _ _ _ (And.intro (fun hc => ?_) (fun hc => ?_))
    · have : ¬ oA F = 0 := fun z => hc (by rw [z]; rfl)
      rw [show clN tv 0 F = false from decide_eq_false this] at h
      repeat (first | (refine hP _ _ _ _ _ _ ?_; show P _ _ _ _ _ _) | (refine hP _ _ _ _ _ _ (And.intro (hN _ _ _ rfl) ?_); show P _ _ (aR _ _ :: _) _ _ _))
      refine hP _ _ _ _ _ _ (And.intro (Or.inl rfl) h)
    · have : oA F = 0 := (nI_eq (b := 0) (by omega) (by omega)).mp hc
      rw [show clN tv 0 F = true from decide_eq_true this] at h
      repeat (first | (refine hP _ _ _ _ _ _ ?_; show P _ _ _ _ _ _) | (refine hP _ _ _ _ _ _ (And.intro (hN _ _ _ rfl) ?_); show P _ _ (aR _ _ :: _) _ _ _))
      refine hP _ _ _ _ _ _ (And.intro (Or.inr rfl) h)
  | succ n ihn =>
    intro hn3 d S K F hd hX h
    refine Call.of (k := 110 + n) (by omega) (fun e he P hP => ?_)
    have hn5 := hX.2.2.1
    have hN0 := hX.1.1
    have outT : ∀ (S1 : St) (i : Nat) (x4 : Option AV), i ≤ 26 → Ag (mIP (n + 1)) S S1 → clN tv (n + 1) F = true → P 86 [some (aR 40 0), some (aI (nI (n + 1))), some (aI 1), some (aI (nI i)), x4] [aI 26, aI (nI i)] S1 0 0 := by
      intro S1 i x4 hi g1 hc
      have h := h S1 g1
      rw [hc] at h
      refine hP _ _ _ _ _ _ (And.intro (fun hc => ?_) (fun hc => ?_))
      · repeat (first | (refine hP _ _ _ _ _ _ ?_; show P _ _ _ _ _ _) | (refine hP _ _ _ _ _ _ (And.intro (hN _ _ _ rfl) ?_); show P _ _ (aR _ _ :: _) _ _ _))
        refine hP _ _ _ _ _ _ (And.intro (Or.inr rfl) h)
      · repeat (first | (refine hP _ _ _ _ _ _ ?_; show P _ _ _ _ _ _) | (refine hP _ _ _ _ _ _ (And.intro (hN _ _ _ rfl) ?_); show P _ _ (aR _ _ :: _) _ _ _) | refine hP _ _ _ _ _ _ (And.intro (fun _ => ?_) (fun hc => absurd hc (by decide))) | refine hP _ _ _ _ _ _ (And.intro (fun hc => absurd hc (by decide)) (fun _ => ?_)))
        refine hP _ _ _ _ _ _ (And.intro (Or.inr rfl) h)
    have main : ∀ i, i ≤ 26 → ∀ S1 x4, Ag (mIP (n + 1)) S S1 → (∀ k, k < 25 → S1.1 50 0 (25 * (n + 1) + k) = S.1 46 0 k) → (∀ k, k < 10 → S1.1 51 0 (10 * (n + 1) + k) = S.1 45 0 k) → an (fun i => okS tv F i && clN tv n (dsF tv F i)) i = false → P 86 [some (aR 40 0), some (aI (nI (n + 1))), some (aI 0), some (aI (nI i)), x4] [aI 26, aI (nI i)] S1 0 0 := by
      refine dn ?_ ?_
      · intro S1 x4 g1 t1 t2 ha
        have h := h S1 g1
        rw [show clN tv (n + 1) F = false from ha] at h
        refine hP _ _ _ _ _ _ (And.intro (fun _ => ?_) (fun hc => absurd (nI_le (Nat.le_refl 26) (by decide)) hc))
        repeat (first | (refine hP _ _ _ _ _ _ ?_; show P _ _ _ _ _ _) | (refine hP _ _ _ _ _ _ (And.intro (hN _ _ _ rfl) ?_); show P _ _ (aR _ _ :: _) _ _ _))
        refine hP _ _ _ _ _ _ (And.intro (Or.inl rfl) h)
      · intro i hi ih S1 x4 g1 t1 t2 ha
        have hX1 := hX.up g1 (mIP_M _) (mIP_G _)
        have hN := hX1.1.1
        rw [nI_succ i] at ih
        refine hP _ _ _ _ _ _ (And.intro (fun hc => absurd hc (nI_ge (b := 26) hi (by decide))) (fun _ => ?_))
        repeat (first | (refine hP _ _ _ _ _ _ ?_; show P _ _ _ _ _ _) | (refine hP _ _ _ _ _ _ (And.intro (hN _ _ _ rfl) ?_); show P _ _ (aR _ _ :: _) _ _ _) | refine hP _ _ _ _ _ _ (And.intro (fun _ => ?_) (fun hc => absurd hc (by decide))) | refine hP _ _ _ _ _ _ (And.intro (fun hc => absurd hc (by decide)) (fun _ => ?_)))
        refine hP _ _ _ _ _ _ (Exists.intro (i) (And.intro (And.intro (rfl) (by show i < 26; omega)) ?_))
        rw [hX1.1.2.2 i hi]
        refine hP _ _ _ _ _ _ (n_isSet (by omega) hX1 hi (fun S2 g2 => ?_))
        have hX2 := hX1.sc g2
        have hN := hX2.1.1
        have g12 : Ag (mIP (n + 1)) S S2 := g1.tr (g2.mono (fun j g k hj => by simp only [m0] at hj; simp only [mIP]; omega))
        have t12 : ∀ k, k < 25 → S2.1 50 0 (25 * (n + 1) + k) = S.1 46 0 k := fun k hk => by rw [g2.1 50 0 _ (by simp [m0])]; exact t1 k hk
        have t22 : ∀ k, k < 10 → S2.1 51 0 (10 * (n + 1) + k) = S.1 45 0 k := fun k hk => by rw [g2.1 51 0 _ (by simp [m0])]; exact t2 k hk
        repeat (first | (refine hP _ _ _ _ _ _ ?_; show P _ _ _ _ _ _) | (refine hP _ _ _ _ _ _ (And.intro (hN _ _ _ rfl) ?_); show P _ _ (aR _ _ :: _) _ _ _))
        refine hP _ _ _ _ _ _ (bn2 (fun ho => ?_) (fun ho => ?_))
        · repeat (first | (refine hP _ _ _ _ _ _ ?_; show P _ _ _ _ _ _) | (refine hP _ _ _ _ _ _ (And.intro (hN _ _ _ rfl) ?_); show P _ _ (aR _ _ :: _) _ _ _))
          exact ih S2 _ g12 t12 t22 (by simp only [an, ha, ho]; rfl)
        · repeat (first | (refine hP _ _ _ _ _ _ ?_; show P _ _ _ _ _ _) | (refine hP _ _ _ _ _ _ (And.intro (hN _ _ _ rfl) ?_); show P _ _ (aR _ _ :: _) _ _ _))
          refine hP _ _ _ _ _ _ (Exists.intro (i) (And.intro (And.intro (rfl) (by show i < 26; omega)) ?_))
          rw [hX2.1.2.2 i hi]
          refine hP _ _ _ _ _ _ (n_dancesOf (by omega) hX2 hi ho (fun S5 g5 hX5 => ?_))
          have hN := hX5.1.1
          repeat (first | (refine hP _ _ _ _ _ _ ?_; show P _ _ _ _ _ _) | (refine hP _ _ _ _ _ _ (And.intro (hN _ _ _ rfl) ?_); show P _ _ (aR _ _ :: _) _ _ _))
          rw [show S5.1 40 0 7 = nI F.rd by rw [hX5.2.1.2.1, (dsN_n tv F i 10).2.1], nI_1]
          show P _ _ _ (ivSet S5 40 0 7 (nI (F.rd + 1))) _ _
          have hX6 : MX tv nT (ivSet S5 40 0 7 (nI (F.rd + 1))) (dsF tv F i) := hX5.sR (F.rd + 1)
          have g6 : Ag (fun j g k => j = 40 ∧ g = 0 ∧ k = 7) S5 (ivSet S5 40 0 7 (nI (F.rd + 1))) := Ag.iv ⟨rfl, rfl, rfl⟩
          generalize ivSet S5 40 0 7 (nI (F.rd + 1)) = S6 at hX6 g6 ⊢
          have hN := hX6.1.1
          repeat (first | (refine hP _ _ _ _ _ _ ?_; show P _ _ _ _ _ _) | (refine hP _ _ _ _ _ _ (And.intro (hN _ _ _ rfl) ?_); show P _ _ (aR _ _ :: _) _ _ _))
          rw [nI_pred]
          refine hP _ _ _ _ _ _ (ihn (by omega) (by omega) hX6 (fun S7 g7 => ?_))
          have hN7 := hX6.1.1.up g7
          have hN := hN7
          repeat (first | (refine hP _ _ _ _ _ _ ?_; show P _ _ _ _ _ _) | (refine hP _ _ _ _ _ _ (And.intro (hN _ _ _ rfl) ?_); show P _ _ (aR _ _ :: _) _ _ _))
          rw [show S7.1 40 0 7 = nI (F.rd + 1) by rw [g7.1 40 0 7 (by simp [mIP])]; exact hX6.2.1.2.1, nI_pred]
          show P _ _ _ (ivSet S7 40 0 7 (nI F.rd)) _ _
          have g8 : Ag (fun j g k => j = 40 ∧ g = 0 ∧ k = 7) S7 (ivSet S7 40 0 7 (nI F.rd)) := Ag.iv ⟨rfl, rfl, rfl⟩
          have r8 : (ivSet S7 40 0 7 (nI F.rd)).1 40 0 7 = nI F.rd := iv_at
          generalize ivSet S7 40 0 7 (nI F.rd) = S8 at g8 r8 ⊢
          have hN8 := hN7.up g8
          have t18 : ∀ k, k < 25 → S8.1 50 0 (25 * (n + 1) + k) = S.1 46 0 k := fun k hk => by
            rw [g8.1 50 0 _ (by simp), g7.1 50 0 _ (by simp only [mIP]; omega), g6.1 50 0 _ (by simp), g5.1 50 0 _ (by simp [mS])]
            exact t12 k hk
          have t28 : ∀ k, k < 10 → S8.1 51 0 (10 * (n + 1) + k) = S.1 45 0 k := fun k hk => by
            rw [g8.1 51 0 _ (by simp), g7.1 51 0 _ (by simp only [mIP]; omega), g6.1 51 0 _ (by simp), g5.1 51 0 _ (by simp [mS])]
            exact t22 k hk
          have rest2 : ∀ k, k ≤ 10 → ∀ S9, Ag (fun j g k => g = 0 ∧ (j = 45 ∧ k < 10 ∨ j = 46 ∧ k < 25)) S8 S9 → (∀ k, k < 25 → S9.1 46 0 k = S.1 46 0 k) → (∀ m, m < k → S9.1 45 0 m = S.1 45 0 m) → P 187 [some (aR 40 0), some (aI (nI (n + 1))), some (aI (b2 (clN tv n (dsF tv F i)))), some (aI (nI i)), some (aI (nI k))] [aI 10, aI (nI k)] S9 0 0 := by
            refine dn ?_ ?_
            · intro S9 g9 a1 a2
              have gall : Ag (mIP (n + 1)) S S9 := by
                refine ⟨fun j g k hj => ?_, by rw [g9.2, g8.2, g7.2, g6.2, g5.2, g12.2]⟩
                by_cases c1 : g = 0 ∧ (j = 40 ∧ k = 7 ∨ j = 45 ∧ k < 10 ∨ j = 46 ∧ k < 25)
                · obtain ⟨rfl, ⟨rfl, rfl⟩ | ⟨rfl, hk⟩ | ⟨rfl, hk⟩⟩ := c1
                  · rw [g9.1 40 0 7 (by simp), r8]
                    exact hX.2.1.2.1.symm
                  · exact a2 k hk
                  · exact a1 k hk
                · simp only [mIP] at hj
                  rw [g9.1 j g k (by omega), g8.1 j g k (by omega), g7.1 j g k (by simp only [mIP]; omega), g6.1 j g k (by omega), g5.1 j g k (by simp only [mS]; omega), g12.1 j g k (by simp only [mIP]; omega)]
              have e50 : ∀ k, k < 25 → S9.1 50 0 (25 * (n + 1) + k) = S.1 46 0 k := fun k hk => by rw [g9.1 50 0 _ (by simp)]; exact t18 k hk
              have e51 : ∀ k, k < 10 → S9.1 51 0 (10 * (n + 1) + k) = S.1 45 0 k := fun k hk => by rw [g9.1 51 0 _ (by simp)]; exact t28 k hk
              refine hP _ _ _ _ _ _ (And.intro (fun _ => ?_) (fun hc => absurd (nI_le (Nat.le_refl 10) (by decide)) hc))
              repeat (first | (refine hP _ _ _ _ _ _ ?_; show P _ _ _ _ _ _) | (refine hP _ _ _ _ _ _ (And.intro (hN _ _ _ rfl) ?_); show P _ _ (aR _ _ :: _) _ _ _))
              cases hcl : clN tv n (dsF tv F i) with
              | true =>
                have hc : clN tv (n + 1) F = true := an_iff.mpr ⟨i, hi, by rw [ho, hcl]; rfl⟩
                have := outT S9 (i + 1) (some (aI (nI 10))) (by omega) gall hc
                rw [nI_succ i] at this
                exact this
              | false => exact ih S9 _ gall e50 e51 (by simp only [an, ha, ho, hcl]; rfl)
            · intro k hk ih2 S9 g9 a1 a2
              have hN := hN8.up g9
              rw [nI_succ k] at ih2
              refine hP _ _ _ _ _ _ (And.intro (fun hc => absurd hc (nI_ge (b := 10) hk (by decide))) (fun _ => ?_))
              repeat (first | (refine hP _ _ _ _ _ _ ?_; show P _ _ _ _ _ _) | (refine hP _ _ _ _ _ _ (And.intro (hN _ _ _ rfl) ?_); show P _ _ (aR _ _ :: _) _ _ _))
              rw [show (10 : Int32) * nI (n + 1) = nI (10 * (n + 1)) from pk_mul 10 (n + 1), nI_add]
              refine hP _ _ _ _ _ _ (Exists.intro (10 * (n + 1) + k) (And.intro (And.intro (rfl) (by show 10 * (n + 1) + k < 40; omega)) ?_))
              rw [g9.1 51 0 _ (by simp), t28 k hk]
              refine hP _ _ _ _ _ _ (Exists.intro (k) (And.intro (And.intro (rfl) (by show k < 10; omega)) ?_))
              show P _ _ _ (ivSet S9 45 0 k (S.1 45 0 k)) _ _
              have := ih2 (ivSet S9 45 0 k (S.1 45 0 k)) (g9.tr (Ag.iv ⟨rfl, Or.inl ⟨rfl, hk⟩⟩)) (fun m hm => by rw [iv_ne (by omega)]; exact a1 m hm) (fun m hm => by
                by_cases em : m = k
                · rw [em, iv_at]
                · rw [iv_ne (by omega)]; exact a2 m (by omega))
              repeat (first | (refine hP _ _ _ _ _ _ ?_; show P _ _ _ _ _ _) | (refine hP _ _ _ _ _ _ (And.intro (hN _ _ _ rfl) ?_); show P _ _ (aR _ _ :: _) _ _ _))
              exact this
          have rest1 : ∀ k, k ≤ 25 → ∀ S9, Ag (fun j g k => g = 0 ∧ (j = 45 ∧ k < 10 ∨ j = 46 ∧ k < 25)) S8 S9 → (∀ m, m < k → S9.1 46 0 m = S.1 46 0 m) → P 152 [some (aR 40 0), some (aI (nI (n + 1))), some (aI (b2 (clN tv n (dsF tv F i)))), some (aI (nI i)), some (aI (nI k))] [aI 25, aI (nI k)] S9 0 0 := by
            refine dn ?_ ?_
            · intro S9 g9 a1
              refine hP _ _ _ _ _ _ (And.intro (fun _ => ?_) (fun hc => absurd (nI_le (Nat.le_refl 25) (by decide)) hc))
              repeat (first | (refine hP _ _ _ _ _ _ ?_; show P _ _ _ _ _ _) | (refine hP _ _ _ _ _ _ (And.intro (hN _ _ _ rfl) ?_); show P _ _ (aR _ _ :: _) _ _ _))
              exact rest2 0 (by omega) S9 g9 a1 (fun m hm => by omega)
            · intro k hk ih2 S9 g9 a1
              have hN := hN8.up g9
              rw [nI_succ k] at ih2
              refine hP _ _ _ _ _ _ (And.intro (fun hc => absurd hc (nI_ge (b := 25) hk (by decide))) (fun _ => ?_))
              repeat (first | (refine hP _ _ _ _ _ _ ?_; show P _ _ _ _ _ _) | (refine hP _ _ _ _ _ _ (And.intro (hN _ _ _ rfl) ?_); show P _ _ (aR _ _ :: _) _ _ _))
              rw [show (25 : Int32) * nI (n + 1) = nI (25 * (n + 1)) from pk_mul 25 (n + 1), nI_add]
              refine hP _ _ _ _ _ _ (Exists.intro (25 * (n + 1) + k) (And.intro (And.intro (rfl) (by show 25 * (n + 1) + k < 100; omega)) ?_))
              rw [g9.1 50 0 _ (by simp), t18 k hk]
              refine hP _ _ _ _ _ _ (Exists.intro (k) (And.intro (And.intro (rfl) (by show k < 25; omega)) ?_))
              show P _ _ _ (ivSet S9 46 0 k (S.1 46 0 k)) _ _
              have := ih2 (ivSet S9 46 0 k (S.1 46 0 k)) (g9.tr (Ag.iv ⟨rfl, Or.inr ⟨rfl, hk⟩⟩)) (fun m hm => by
                by_cases em : m = k
                · rw [em, iv_at]
                · rw [iv_ne (by omega)]; exact a1 m (by omega))
              repeat (first | (refine hP _ _ _ _ _ _ ?_; show P _ _ _ _ _ _) | (refine hP _ _ _ _ _ _ (And.intro (hN _ _ _ rfl) ?_); show P _ _ (aR _ _ :: _) _ _ _))
              exact this
          repeat (first | (refine hP _ _ _ _ _ _ ?_; show P _ _ _ _ _ _) | (refine hP _ _ _ _ _ _ (And.intro (hN _ _ _ rfl) ?_); show P _ _ (aR _ _ :: _) _ _ _))
          exact rest1 0 (by omega) S8 (Ag.rf _ _) (fun m hm => by omega)
    have save2 : ∀ k, k ≤ 10 → ∀ S1, Ag (mIP (n + 1)) S S1 → (∀ m, m < 25 → S1.1 50 0 (25 * (n + 1) + m) = S.1 46 0 m) → (∀ m, m < k → S1.1 51 0 (10 * (n + 1) + m) = S.1 45 0 m) → P 53 [some (aR 40 0), some (aI (nI (n + 1))), some (aI (nI k)), none, none] [aI 10, aI (nI k)] S1 0 0 := by
      refine dn ?_ ?_
      · intro S1 g1 a1 a2
        refine hP _ _ _ _ _ _ (And.intro (fun _ => ?_) (fun hc => absurd (nI_le (Nat.le_refl 10) (by decide)) hc))
        repeat (first | (refine hP _ _ _ _ _ _ ?_; show P _ _ _ _ _ _) | (refine hP _ _ _ _ _ _ (And.intro (hN _ _ _ rfl) ?_); show P _ _ (aR _ _ :: _) _ _ _))
        exact main 0 (by omega) S1 _ g1 a1 a2 rfl
      · intro k hk ih2 S1 g1 a1 a2
        have hN := hN0.up g1
        rw [nI_succ k] at ih2
        refine hP _ _ _ _ _ _ (And.intro (fun hc => absurd hc (nI_ge (b := 10) hk (by decide))) (fun _ => ?_))
        repeat (first | (refine hP _ _ _ _ _ _ ?_; show P _ _ _ _ _ _) | (refine hP _ _ _ _ _ _ (And.intro (hN _ _ _ rfl) ?_); show P _ _ (aR _ _ :: _) _ _ _))
        rw [show (10 : Int32) * nI (n + 1) = nI (10 * (n + 1)) from pk_mul 10 (n + 1), nI_add]
        refine hP _ _ _ _ _ _ (Exists.intro (k) (And.intro (And.intro (rfl) (by show k < 10; omega)) ?_))
        rw [g1.1 45 0 k (by simp [mIP])]
        refine hP _ _ _ _ _ _ (Exists.intro (10 * (n + 1) + k) (And.intro (And.intro (rfl) (by show 10 * (n + 1) + k < 40; omega)) ?_))
        show P _ _ _ (ivSet S1 51 0 (10 * (n + 1) + k) (S.1 45 0 k)) _ _
        have := ih2 (ivSet S1 51 0 (10 * (n + 1) + k) (S.1 45 0 k)) (g1.tr (Ag.iv (Or.inr (Or.inr ⟨rfl, by omega⟩)))) (fun m hm => by rw [iv_ne (by omega)]; exact a1 m hm) (fun m hm => by
          by_cases em : m = k
          · rw [em, iv_at]
          · rw [iv_ne (by omega)]; exact a2 m (by omega))
        repeat (first | (refine hP _ _ _ _ _ _ ?_; show P _ _ _ _ _ _) | (refine hP _ _ _ _ _ _ (And.intro (hN _ _ _ rfl) ?_); show P _ _ (aR _ _ :: _) _ _ _))
        exact this
    have save1 : ∀ k, k ≤ 25 → ∀ S1, Ag (mIP (n + 1)) S S1 → (∀ m, m < k → S1.1 50 0 (25 * (n + 1) + m) = S.1 46 0 m) → P 22 [some (aR 40 0), some (aI (nI (n + 1))), some (aI (nI k)), none, none] [aI 25, aI (nI k)] S1 0 0 := by
      refine dn ?_ ?_
      · intro S1 g1 a1
        refine hP _ _ _ _ _ _ (And.intro (fun _ => ?_) (fun hc => absurd (nI_le (Nat.le_refl 25) (by decide)) hc))
        repeat (first | (refine hP _ _ _ _ _ _ ?_; show P _ _ _ _ _ _) | (refine hP _ _ _ _ _ _ (And.intro (hN _ _ _ rfl) ?_); show P _ _ (aR _ _ :: _) _ _ _))
        exact save2 0 (by omega) S1 g1 a1 (fun m hm => by omega)
      · intro k hk ih2 S1 g1 a1
        have hN := hN0.up g1
        rw [nI_succ k] at ih2
        refine hP _ _ _ _ _ _ (And.intro (fun hc => absurd hc (nI_ge (b := 25) hk (by decide))) (fun _ => ?_))
        repeat (first | (refine hP _ _ _ _ _ _ ?_; show P _ _ _ _ _ _) | (refine hP _ _ _ _ _ _ (And.intro (hN _ _ _ rfl) ?_); show P _ _ (aR _ _ :: _) _ _ _))
        rw [show (25 : Int32) * nI (n + 1) = nI (25 * (n + 1)) from pk_mul 25 (n + 1), nI_add]
        refine hP _ _ _ _ _ _ (Exists.intro (k) (And.intro (And.intro (rfl) (by show k < 25; omega)) ?_))
        rw [g1.1 46 0 k (by simp [mIP])]
        refine hP _ _ _ _ _ _ (Exists.intro (25 * (n + 1) + k) (And.intro (And.intro (rfl) (by show 25 * (n + 1) + k < 100; omega)) ?_))
        show P _ _ _ (ivSet S1 50 0 (25 * (n + 1) + k) (S.1 46 0 k)) _ _
        have := ih2 (ivSet S1 50 0 (25 * (n + 1) + k) (S.1 46 0 k)) (g1.tr (Ag.iv (Or.inr (Or.inl ⟨rfl, by omega⟩)))) (fun m hm => by
          by_cases em : m = k
          · rw [em, iv_at]
          · rw [iv_ne (by omega)]; exact a1 m (by omega))
        repeat (first | (refine hP _ _ _ _ _ _ ?_; show P _ _ _ _ _ _) | (refine hP _ _ _ _ _ _ (And.intro (hN _ _ _ rfl) ?_); show P _ _ (aR _ _ :: _) _ _ _))
        exact this
    have hN := hN0
    repeat (first | (refine hP _ _ _ _ _ _ ?_; show P _ _ _ _ _ _) | (refine hP _ _ _ _ _ _ (And.intro (hN _ _ _ rfl) ?_); show P _ _ (aR _ _ :: _) _ _ _))
    refine hP _ _ _ _ _ _ (And.intro (fun _ => ?_) (fun hc => absurd hc (nI_ne0 (by omega) (by omega))))
    repeat (first | (refine hP _ _ _ _ _ _ ?_; show P _ _ _ _ _ _) | (refine hP _ _ _ _ _ _ (And.intro (hN _ _ _ rfl) ?_); show P _ _ (aR _ _ :: _) _ _ _))
    exact save1 0 (by omega) S (Ag.rf _ _) (fun m hm => by omega)
/-- by how few rounds: from k on, m tries -/
def snN (tv : TV) (F : Fl) : Nat → Nat → Int32
  | 0, _ => -1
  | m + 1, k => if clN tv k F = true then nI k else snN tv F m (k + 1)
theorem mIP_th (n : Nat) : ∀ j g k, mIP n j g k → mTh j g k := by
  intro j g k hj
  simp only [mIP] at hj
  simp only [mTh]
  omega
theorem n_soonest {tv : TV} {nT d : Nat} {S : St} {K : KT} {F : Fl} (hd : 114 ≤ d) (hX : MX tv nT S F) (h : ∀ S', Ag mTh S S' → K (some (aI (snN tv F 4 0))) S') : Call d m_X6_soonest [aR 40 0] S K := by
  refine Call.of (k := 113) hd (fun e he P hP => ?_)
  generalize hr : snN tv F 4 0 = r at h
  have loop : ∀ k, k ≤ 4 → ∀ S1, Ag mTh S S1 → snN tv F (4 - k) k = r → P 4 [some (aR 40 0), some (aI (nI k))] [aI 4, aI (nI k)] S1 0 0 := by
    refine dn ?_ ?_
    · intro S1 g1 he
      have h := h S1 g1
      rw [← he] at h
      refine hP _ _ _ _ _ _ (And.intro (fun _ => ?_) (fun hc => absurd (nI_le (Nat.le_refl 4) (by decide)) hc))
      repeat (first | (refine hP _ _ _ _ _ _ ?_; show P _ _ _ _ _ _) | (refine hP _ _ _ _ _ _ (And.intro (hN _ _ _ rfl) ?_); show P _ _ (aR _ _ :: _) _ _ _))
      exact hP _ _ _ _ _ _ (h)
    · intro k hk ih S1 g1 he
      have hX1 := hX.th g1
      rw [show 4 - k = (4 - (k + 1)) + 1 by omega] at he
      simp only [snN] at he
      refine hP _ _ _ _ _ _ (And.intro (fun hc => absurd hc (nI_ge (b := 4) hk (by decide))) (fun _ => ?_))
      have hN := hX1.1.1
      repeat (first | (refine hP _ _ _ _ _ _ ?_; show P _ _ _ _ _ _) | (refine hP _ _ _ _ _ _ (And.intro (hN _ _ _ rfl) ?_); show P _ _ (aR _ _ :: _) _ _ _))
      refine hP _ _ _ _ _ _ (n_isPaidBy k (by omega) (by omega) hX1 (fun S2 g2 => ?_))
      have g12 := g1.tr (g2.mono (mIP_th k))
      repeat (first | (refine hP _ _ _ _ _ _ ?_; show P _ _ _ _ _ _) | (refine hP _ _ _ _ _ _ (And.intro (hN _ _ _ rfl) ?_); show P _ _ (aR _ _ :: _) _ _ _))
      refine hP _ _ _ _ _ _ (bn2 (fun hc => ?_) (fun hc => ?_))
      · rw [if_neg (by rw [hc]; decide)] at he
        have := ih S2 g12 he
        rw [nI_succ] at this
        repeat (first | (refine hP _ _ _ _ _ _ ?_; show P _ _ _ _ _ _) | (refine hP _ _ _ _ _ _ (And.intro (hN _ _ _ rfl) ?_); show P _ _ (aR _ _ :: _) _ _ _))
        exact this
      · rw [if_pos hc] at he
        have h := h S2 g12
        rw [← he] at h
        repeat (first | (refine hP _ _ _ _ _ _ ?_; show P _ _ _ _ _ _) | (refine hP _ _ _ _ _ _ (And.intro (hN _ _ _ rfl) ?_); show P _ _ (aR _ _ :: _) _ _ _))
        exact hP _ _ _ _ _ _ (h)
  have hN := hX.1.1
  repeat (first | (refine hP _ _ _ _ _ _ ?_; show P _ _ _ _ _ _) | (refine hP _ _ _ _ _ _ (And.intro (hN _ _ _ rfl) ?_); show P _ _ (aR _ _ :: _) _ _ _))
  exact loop 0 (by omega) S (Ag.rf _ _) hr
