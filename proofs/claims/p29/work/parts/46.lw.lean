/-! the law's turn: who sits, what is paid; two alone -/
theorem fD {n D : Nat} (h2 : 2 ≤ n) (h5 : n ≤ 5) (d1 : 1 ≤ D) (d9 : D ≤ 9) (u : Nat → Nat) : bcI (beI tv0 (RF n D u) 2) = nI (n % 2) ∧ beI tv0 (RF n D u) 1 = nI (hfN n) ∧ beI tv0 (RF n D u) 3 = nI (hfN n) := by
  have h := cuT_at chD_ok h2 h5 d1 d9
  simp only [chD, Bool.and_eq_true, decide_eq_true_eq] at h
  obtain ⟨⟨a1, a2⟩, a3⟩ := h
  have hz := fun w => be_z (RF_P n D u) w
  exact ⟨(congrArg bcI (hz 2)).symm.trans a1, (hz 1).symm.trans a2, (hz 3).symm.trans a3⟩
theorem n2 {n : Nat} (h5 : n ≤ 5) (h : ¬ n = 2) : ¬ nI n = 2 := fun z => h ((nI_eq (b := 2) (by omega) (by decide)).mp z)
theorem lw_6 {e : Nat} {P : PT} {K : KT} {t fc fs : Nat} (he : 300 ≤ e) (hP : ∀ pc L st S fc fs, F m_L_law (Call e) K P pc L st S fc fs → P pc L st S fc fs) {n D : Nat} (h2 : 2 ≤ n) (h5 : n ≤ 5) (d1 : 1 ≤ D) (d9 : D ≤ 9) (u : Nat → Nat) {d5 d6 d7 : Int32} (hnext : ∀ S d7, LW S (RF n D u) → P 459 [some (aR 60 0), some (aI (nI t)), some (aR 0 0), some (aI (nI n)), some (aI (nI D)), some (aI d5), some (aI d6), some (aI d7), none, none, none, none] [] S fc fs) {S : St} (hS : LW S (RF n D u)) : P 406 [some (aR 60 0), some (aI (nI t)), some (aR 0 0), some (aI (nI n)), some (aI (nI D)), some (aI d5), some (aI d6), some (aI d7), none, none, none, none] [] S fc fs := by
  obtain ⟨c1, c2, c3⟩ := fD h2 h5 d1 d9 u
  have hN : True := trivial
  have tail : ∀ S, LW S (RF n D u) → P 444 [some (aR 60 0), some (aI (nI t)), some (aR 0 0), some (aI (nI n)), some (aI (nI D)), some (aI d5), some (aI d6), some (aI (beI tv0 (RF n D u) 2)), none, none, none, none] [] S fc fs := by
    intro S hS
    repeat (first | (refine hP _ _ _ _ _ _ ?_; show P _ _ _ _ _ _) | (refine hP _ _ _ _ _ _ (And.intro (hN _ _ _ rfl) ?_); show P _ _ (aR _ _ :: _) _ _ _))
    refine hP _ _ _ _ _ _ (c_best (w := 3) (by omega) hS.1 (by omega) (fun S1 g1 => ?_))
    have hS1 := hS.th g1
    rw [c3]
    repeat (first | (refine hP _ _ _ _ _ _ ?_; show P _ _ _ _ _ _) | (refine hP _ _ _ _ _ _ (And.intro (hN _ _ _ rfl) ?_); show P _ _ (aR _ _ :: _) _ _ _))
    refine hP _ _ _ _ _ _ (c_best (w := 1) (by omega) hS1.1 (by omega) (fun S2 g2 => ?_))
    have hS2 := hS1.th g2
    have := hnext S2 (beI tv0 (RF n D u) 2) hS2
    rw [c2]
    repeat (first | (refine hP _ _ _ _ _ _ ?_; show P _ _ _ _ _ _) | (refine hP _ _ _ _ _ _ (And.intro (hN _ _ _ rfl) ?_); show P _ _ (aR _ _ :: _) _ _ _))
    refine hP _ _ _ _ _ _ (And.intro (fun _ => ?_) (fun hc => absurd rfl hc))
    exact this
  repeat (first | (refine hP _ _ _ _ _ _ ?_; show P _ _ _ _ _ _) | (refine hP _ _ _ _ _ _ (And.intro (hN _ _ _ rfl) ?_); show P _ _ (aR _ _ :: _) _ _ _))
  refine hP _ _ _ _ _ _ (c_best (w := 2) (by omega) hS.1 (by omega) (fun S1 g1 => ?_))
  have hS1 := hS.th g1
  repeat (first | (refine hP _ _ _ _ _ _ ?_; show P _ _ _ _ _ _) | (refine hP _ _ _ _ _ _ (And.intro (hN _ _ _ rfl) ?_); show P _ _ (aR _ _ :: _) _ _ _))
  refine hP _ _ _ _ _ _ (c_bits (by omega) ?_)
  rw [c1]
  repeat (first | (refine hP _ _ _ _ _ _ ?_; show P _ _ _ _ _ _) | (refine hP _ _ _ _ _ _ (And.intro (hN _ _ _ rfl) ?_); show P _ _ (aR _ _ :: _) _ _ _))
  refine hP _ _ _ _ _ _ (And.intro (by decide) ?_)
  rw [show nI n - nI n / 2 * 2 = nI (n % 2) from pk_rem (d := 2) (by omega) (by decide) (by decide)]
  repeat (first | (refine hP _ _ _ _ _ _ ?_; show P _ _ _ _ _ _) | (refine hP _ _ _ _ _ _ (And.intro (hN _ _ _ rfl) ?_); show P _ _ (aR _ _ :: _) _ _ _))
  refine hP _ _ _ _ _ _ (And.intro (fun hc => absurd hc (fun z => z rfl)) (fun _ => ?_))
  repeat (first | (refine hP _ _ _ _ _ _ ?_; show P _ _ _ _ _ _) | (refine hP _ _ _ _ _ _ (And.intro (hN _ _ _ rfl) ?_); show P _ _ (aR _ _ :: _) _ _ _))
  refine hP _ _ _ _ _ _ (c_best (w := 1) (by omega) hS1.1 (by omega) (fun S2 g2 => ?_))
  have hS2 := hS1.th g2
  have tail := tail S2 hS2
  rw [c2]
  repeat (first | (refine hP _ _ _ _ _ _ ?_; show P _ _ _ _ _ _) | (refine hP _ _ _ _ _ _ (And.intro (hN _ _ _ rfl) ?_); show P _ _ (aR _ _ :: _) _ _ _))
  by_cases hn : n = 2
  · subst hn
    refine hP _ _ _ _ _ _ (And.intro (fun hc => absurd hc (fun z => z rfl)) (fun _ => ?_))
    repeat (first | (refine hP _ _ _ _ _ _ ?_; show P _ _ _ _ _ _) | (refine hP _ _ _ _ _ _ (And.intro (hN _ _ _ rfl) ?_); show P _ _ (aR _ _ :: _) _ _ _))
    refine hP _ _ _ _ _ _ (And.intro (fun hc => absurd hc (fun z => z rfl)) (fun _ => ?_))
    exact tail
  · have e : hfN n = n / 2 := if_neg hn
    refine hP _ _ _ _ _ _ (And.intro (fun _ => ?_) (fun hc => absurd hc (n2 h5 hn)))
    repeat (first | (refine hP _ _ _ _ _ _ ?_; show P _ _ _ _ _ _) | (refine hP _ _ _ _ _ _ (And.intro (hN _ _ _ rfl) ?_); show P _ _ (aR _ _ :: _) _ _ _))
    refine hP _ _ _ _ _ _ (And.intro (by decide) ?_)
    rw [show nI n / 2 = nI (n / 2) from pk_div (d := 2) (by omega) (by decide) (by decide), e]
    repeat (first | (refine hP _ _ _ _ _ _ ?_; show P _ _ _ _ _ _) | (refine hP _ _ _ _ _ _ (And.intro (hN _ _ _ rfl) ?_); show P _ _ (aR _ _ :: _) _ _ _))
    refine hP _ _ _ _ _ _ (And.intro (fun hc => absurd hc (fun z => z rfl)) (fun _ => ?_))
    exact tail
def m4N (D : Nat) : Nat := if D < 4 then D else 4
theorem min4 {D : Nat} (d9 : D ≤ 9) : (if (4 : Int32) < nI D then (4 : Int32) else nI D) = nI (m4N D) := by
  have h : ∀ D, D ≤ 9 → (if (4 : Int32) < nI D then (4 : Int32) else nI D) = nI (m4N D) := by decide
  exact h D d9
theorem mnk {D k : Nat} (d9 : D ≤ 9) (hk : k ≤ 8) : nI D - (if nI (m4N D) < nI k then nI (m4N D) else nI k) = nI (mn4 D k) := by
  have h : ∀ D, D ≤ 9 → ∀ k, k ≤ 8 → nI D - (if nI (m4N D) < nI k then nI (m4N D) else nI k) = nI (mn4 D k) := by decide +kernel
  exact h D d9 k hk
theorem fE {D : Nat} (d1 : 1 ≤ D) (d9 : D ≤ 9) (u : Nat → Nat) : (∀ k, k < 8 → rnI (itF tv0 (RF 2 D u) k) 2 0 1 = nI (mn4 D k) ∧ rnI (itF tv0 (RF 2 D u) k) 0 0 1 = nI (2 * mn4 D k)) ∧ beI tv0 (RF 2 D u) 7 = nI (m4N D) ∧ beI tv0 (RF 2 D u) 4 = if D < 4 then nI D else -1 := by
  have h := cuT_at chE_ok (Nat.le_refl 2) (by omega) d1 d9
  simp only [chE, Bool.or_eq_true, Bool.and_eq_true, decide_eq_true_eq] at h
  rcases h with h | ⟨⟨a1, a2⟩, a3⟩
  · exact absurd trivial h
  have hz := fun w => be_z (RF_P 2 D u) w
  refine ⟨fun k hk => ?_, (hz 7).symm.trans a2, (hz 4).symm.trans a3⟩
  have h6 := al_iff.mp a1 k hk
  simp only [Bool.and_eq_true, decide_eq_true_eq] at h6
  have hi := (itF_z (RF_P 2 D u) k).2
  have e1 : rnI (itF tv0 (RF 2 D u).z k) 2 0 1 = nI (mn4 D k) := h6.1
  have e2 : rnI (itF tv0 (RF 2 D u).z k) 0 0 1 = nI (2 * mn4 D k) := h6.2
  rw [hi] at e1 e2
  exact ⟨e1, e2⟩
theorem lw_7 {e : Nat} {P : PT} {K : KT} {t fc fs : Nat} (he : 300 ≤ e) (hP : ∀ pc L st S fc fs, F m_L_law (Call e) K P pc L st S fc fs → P pc L st S fc fs) {n D : Nat} (hn : n = 2) (d1 : 1 ≤ D) (d9 : D ≤ 9) (u : Nat → Nat) {d5 d6 d7 : Int32} (hnext : ∀ S x8 x9, LW S (RF n D u) → P 569 [some (aR 60 0), some (aI (nI t)), some (aR 0 0), some (aI (nI n)), some (aI (nI D)), some (aI d5), some (aI d6), some (aI d7), x8, x9, none, none] [] S fc fs) : ∀ k, k ≤ 8 → ∀ S, LW S (RF n D u) → P 479 [some (aR 60 0), some (aI (nI t)), some (aR 0 0), some (aI (nI n)), some (aI (nI D)), some (aI d5), some (aI d6), some (aI d7), some (aI (nI (m4N D))), some (aI (nI k)), none, none] [aI 8, aI (nI k)] S fc fs := by
  subst hn
  obtain ⟨c1, c2, c3⟩ := fE d1 d9 u
  have hN : True := trivial
  have hm : m4N D ≤ 4 := by unfold m4N; split <;> omega
  refine dn ?_ ?_
  · intro S hS
    refine hP _ _ _ _ _ _ (And.intro (fun _ => ?_) (fun hc => absurd (nI_le (a := 8) (b := 8) (by omega) (by omega)) hc))
    repeat (first | (refine hP _ _ _ _ _ _ ?_; show P _ _ _ _ _ _) | (refine hP _ _ _ _ _ _ (And.intro (hN _ _ _ rfl) ?_); show P _ _ (aR _ _ :: _) _ _ _))
    refine hP _ _ _ _ _ _ (c_best (w := 7) (by omega) hS.1 (by omega) (fun S1 g1 => ?_))
    have hS1 := hS.th g1
    rw [c2]
    repeat (first | (refine hP _ _ _ _ _ _ ?_; show P _ _ _ _ _ _) | (refine hP _ _ _ _ _ _ (And.intro (hN _ _ _ rfl) ?_); show P _ _ (aR _ _ :: _) _ _ _))
    refine hP _ _ _ _ _ _ (And.intro (fun hc => absurd hc (fun z => z rfl)) (fun _ => ?_))
    repeat (first | (refine hP _ _ _ _ _ _ ?_; show P _ _ _ _ _ _) | (refine hP _ _ _ _ _ _ (And.intro (hN _ _ _ rfl) ?_); show P _ _ (aR _ _ :: _) _ _ _))
    refine hP _ _ _ _ _ _ (c_best (w := 4) (by omega) hS1.1 (by omega) (fun S2 g2 => ?_))
    have hS2 := hS1.th g2
    have := hnext S2 (some (aI (nI (m4N D)))) (some (aI (nI 8))) hS2
    rw [c3]
    repeat (first | (refine hP _ _ _ _ _ _ ?_; show P _ _ _ _ _ _) | (refine hP _ _ _ _ _ _ (And.intro (hN _ _ _ rfl) ?_); show P _ _ (aR _ _ :: _) _ _ _))
    by_cases c : D < 4
    · rw [if_pos c]
      refine hP _ _ _ _ _ _ (And.intro (fun hc => absurd hc (nI_ge (a := D) (b := 4) c (by omega))) (fun _ => ?_))
      repeat (first | (refine hP _ _ _ _ _ _ ?_; show P _ _ _ _ _ _) | (refine hP _ _ _ _ _ _ (And.intro (hN _ _ _ rfl) ?_); show P _ _ (aR _ _ :: _) _ _ _))
      refine hP _ _ _ _ _ _ (And.intro (fun _ => ?_) (fun hc => absurd rfl hc))
      exact this
    · rw [if_neg c]
      refine hP _ _ _ _ _ _ (And.intro (fun _ => ?_) (fun hc => absurd (nI_le (a := 4) (b := D) (by omega) (by omega)) hc))
      repeat (first | (refine hP _ _ _ _ _ _ ?_; show P _ _ _ _ _ _) | (refine hP _ _ _ _ _ _ (And.intro (hN _ _ _ rfl) ?_); show P _ _ (aR _ _ :: _) _ _ _))
      refine hP _ _ _ _ _ _ (And.intro (fun _ => ?_) (fun hc => absurd rfl hc))
      exact this
  · intro k hk ih S hS
    obtain ⟨e1, e2⟩ := c1 k hk
    rw [nI_succ k] at ih
    refine hP _ _ _ _ _ _ (And.intro (fun hc => absurd hc (nI_ge (a := k) (b := 8) hk (by omega))) (fun _ => ?_))
    repeat (first | (refine hP _ _ _ _ _ _ ?_; show P _ _ _ _ _ _) | (refine hP _ _ _ _ _ _ (And.intro (hN _ _ _ rfl) ?_); show P _ _ (aR _ _ :: _) _ _ _))
    refine hP _ _ _ _ _ _ (c_run (w := 2) (a := 0) (b := 1) (by omega) hS.1 (by omega) (by omega) (fun _ => ⟨show 0 < 2 by omega, show 1 < 2 by omega, by omega, rfl, rfl⟩) (fun S1 g1 => ?_))
    have hS1 := hS.th g1
    rw [e1]
    repeat (first | (refine hP _ _ _ _ _ _ ?_; show P _ _ _ _ _ _) | (refine hP _ _ _ _ _ _ (And.intro (hN _ _ _ rfl) ?_); show P _ _ (aR _ _ :: _) _ _ _))
    rw [mnk d9 (by omega)]
    refine hP _ _ _ _ _ _ (And.intro (fun hc => absurd hc (fun z => z rfl)) (fun _ => ?_))
    repeat (first | (refine hP _ _ _ _ _ _ ?_; show P _ _ _ _ _ _) | (refine hP _ _ _ _ _ _ (And.intro (hN _ _ _ rfl) ?_); show P _ _ (aR _ _ :: _) _ _ _))
    refine hP _ _ _ _ _ _ (c_run (w := 0) (a := 0) (b := 1) (by omega) hS1.1 (by omega) (by omega) (fun z => by omega) (fun S2 g2 => ?_))
    have hS2 := hS1.th g2
    rw [e2]
    repeat (first | (refine hP _ _ _ _ _ _ ?_; show P _ _ _ _ _ _) | (refine hP _ _ _ _ _ _ (And.intro (hN _ _ _ rfl) ?_); show P _ _ (aR _ _ :: _) _ _ _))
    rw [mnk d9 (by omega), show (2 : Int32) * nI (mn4 D k) = nI (2 * mn4 D k) from pk_mul 2 _]
    have := ih S2 hS2
    refine hP _ _ _ _ _ _ (And.intro (fun _ => ?_) (fun hc => absurd rfl hc))
    repeat (first | (refine hP _ _ _ _ _ _ ?_; show P _ _ _ _ _ _) | (refine hP _ _ _ _ _ _ (And.intro (hN _ _ _ rfl) ?_); show P _ _ (aR _ _ :: _) _ _ _))
    exact this
theorem lw_7e {e : Nat} {P : PT} {K : KT} {t fc fs : Nat} (he : 300 ≤ e) (hP : ∀ pc L st S fc fs, F m_L_law (Call e) K P pc L st S fc fs → P pc L st S fc fs) {n D : Nat} (h2 : 2 ≤ n) (h5 : n ≤ 5) (d1 : 1 ≤ D) (d9 : D ≤ 9) (u : Nat → Nat) {d5 d6 d7 : Int32} (hnext : ∀ S x8 x9, LW S (RF n D u) → P 569 [some (aR 60 0), some (aI (nI t)), some (aR 0 0), some (aI (nI n)), some (aI (nI D)), some (aI d5), some (aI d6), some (aI d7), x8, x9, none, none] [] S fc fs) {S : St} (hS : LW S (RF n D u)) : P 459 [some (aR 60 0), some (aI (nI t)), some (aR 0 0), some (aI (nI n)), some (aI (nI D)), some (aI d5), some (aI d6), some (aI d7), none, none, none, none] [] S fc fs := by
  have hN : True := trivial
  by_cases hn : n = 2
  · have := lw_7 he hP hn d1 d9 u hnext 0 (by omega) S hS
    subst hn
    repeat (first | (refine hP _ _ _ _ _ _ ?_; show P _ _ _ _ _ _) | (refine hP _ _ _ _ _ _ (And.intro (hN _ _ _ rfl) ?_); show P _ _ (aR _ _ :: _) _ _ _))
    refine hP _ _ _ _ _ _ (And.intro (fun hc => absurd hc (fun z => z rfl)) (fun _ => ?_))
    repeat (first | (refine hP _ _ _ _ _ _ ?_; show P _ _ _ _ _ _) | (refine hP _ _ _ _ _ _ (And.intro (hN _ _ _ rfl) ?_); show P _ _ (aR _ _ :: _) _ _ _))
    rw [min4 d9]
    repeat (first | (refine hP _ _ _ _ _ _ ?_; show P _ _ _ _ _ _) | (refine hP _ _ _ _ _ _ (And.intro (hN _ _ _ rfl) ?_); show P _ _ (aR _ _ :: _) _ _ _))
    exact this
  · have := hnext S none none hS
    repeat (first | (refine hP _ _ _ _ _ _ ?_; show P _ _ _ _ _ _) | (refine hP _ _ _ _ _ _ (And.intro (hN _ _ _ rfl) ?_); show P _ _ (aR _ _ :: _) _ _ _))
    refine hP _ _ _ _ _ _ (And.intro (fun _ => ?_) (fun hc => absurd hc (n2 h5 hn)))
    exact this
