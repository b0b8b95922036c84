/-! the law's turn: what is to be seen of the ring -/
theorem fA {n D : Nat} (h2 : 2 ≤ n) (h5 : n ≤ 5) (d1 : 1 ≤ D) (d9 : D ≤ 9) (u : Nat → Nat) : oA (RF n D u) = n * D ∧ beI tv0 (RF n D u) 5 = 0 ∧ beI tv0 (RF n D u) 6 = nI n ∧ beI tv0 (RF n D u) 8 = 0 ∧ ∀ p, p < n → oS (RF n D u) p = D ∧ oT (RF n D u) p = D ∧ myN tv0 (RF n D u) p ((p + 1) % n) = true := by
  have h := cuT_at chA_ok h2 h5 d1 d9
  simp only [chA, Bool.and_eq_true, decide_eq_true_eq] at h
  obtain ⟨⟨⟨⟨a1, a2⟩, a3⟩, a4⟩, a5⟩ := h
  have hz := fun w => be_z (RF_P n D u) w
  refine ⟨a1, (hz 5).symm.trans a2, (hz 6).symm.trans a3, (hz 8).symm.trans a4, fun p hp => ?_⟩
  have h6 := al_iff.mp a5 p hp
  simp only [Bool.and_eq_true, decide_eq_true_eq] at h6
  exact ⟨h6.1.1, h6.1.2, (my_z (RF_P n D u) p ((p + 1) % n)).symm.trans h6.2⟩
theorem nxt {n p : Nat} (h2 : 2 ≤ n) (hp : p < n) : (p + 1) % n < n ∧ ¬ p = (p + 1) % n := by
  refine ⟨Nat.mod_lt _ (by omega), fun z => ?_⟩
  by_cases c : p + 1 = n
  · rw [c, Nat.mod_self] at z
    omega
  · rw [Nat.mod_eq_of_lt (by omega)] at z
    omega
theorem w1D {D : Nat} (d1 : 1 ≤ D) (d9 : D ≤ 9) : wN 1 D = 1 := by
  have h : ∀ D, D ≤ 9 → 1 ≤ D → wN 1 D = 1 := by decide
  exact h D d9 d1
theorem gcL {n D : Nat} (d1 : 1 ≤ D) : loL D (n * D) 0 = 1 ∧ loL D (n * D) 1 = lN n := by
  have e : Nat.gcd D (n * D) = D := Nat.gcd_eq_left (Nat.dvd_mul_left D n)
  constructor
  · show lN (D / Nat.gcd D (n * D)) = 1
    rw [e, Nat.div_self (by omega)]
    rfl
  · show lN (n * D / Nat.gcd D (n * D)) = lN n
    rw [e, Nat.mul_div_cancel _ (by omega)]
theorem lw_3 {e : Nat} {P : PT} {K : KT} {t fc fs : Nat} (he : 300 ≤ e) (hP : ∀ pc L st S fc fs, F m_L_law (Call e) K P pc L st S fc fs → P pc L st S fc fs) {n D : Nat} {d5 : Int32} (h2 : 2 ≤ n) (h5 : n ≤ 5) (d1 : 1 ≤ D) (d9 : D ≤ 9) (u : Nat → Nat) (hnext : ∀ S, LW S (RF n D u) → P 188 [some (aR 60 0), some (aI (nI t)), some (aR 0 0), some (aI (nI n)), some (aI (nI D)), some (aI d5), some (aI (nI n)), none, none, none, none, none] [aI (nI n), aI (nI n)] S fc fs) : ∀ p, p ≤ n → ∀ S, LW S (RF n D u) → P 188 [some (aR 60 0), some (aI (nI t)), some (aR 0 0), some (aI (nI n)), some (aI (nI D)), some (aI d5), some (aI (nI p)), none, none, none, none, none] [aI (nI n), aI (nI p)] S fc fs := by
  have hf := fA h2 h5 d1 d9 u
  have hnD : n * D ≤ 45 := Nat.mul_le_mul h5 d9
  have hnD1 : 0 < n * D := Nat.mul_pos (by omega) (by omega)
  have hg := gcL (n := n) d1
  refine dn ?_ ?_
  · exact hnext
  · intro p hp ih S hS
    have hN : True := trivial
    obtain ⟨f1, f2, f3⟩ := hf.2.2.2.2 p hp
    obtain ⟨q1, q2⟩ := nxt h2 hp
    have hpn : p < (RF n D u).n := hp
    have h5n : (RF n D u).n ≤ 5 := h5
    have hqn : (p + 1) % n < (RF n D u).n := q1
    have how : (RF n D u).ow p ((p + 1) % n) = D := if_pos rfl
    rw [nI_succ p] at ih
    refine hP _ _ _ _ _ _ (And.intro (fun hc => absurd hc (nI_ge hp (by omega))) (fun _ => ?_))
    repeat (first | (refine hP _ _ _ _ _ _ ?_; show P _ _ _ _ _ _) | (refine hP _ _ _ _ _ _ (And.intro (hN _ _ _ rfl) ?_); show P _ _ (aR _ _ :: _) _ _ _))
    refine hP _ _ _ _ _ _ (c_told (w := 7) (by omega) hS.1 (by omega) (fun S1 g1 => ?_))
    have hS1 := hS.th (g1.mono w0_th)
    rw [(td_w (tv := tv0) hpn h5n).2.2.1, f1]
    repeat (first | (refine hP _ _ _ _ _ _ ?_; show P _ _ _ _ _ _) | (refine hP _ _ _ _ _ _ (And.intro (hN _ _ _ rfl) ?_); show P _ _ (aR _ _ :: _) _ _ _))
    refine hP _ _ _ _ _ _ (And.intro (fun hc => absurd hc (fun z => z rfl)) (fun _ => ?_))
    repeat (first | (refine hP _ _ _ _ _ _ ?_; show P _ _ _ _ _ _) | (refine hP _ _ _ _ _ _ (And.intro (hN _ _ _ rfl) ?_); show P _ _ (aR _ _ :: _) _ _ _))
    refine hP _ _ _ _ _ _ (c_told (w := 8) (by omega) hS1.1 (by omega) (fun S2 g2 => ?_))
    have hS2 := hS1.th (g2.mono w0_th)
    rw [(td_w (tv := tv0) hpn h5n).2.2.2, f2]
    repeat (first | (refine hP _ _ _ _ _ _ ?_; show P _ _ _ _ _ _) | (refine hP _ _ _ _ _ _ (And.intro (hN _ _ _ rfl) ?_); show P _ _ (aR _ _ :: _) _ _ _))
    refine hP _ _ _ _ _ _ (And.intro (fun hc => absurd hc (fun z => z rfl)) (fun _ => ?_))
    repeat (first | (refine hP _ _ _ _ _ _ ?_; show P _ _ _ _ _ _) | (refine hP _ _ _ _ _ _ (And.intro (hN _ _ _ rfl) ?_); show P _ _ (aR _ _ :: _) _ _ _))
    refine hP _ _ _ _ _ _ (And.intro (nI_nz (by omega) (by omega)) ?_)
    rw [show nI p + 1 - (nI p + 1) / nI n * nI n = nI ((p + 1) % n) from by rw [nI_1]; exact pk_rem (by omega) (by omega) (by omega)]
    repeat (first | (refine hP _ _ _ _ _ _ ?_; show P _ _ _ _ _ _) | (refine hP _ _ _ _ _ _ (And.intro (hN _ _ _ rfl) ?_); show P _ _ (aR _ _ :: _) _ _ _))
    refine hP _ _ _ _ _ _ (c_asks (w := 0) (by omega) hS2.1 hpn hqn q2 (Or.inl rfl) (fun S3 g3 => ?_))
    have hS3 := hS2.th (g3.mono w0_th)
    rw [if_pos rfl, how, py0 rfl, w1D d1 d9]
    repeat (first | (refine hP _ _ _ _ _ _ ?_; show P _ _ _ _ _ _) | (refine hP _ _ _ _ _ _ (And.intro (hN _ _ _ rfl) ?_); show P _ _ (aR _ _ :: _) _ _ _))
    refine hP _ _ _ _ _ _ (And.intro (fun hc => absurd hc (fun z => z rfl)) (fun _ => ?_))
    repeat (first | (refine hP _ _ _ _ _ _ ?_; show P _ _ _ _ _ _) | (refine hP _ _ _ _ _ _ (And.intro (hN _ _ _ rfl) ?_); show P _ _ (aR _ _ :: _) _ _ _))
    refine hP _ _ _ _ _ _ (And.intro (nI_nz (by omega) (by omega)) ?_)
    rw [show nI p + 1 - (nI p + 1) / nI n * nI n = nI ((p + 1) % n) from by rw [nI_1]; exact pk_rem (by omega) (by omega) (by omega)]
    repeat (first | (refine hP _ _ _ _ _ _ ?_; show P _ _ _ _ _ _) | (refine hP _ _ _ _ _ _ (And.intro (hN _ _ _ rfl) ?_); show P _ _ (aR _ _ :: _) _ _ _))
    refine hP _ _ _ _ _ _ (c_asks (w := 2) (by omega) hS3.1 hpn hqn q2 (Or.inr rfl) (fun S4 g4 => ?_))
    have hS4 := hS3.th (g4.mono w0_th)
    rw [if_neg (by omega), f3]
    repeat (first | (refine hP _ _ _ _ _ _ ?_; show P _ _ _ _ _ _) | (refine hP _ _ _ _ _ _ (And.intro (hN _ _ _ rfl) ?_); show P _ _ (aR _ _ :: _) _ _ _))
    refine hP _ _ _ _ _ _ (And.intro (fun _ => ?_) (fun hc => absurd rfl hc))
    repeat (first | (refine hP _ _ _ _ _ _ ?_; show P _ _ _ _ _ _) | (refine hP _ _ _ _ _ _ (And.intro (hN _ _ _ rfl) ?_); show P _ _ (aR _ _ :: _) _ _ _))
    refine hP _ _ _ _ _ _ (c_share (p := 0) (by omega) hS4.1 hpn (by omega) (by rw [hf.1]; omega) ?_)
    rw [f1, hf.1, hg.1]
    repeat (first | (refine hP _ _ _ _ _ _ ?_; show P _ _ _ _ _ _) | (refine hP _ _ _ _ _ _ (And.intro (hN _ _ _ rfl) ?_); show P _ _ (aR _ _ :: _) _ _ _))
    refine hP _ _ _ _ _ _ (And.intro (fun hc => absurd hc (fun z => z ((lg_cmp_eq _ _).mpr rfl))) (fun _ => ?_))
    repeat (first | (refine hP _ _ _ _ _ _ ?_; show P _ _ _ _ _ _) | (refine hP _ _ _ _ _ _ (And.intro (hN _ _ _ rfl) ?_); show P _ _ (aR _ _ :: _) _ _ _))
    refine hP _ _ _ _ _ _ (c_share (p := 1) (by omega) hS4.1 hpn (by omega) (by rw [hf.1]; omega) ?_)
    rw [f1, hf.1, hg.2]
    repeat (first | (refine hP _ _ _ _ _ _ ?_; show P _ _ _ _ _ _) | (refine hP _ _ _ _ _ _ (And.intro (hN _ _ _ rfl) ?_); show P _ _ (aR _ _ :: _) _ _ _))
    rw [nI_l (by omega)]
    refine hP _ _ _ _ _ _ (And.intro (fun _ => ?_) (fun hc => absurd ((lg_cmp_eq _ _).mpr rfl) hc))
    have := ih S4 hS4
    repeat (first | (refine hP _ _ _ _ _ _ ?_; show P _ _ _ _ _ _) | (refine hP _ _ _ _ _ _ (And.intro (hN _ _ _ rfl) ?_); show P _ _ (aR _ _ :: _) _ _ _))
    exact this
theorem lw_2e {e : Nat} {P : PT} {K : KT} {t fc fs : Nat} (he : 300 ≤ e) (hP : ∀ pc L st S fc fs, F m_L_law (Call e) K P pc L st S fc fs → P pc L st S fc fs) {n D : Nat} {d5 : Int32} (h2 : 2 ≤ n) (h5 : n ≤ 5) (d1 : 1 ≤ D) (d9 : D ≤ 9) (u : Nat → Nat) (hnext : ∀ S, LW S (RF n D u) → P 188 [some (aR 60 0), some (aI (nI t)), some (aR 0 0), some (aI (nI n)), some (aI (nI D)), some (aI d5), some (aI (nI n)), none, none, none, none, none] [aI (nI n), aI (nI n)] S fc fs) {S : St} (hS : LW S (RF n D u)) : P 96 [some (aR 60 0), some (aI (nI t)), some (aR 0 0), some (aI (nI n)), some (aI (nI D)), some (aI d5), some (aI (nI n)), none, none, none, none, none] [aI (nI n), aI (nI n)] S fc fs := by
  have hf := fA h2 h5 d1 d9 u
  have hN : True := trivial
  refine hP _ _ _ _ _ _ (And.intro (fun _ => ?_) (fun hc => absurd (nI_le (Nat.le_refl n) (by omega)) hc))
  repeat (first | (refine hP _ _ _ _ _ _ ?_; show P _ _ _ _ _ _) | (refine hP _ _ _ _ _ _ (And.intro (hN _ _ _ rfl) ?_); show P _ _ (aR _ _ :: _) _ _ _))
  refine hP _ _ _ _ _ _ (c_count1 (by omega) hS.1 ?_)
  rw [hf.1]
  repeat (first | (refine hP _ _ _ _ _ _ ?_; show P _ _ _ _ _ _) | (refine hP _ _ _ _ _ _ (And.intro (hN _ _ _ rfl) ?_); show P _ _ (aR _ _ :: _) _ _ _))
  rw [pk_mul n D]
  refine hP _ _ _ _ _ _ (And.intro (fun hc => absurd hc (fun z => z rfl)) (fun _ => ?_))
  repeat (first | (refine hP _ _ _ _ _ _ ?_; show P _ _ _ _ _ _) | (refine hP _ _ _ _ _ _ (And.intro (hN _ _ _ rfl) ?_); show P _ _ (aR _ _ :: _) _ _ _))
  refine hP _ _ _ _ _ _ (c_best (w := 5) (by omega) hS.1 (by omega) (fun S1 g1 => ?_))
  have hS1 := hS.th g1
  rw [hf.2.1]
  repeat (first | (refine hP _ _ _ _ _ _ ?_; show P _ _ _ _ _ _) | (refine hP _ _ _ _ _ _ (And.intro (hN _ _ _ rfl) ?_); show P _ _ (aR _ _ :: _) _ _ _))
  refine hP _ _ _ _ _ _ (And.intro (fun hc => absurd hc (fun z => z rfl)) (fun _ => ?_))
  repeat (first | (refine hP _ _ _ _ _ _ ?_; show P _ _ _ _ _ _) | (refine hP _ _ _ _ _ _ (And.intro (hN _ _ _ rfl) ?_); show P _ _ (aR _ _ :: _) _ _ _))
  refine hP _ _ _ _ _ _ (c_best (w := 6) (by omega) hS1.1 (by omega) (fun S2 g2 => ?_))
  have hS2 := hS1.th g2
  rw [hf.2.2.1]
  repeat (first | (refine hP _ _ _ _ _ _ ?_; show P _ _ _ _ _ _) | (refine hP _ _ _ _ _ _ (And.intro (hN _ _ _ rfl) ?_); show P _ _ (aR _ _ :: _) _ _ _))
  refine hP _ _ _ _ _ _ (And.intro (fun hc => absurd hc (fun z => z rfl)) (fun _ => ?_))
  repeat (first | (refine hP _ _ _ _ _ _ ?_; show P _ _ _ _ _ _) | (refine hP _ _ _ _ _ _ (And.intro (hN _ _ _ rfl) ?_); show P _ _ (aR _ _ :: _) _ _ _))
  refine hP _ _ _ _ _ _ (c_best (w := 8) (by omega) hS2.1 (by omega) (fun S3 g3 => ?_))
  have hS3 := hS2.th g3
  rw [hf.2.2.2.1]
  have := lw_3 he hP h2 h5 d1 d9 u hnext 0 (by omega) S3 hS3
  repeat (first | (refine hP _ _ _ _ _ _ ?_; show P _ _ _ _ _ _) | (refine hP _ _ _ _ _ _ (And.intro (hN _ _ _ rfl) ?_); show P _ _ (aR _ _ :: _) _ _ _))
  refine hP _ _ _ _ _ _ (And.intro (fun _ => ?_) (fun hc => absurd rfl hc))
  repeat (first | (refine hP _ _ _ _ _ _ ?_; show P _ _ _ _ _ _) | (refine hP _ _ _ _ _ _ (And.intro (hN _ _ _ rfl) ?_); show P _ _ (aR _ _ :: _) _ _ _))
  exact this
