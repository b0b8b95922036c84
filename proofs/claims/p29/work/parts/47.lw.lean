/-! the law's turn: forty rounds; a round, a night -/
theorem oA_z (G : Fl) : oA G.z = oA G := rfl
theorem rn_z (G : Fl) (a b : Nat) : rnI G.z 0 a b = rnI G 0 a b := rfl
theorem fF {n D : Nat} (h2 : 2 ≤ n) (h5 : n ≤ 5) (d1 : 1 ≤ D) (d9 : D ≤ 9) (u : Nat → Nat) : ¬ rnI (itF tv0 (RF n D u) 40) 0 0 1 < lsN n D ∧ beI tv0 (RF n D u) 7 ≤ 20 ∧ 1 ≤ beI tv0 (RF n D u) 7 := by
  have h := cuT_at chF_ok h2 h5 d1 d9
  simp only [chF, Bool.and_eq_true, decide_eq_true_eq] at h
  obtain ⟨⟨a1, a2⟩, a3⟩ := h
  have hz := be_z (RF_P n D u) 7
  have hi := (itF_z (RF_P n D u) 40).2
  have e1 : ¬ rnI (itF tv0 (RF n D u).z 40) 0 0 1 < lsN n D := a1
  have e2 : beI tv0 (RF n D u).z 7 ≤ 20 := a2
  have e3 : 1 ≤ beI tv0 (RF n D u).z 7 := a3
  rw [hi, rn_z] at e1
  rw [hz] at e2 e3
  exact ⟨e1, e2, e3⟩
theorem fG {n D : Nat} (h2 : 2 ≤ n) (h5 : n ≤ 5) (d1 : 1 ≤ D) (d9 : D ≤ 9) (u : Nat → Nat) : rdP tv0 (RF n D u) = hfN n ∧ oA (rdF tv0 (RF n D u)) = n * D - hfN n ∧ hfN n ≤ n * D ∧ sN (rdF tv0 (RF n D u)).dn n = n / 2 * 2 := by
  have h := cuT_at chG_ok h2 h5 d1 d9
  unfold chG at h
  obtain ⟨z1, z2, -, -⟩ := rd_z (RF_P n D u)
  have ez : RF n D z9 = (RF n D u).z := rfl
  rw [ez, z1, z2, oA_z, zdn] at h
  generalize rdF tv0 (RF n D u) = G at h ⊢
  generalize rdP tv0 (RF n D u) = q at h ⊢
  simp only [Bool.and_eq_true, decide_eq_true_eq] at h
  exact ⟨h.1.1.1, h.1.1.2, h.1.2, h.2⟩
theorem lw_8 {e : Nat} {P : PT} {K : KT} {t fc fs : Nat} (he : 300 ≤ e) (hP : ∀ pc L st S fc fs, F m_L_law (Call e) K P pc L st S fc fs → P pc L st S fc fs) {n D : Nat} (h2 : 2 ≤ n) (h5 : n ≤ 5) (d1 : 1 ≤ D) (d9 : D ≤ 9) (u : Nat → Nat) {d5 d6 d7 : Int32} {x8 x9 : Option AV} (hnext : ∀ S d8, LW S (RF n D u) → P 628 [some (aR 60 0), some (aI (nI t)), some (aR 0 0), some (aI (nI n)), some (aI (nI D)), some (aI d5), some (aI d6), some (aI d7), some (aI d8), x9, none, none] [] S fc fs) {S : St} (hS : LW S (RF n D u)) : P 569 [some (aR 60 0), some (aI (nI t)), some (aR 0 0), some (aI (nI n)), some (aI (nI D)), some (aI d5), some (aI d6), some (aI d7), x8, x9, none, none] [] S fc fs := by
  obtain ⟨c1, c2, c3⟩ := fF h2 h5 d1 d9 u
  have hA := (fA h2 h5 d1 d9 u).1
  have hN : True := trivial
  have tail : P 597 [some (aR 60 0), some (aI (nI t)), some (aR 0 0), some (aI (nI n)), some (aI (nI D)), some (aI d5), some (aI d6), some (aI d7), some (aI (lsN n D)), x9, none, none] [aI 0, aI 1, aI 0, aI 40, aR 0 0] S fc fs := by
    refine hP _ _ _ _ _ _ (c_run (n := 40) (w := 0) (a := 0) (b := 1) (by omega) hS.1 (by omega) (by omega) (fun z => by omega) (fun S1 g1 => ?_))
    have hS1 := hS.th g1
    generalize rnI (itF tv0 (RF n D u) 40) 0 0 1 = r at c1 ⊢
    repeat (first | (refine hP _ _ _ _ _ _ ?_; show P _ _ _ _ _ _) | (refine hP _ _ _ _ _ _ (And.intro (hN _ _ _ rfl) ?_); show P _ _ (aR _ _ :: _) _ _ _))
    refine hP _ _ _ _ _ _ (And.intro (fun hc => absurd hc c1) (fun _ => ?_))
    repeat (first | (refine hP _ _ _ _ _ _ ?_; show P _ _ _ _ _ _) | (refine hP _ _ _ _ _ _ (And.intro (hN _ _ _ rfl) ?_); show P _ _ (aR _ _ :: _) _ _ _))
    refine hP _ _ _ _ _ _ (c_best (w := 7) (by omega) hS1.1 (by omega) (fun S2 g2 => ?_))
    have hS2 := hS1.th g2
    repeat (first | (refine hP _ _ _ _ _ _ ?_; show P _ _ _ _ _ _) | (refine hP _ _ _ _ _ _ (And.intro (hN _ _ _ rfl) ?_); show P _ _ (aR _ _ :: _) _ _ _))
    refine hP _ _ _ _ _ _ (And.intro (fun hc => absurd hc (Int32.not_lt.mpr c2)) (fun _ => ?_))
    repeat (first | (refine hP _ _ _ _ _ _ ?_; show P _ _ _ _ _ _) | (refine hP _ _ _ _ _ _ (And.intro (hN _ _ _ rfl) ?_); show P _ _ (aR _ _ :: _) _ _ _))
    refine hP _ _ _ _ _ _ (c_best (w := 7) (by omega) hS2.1 (by omega) (fun S3 g3 => ?_))
    have := hnext S3 (lsN n D) (hS2.th g3)
    repeat (first | (refine hP _ _ _ _ _ _ ?_; show P _ _ _ _ _ _) | (refine hP _ _ _ _ _ _ (And.intro (hN _ _ _ rfl) ?_); show P _ _ (aR _ _ :: _) _ _ _))
    refine hP _ _ _ _ _ _ (And.intro (fun _ => ?_) (fun hc => absurd c3 hc))
    exact this
  repeat (first | (refine hP _ _ _ _ _ _ ?_; show P _ _ _ _ _ _) | (refine hP _ _ _ _ _ _ (And.intro (hN _ _ _ rfl) ?_); show P _ _ (aR _ _ :: _) _ _ _))
  rw [pk_mul n D]
  by_cases hn : n = 2
  · have e : lsN n D = nI (n * D) - 8 := by unfold lsN; rw [if_pos hn]
    rw [e] at tail
    subst hn
    refine hP _ _ _ _ _ _ (And.intro (fun hc => absurd hc (fun z => z rfl)) (fun _ => ?_))
    repeat (first | (refine hP _ _ _ _ _ _ ?_; show P _ _ _ _ _ _) | (refine hP _ _ _ _ _ _ (And.intro (hN _ _ _ rfl) ?_); show P _ _ (aR _ _ :: _) _ _ _))
    exact tail
  · have e : lsN n D = nI (n * D) - nI (4 * n / 2) := by unfold lsN; rw [if_neg hn]
    rw [e] at tail
    refine hP _ _ _ _ _ _ (And.intro (fun _ => ?_) (fun hc => absurd hc (n2 h5 hn)))
    repeat (first | (refine hP _ _ _ _ _ _ ?_; show P _ _ _ _ _ _) | (refine hP _ _ _ _ _ _ (And.intro (hN _ _ _ rfl) ?_); show P _ _ (aR _ _ :: _) _ _ _))
    rw [show (4 : Int32) * nI n = nI (4 * n) from pk_mul 4 n]
    refine hP _ _ _ _ _ _ (And.intro (by decide) ?_)
    rw [show nI (4 * n) / 2 = nI (4 * n / 2) from pk_div (d := 2) (by omega) (by decide) (by decide)]
    repeat (first | (refine hP _ _ _ _ _ _ ?_; show P _ _ _ _ _ _) | (refine hP _ _ _ _ _ _ (And.intro (hN _ _ _ rfl) ?_); show P _ _ (aR _ _ :: _) _ _ _))
    exact tail
theorem enF_all (G : Fl) : (enF G).n = G.n ∧ (enF G).rd = G.rd ∧ (enF G).ni = G.ni + 1 ∧ (enF G).ki = G.ki ∧ ∀ a, a < G.n → (enF G).dn a = 0 :=
  ⟨rfl, rfl, rfl, rfl, fun _ ha => if_pos ha⟩
theorem lw_10 {e : Nat} {P : PT} {K : KT} {t fc fs : Nat} (he : 300 ≤ e) (hP : ∀ pc L st S fc fs, F m_L_law (Call e) K P pc L st S fc fs → P pc L st S fc fs) {n D : Nat} (h2 : 2 ≤ n) (h5 : n ≤ 5) {E : Fl} (hEn : E.n = n) (hEd : ∀ a, a < n → E.dn a = 0) {d5 d6 d7 d8 d9 d10 : Int32} (hnext : ∀ S, LW S E → P 722 [some (aR 60 0), some (aI (nI t)), some (aR 0 0), some (aI (nI n)), some (aI (nI D)), some (aI d5), some (aI d6), some (aI d7), some (aI d8), some (aI d9), some (aI d10), some (aI (nI n))] [] S fc fs) : ∀ p, p ≤ n → ∀ S, LW S E → P 701 [some (aR 60 0), some (aI (nI t)), some (aR 0 0), some (aI (nI n)), some (aI (nI D)), some (aI d5), some (aI d6), some (aI d7), some (aI d8), some (aI d9), some (aI d10), some (aI (nI p))] [aI (nI n), aI (nI p)] S fc fs := by
  refine dn ?_ ?_
  · intro S hS
    have := hnext S hS
    refine hP _ _ _ _ _ _ (And.intro (fun _ => ?_) (fun hc => absurd (nI_le (Nat.le_refl n) (by omega)) hc))
    exact this
  · intro p hp ih S hS
    have hN : True := trivial
    rw [nI_succ p] at ih
    refine hP _ _ _ _ _ _ (And.intro (fun hc => absurd hc (nI_ge hp (by omega))) (fun _ => ?_))
    repeat (first | (refine hP _ _ _ _ _ _ ?_; show P _ _ _ _ _ _) | (refine hP _ _ _ _ _ _ (And.intro (hN _ _ _ rfl) ?_); show P _ _ (aR _ _ :: _) _ _ _))
    refine hP _ _ _ _ _ _ (c_told (w := 3) (by omega) hS.1 (by omega) (fun S1 g1 => ?_))
    have hS1 := hS.th (g1.mono w0_th)
    rw [(td_w (tv := tv0) (show p < E.n by omega) (show E.n ≤ 5 by omega)).1, hEd p hp]
    have := ih S1 hS1
    repeat (first | (refine hP _ _ _ _ _ _ ?_; show P _ _ _ _ _ _) | (refine hP _ _ _ _ _ _ (And.intro (hN _ _ _ rfl) ?_); show P _ _ (aR _ _ :: _) _ _ _))
    refine hP _ _ _ _ _ _ (And.intro (fun _ => ?_) (fun hc => absurd rfl hc))
    repeat (first | (refine hP _ _ _ _ _ _ ?_; show P _ _ _ _ _ _) | (refine hP _ _ _ _ _ _ (And.intro (hN _ _ _ rfl) ?_); show P _ _ (aR _ _ :: _) _ _ _))
    exact this
theorem lw_9b {e : Nat} {P : PT} {K : KT} {t fc fs : Nat} (he : 300 ≤ e) (hP : ∀ pc L st S fc fs, F m_L_law (Call e) K P pc L st S fc fs → P pc L st S fc fs) {n D : Nat} (h2 : 2 ≤ n) (h5 : n ≤ 5) (hnD : n * D ≤ 45) {G : Fl} (r1 : G.n = n) (r3 : G.ni = 0) (c2 : oA G = n * D - hfN n) (c3 : hfN n ≤ n * D) (c4 : sN G.dn n = n / 2 * 2) {d5 d6 d7 d8 : Int32} (hnext : ∀ S d9 d10, LW S (enF G) → P 722 [some (aR 60 0), some (aI (nI t)), some (aR 0 0), some (aI (nI n)), some (aI (nI D)), some (aI d5), some (aI d6), some (aI d7), some (aI d8), some (aI d9), some (aI d10), some (aI (nI n))] [] S fc fs) {S : St} (hS : LW S G) : P 658 [some (aR 60 0), some (aI (nI t)), some (aR 0 0), some (aI (nI n)), some (aI (nI D)), some (aI d5), some (aI d6), some (aI d7), some (aI d8), some (aI (nI (n * D))), some (aI (nI (hfN n))), none] [] S fc fs := by
  obtain ⟨k1, k2, k3, k4, k5⟩ := enF_all G
  have hN : True := trivial
  repeat (first | (refine hP _ _ _ _ _ _ ?_; show P _ _ _ _ _ _) | (refine hP _ _ _ _ _ _ (And.intro (hN _ _ _ rfl) ?_); show P _ _ (aR _ _ :: _) _ _ _))
  refine hP _ _ _ _ _ _ (c_count1 (by omega) hS.1 ?_)
  rw [c2]
  repeat (first | (refine hP _ _ _ _ _ _ ?_; show P _ _ _ _ _ _) | (refine hP _ _ _ _ _ _ (And.intro (hN _ _ _ rfl) ?_); show P _ _ (aR _ _ :: _) _ _ _))
  rw [pk_sub c3]
  refine hP _ _ _ _ _ _ (And.intro (fun hc => absurd hc (fun z => z rfl)) (fun _ => ?_))
  repeat (first | (refine hP _ _ _ _ _ _ ?_; show P _ _ _ _ _ _) | (refine hP _ _ _ _ _ _ (And.intro (hN _ _ _ rfl) ?_); show P _ _ (aR _ _ :: _) _ _ _))
  refine hP _ _ _ _ _ _ (c_night (by omega) hS.1 hS.2.1 (by omega) (fun S1 g1 hX1 hz1 => ?_))
  have hS1 : LW S1 (enF G) := hS.fl g1 hX1.2.1 (by rw [k1]; exact hz1) hX1.2.2
  rw [show sN G.dn G.n = n / 2 * 2 from by rw [r1]; exact c4]
  repeat (first | (refine hP _ _ _ _ _ _ ?_; show P _ _ _ _ _ _) | (refine hP _ _ _ _ _ _ (And.intro (hN _ _ _ rfl) ?_); show P _ _ (aR _ _ :: _) _ _ _))
  refine hP _ _ _ _ _ _ (And.intro (by decide) ?_)
  rw [show nI n / 2 = nI (n / 2) from pk_div (d := 2) (by omega) (by decide) (by decide)]
  repeat (first | (refine hP _ _ _ _ _ _ ?_; show P _ _ _ _ _ _) | (refine hP _ _ _ _ _ _ (And.intro (hN _ _ _ rfl) ?_); show P _ _ (aR _ _ :: _) _ _ _))
  rw [show nI (n / 2) * 2 = nI (n / 2 * 2) from pk_mul (n / 2) 2]
  refine hP _ _ _ _ _ _ (And.intro (fun hc => absurd hc (fun z => z rfl)) (fun _ => ?_))
  repeat (first | (refine hP _ _ _ _ _ _ ?_; show P _ _ _ _ _ _) | (refine hP _ _ _ _ _ _ (And.intro (hN _ _ _ rfl) ?_); show P _ _ (aR _ _ :: _) _ _ _))
  refine hP _ _ _ _ _ _ (c_told (w := 1) (by omega) hS1.1 (by omega) (fun S2 g2 => ?_))
  have hS2 := hS1.th (g2.mono w0_th)
  rw [show tdI tv0 (enF G) 0 1 = nI (enF G).ni from rfl, k3, r3]
  have := lw_10 (d5 := d5) (d6 := d6) (d7 := d7) (d8 := d8) (d9 := nI (n * D)) (d10 := nI (hfN n)) he hP h2 h5 (k1.trans r1) (fun a ha => k5 a (by omega)) (fun S hS => hnext S (nI (n * D)) (nI (hfN n)) hS) 0 (Nat.zero_le _) S2 hS2
  repeat (first | (refine hP _ _ _ _ _ _ ?_; show P _ _ _ _ _ _) | (refine hP _ _ _ _ _ _ (And.intro (hN _ _ _ rfl) ?_); show P _ _ (aR _ _ :: _) _ _ _))
  refine hP _ _ _ _ _ _ (And.intro (fun _ => ?_) (fun hc => absurd rfl hc))
  repeat (first | (refine hP _ _ _ _ _ _ ?_; show P _ _ _ _ _ _) | (refine hP _ _ _ _ _ _ (And.intro (hN _ _ _ rfl) ?_); show P _ _ (aR _ _ :: _) _ _ _))
  exact this
theorem lw_9 {e : Nat} {P : PT} {K : KT} {t fc fs : Nat} (he : 300 ≤ e) (hP : ∀ pc L st S fc fs, F m_L_law (Call e) K P pc L st S fc fs → P pc L st S fc fs) {n D : Nat} (h2 : 2 ≤ n) (h5 : n ≤ 5) (d1 : 1 ≤ D) (d9 : D ≤ 9) (u : Nat → Nat) {d5 d6 d7 d8 : Int32} {x9 : Option AV} (hnext : ∀ S d9 d10, LW S (enF (rdF tv0 (RF n D u))) → P 722 [some (aR 60 0), some (aI (nI t)), some (aR 0 0), some (aI (nI n)), some (aI (nI D)), some (aI d5), some (aI d6), some (aI d7), some (aI d8), some (aI d9), some (aI d10), some (aI (nI n))] [] S fc fs) {S : St} (hS : LW S (RF n D u)) : P 628 [some (aR 60 0), some (aI (nI t)), some (aR 0 0), some (aI (nI n)), some (aI (nI D)), some (aI d5), some (aI d6), some (aI d7), some (aI d8), x9, none, none] [] S fc fs := by
  obtain ⟨c1, c2, c3, c4⟩ := fG h2 h5 d1 d9 u
  have hA := (fA h2 h5 d1 d9 u).1
  have hnD : n * D ≤ 45 := Nat.mul_le_mul h5 d9
  have hN : True := trivial
  have r3 : (rdF tv0 (RF n D u)).ni = 0 := (rdF_all tv0 (RF n D u)).2.2.1
  have r1 : (rdF tv0 (RF n D u)).n = n := (rdF_all tv0 (RF n D u)).1
  have tail := fun S hS => lw_9b (d5 := d5) (d6 := d6) (d7 := d7) (d8 := d8) he hP h2 h5 hnD r1 r3 c2 c3 c4 hnext (S := S) hS
  repeat (first | (refine hP _ _ _ _ _ _ ?_; show P _ _ _ _ _ _) | (refine hP _ _ _ _ _ _ (And.intro (hN _ _ _ rfl) ?_); show P _ _ (aR _ _ :: _) _ _ _))
  refine hP _ _ _ _ _ _ (c_count1 (by omega) hS.1 ?_)
  rw [hA]
  repeat (first | (refine hP _ _ _ _ _ _ ?_; show P _ _ _ _ _ _) | (refine hP _ _ _ _ _ _ (And.intro (hN _ _ _ rfl) ?_); show P _ _ (aR _ _ :: _) _ _ _))
  refine hP _ _ _ _ _ _ (c_round (by omega) hS.1 hS.2.1 (show 0 < 999 by omega) (fun S1 g1 hX1 hz1 => ?_))
  have hz1 : zB S1 0 n := hz1
  rw [← r1] at hz1
  have tail := tail S1 (hS.fl g1 hX1.2.1 hz1 hX1.2.2)
  rw [c1]
  repeat (first | (refine hP _ _ _ _ _ _ ?_; show P _ _ _ _ _ _) | (refine hP _ _ _ _ _ _ (And.intro (hN _ _ _ rfl) ?_); show P _ _ (aR _ _ :: _) _ _ _))
  by_cases hn : n = 2
  · subst hn
    refine hP _ _ _ _ _ _ (And.intro (fun hc => absurd hc (fun z => z rfl)) (fun _ => ?_))
    repeat (first | (refine hP _ _ _ _ _ _ ?_; show P _ _ _ _ _ _) | (refine hP _ _ _ _ _ _ (And.intro (hN _ _ _ rfl) ?_); show P _ _ (aR _ _ :: _) _ _ _))
    refine hP _ _ _ _ _ _ (And.intro (fun hc => absurd hc (fun z => z rfl)) (fun _ => ?_))
    exact tail
  · have e : hfN n = n / 2 := if_neg hn
    refine hP _ _ _ _ _ _ (And.intro (fun _ => ?_) (fun hc => absurd hc (n2 h5 hn)))
    repeat (first | (refine hP _ _ _ _ _ _ ?_; show P _ _ _ _ _ _) | (refine hP _ _ _ _ _ _ (And.intro (hN _ _ _ rfl) ?_); show P _ _ (aR _ _ :: _) _ _ _))
    refine hP _ _ _ _ _ _ (And.intro (by decide) ?_)
    rw [show nI n / 2 = nI (n / 2) from pk_div (d := 2) (by omega) (by decide) (by decide)]
    repeat (first | (refine hP _ _ _ _ _ _ ?_; show P _ _ _ _ _ _) | (refine hP _ _ _ _ _ _ (And.intro (hN _ _ _ rfl) ?_); show P _ _ (aR _ _ :: _) _ _ _))
    refine hP _ _ _ _ _ _ (And.intro (fun hc => absurd hc (fun z => z (by rw [e]))) (fun _ => ?_))
    exact tail
