/-! the law's turn: an image, all struck off, all as it was; struck off the other way round -/
theorem LW.up {S S' : St} {F : Fl} {W : WW} (h : LW S F) (h1 : Ag W S S') (hw : okW W) (hf : okF W 0) (hz : ∀ j k, W j 0 k → ¬ (j = 13 ∨ j = 14)) : LW S' F :=
  ⟨h.1.up h1 hw hf, h.2.1.up h1 hz, h.2.2.1.up h1 (fun j g k z => by have := hw j g k z; omega), by rw [h1.1 1 0 1 (fun z => hw _ _ _ z (Or.inl rfl))]; exact h.2.2.2⟩
def IM (S : St) (F : Fl) : Prop := S.1 0 0 6 = 1 ∧ HF S 1 F ∧ zB S 1 F.n
theorem IM.fl {S S' : St} {F : Fl} (h : IM S F) (h1 : Ag wFl S S') : IM S' F :=
  ⟨by rw [h1.1 0 0 6 (by simp [wFl])]; exact h.1, h.2.1.up h1 (fun j k z => by simp only [wFl] at z; omega), h.2.2.up h1 (fun j k z => by simp only [wFl] at z; omega)⟩
theorem th_fl : ∀ j g k, wTH j g k → wFl j g k := by
  intro j g k z
  simp only [wTH] at z
  simp only [wFl]
  omega
theorem fB {n : Nat} (h2 : 2 ≤ n) (h5 : n ≤ 5) (u : Nat → Nat) : oA (RF n 0 u) = 0 ∧ beI tv0 (RF n 0 u) 4 = 0 ∧ beI tv0 (RF n 0 u) 6 = 0 ∧ beI tv0 (RF n 0 u) 7 = 0 ∧ beI tv0 (RF n 0 u) 8 = -1 := by
  have h := al_iff.mp chB_ok (n - 2) (by omega)
  rw [show n - 2 + 2 = n by omega] at h
  simp only [chB, Bool.and_eq_true, decide_eq_true_eq] at h
  obtain ⟨⟨⟨⟨a1, a2⟩, a3⟩, a4⟩, a5⟩ := h
  have hz := fun w => be_z (RF_P n 0 u) w
  exact ⟨a1, (hz 4).symm.trans a2, (hz 6).symm.trans a3, (hz 7).symm.trans a4, (hz 8).symm.trans a5⟩
theorem mn_z (F : Fl) (l : Nat) (v : Nat → Nat) (k : Nat) : mnR F.z l v k = mnR F l v k := by
  induction k with
  | zero => rfl
  | succ k ih =>
    simp only [mnR]
    rw [ih, zow]
theorem sk_z (F : Fl) (l : Nat) (v : Nat → Nat) (m k : Nat) : skR F.z l v m k = (skR F l v m k).z := by
  induction k with
  | zero => rfl
  | succ k ih =>
    simp only [skR]
    rw [ih, sO_z, zow]
theorem sk_r (F : Fl) (l : Nat) (v : Nat → Nat) (m k : Nat) : (skR F l v m k).ru = F.ru ∧ (skR F l v m k).nu = F.nu ∧ (skR F l v m k).dn = F.dn := by
  induction k with
  | zero => exact ⟨rfl, rfl, rfl⟩
  | succ k ih => exact ih
theorem fC {n D : Nat} (h2 : 2 ≤ n) (h5 : n ≤ 5) (d1 : 1 ≤ D) (d9 : D ≤ 9) (u : Nat → Nat) : rgOK n (dgA n) = true ∧ rgOK n (rvA n n) = true ∧ mnR (RF n D u) n (rgV n (dgA n)) n = D ∧ (n = 2 ∨ mnR (RF n D u) n (rgV n (rvA n n)) n = 0) ∧ SM (skR (RF n D u) n (rgV n (dgA n)) D n) (RF n 0 u) ∧ (∀ i, i < n → 0 < lfA n i) ∧ lfA n n = 0 := by
  have h := cuT_at chC_ok h2 h5 d1 d9
  simp only [chC, Bool.and_eq_true, Bool.or_eq_true, decide_eq_true_eq] at h
  obtain ⟨⟨⟨⟨⟨⟨a1, a2⟩, a3⟩, a4⟩, a5⟩, a6⟩, a7⟩ := h
  refine ⟨a1, a2, (mn_z (RF n D u) _ _ _).symm.trans a3, a4.imp id (fun z => (mn_z (RF n D u) _ _ _).symm.trans z), ?_, fun i hi => of_decide_eq_true (al_iff.mp a6 i hi), a7⟩
  obtain ⟨k1, k2, k3, k4⟩ := skR_n (RF n D u) n (rgV n (dgA n)) D n
  obtain ⟨r1, r2, r3⟩ := sk_r (RF n D u) n (rgV n (dgA n)) D n
  refine ⟨k1, k2, k3, r1, fun a _ => ⟨by rw [k4]; rfl, by rw [r2]; rfl, by rw [r3]; rfl⟩, fun a b ha hb => ?_⟩
  rw [k1] at ha hb
  have e : (skR (RF n D u) n (rgV n (dgA n)) D n).ow a b = 0 := by
    have e1 := of_decide_eq_true (al_iff.mp (al_iff.mp a5 a ha) b hb)
    have e2 := sk_z (RF n D u) n (rgV n (dgA n)) D n
    have e3 : (skR (RF n D u).z n (rgV n (dgA n)) D n).ow a b = 0 := e1
    rw [e2] at e3
    exact e3
  rw [e]
  show 0 = if b = (a + 1) % n then 0 else 0
  split <;> rfl
theorem lf_le (n : Nat) : ∀ i, lfA n i ≤ dgA n
  | 0 => Nat.le_refl _
  | i + 1 => Nat.le_trans (Nat.div_le_self _ _) (lf_le n i)
theorem dg_b {n : Nat} (h5 : n ≤ 5) : dgA n < 2 ^ 20 ∧ ∀ i, i ≤ n → rvA n i < 2 ^ 20 := by
  have h : ∀ n, n ≤ 5 → dgA n < 2 ^ 20 ∧ ∀ i, i ≤ n → rvA n i < 2 ^ 20 := by decide
  exact h n h5
theorem lw_5 {e : Nat} {P : PT} {K : KT} {t fc fs : Nat} (he : 300 ≤ e) (hP : ∀ pc L st S fc fs, F m_L_law (Call e) K P pc L st S fc fs → P pc L st S fc fs) {n D : Nat} (h2 : 2 ≤ n) (h5 : n ≤ 5) (d1 : 1 ≤ D) (d9 : D ≤ 9) (u : Nat → Nat) (hnext : ∀ S, LW S (RF n D u) → P 406 [some (aR 60 0), some (aI (nI t)), some (aR 0 0), some (aI (nI n)), some (aI (nI D)), some (aI (nI (dgA n))), some (aI (nI (rvA n n))), some (aI (nI 0)), none, none, none, none] [] S fc fs) {S : St} (hS : LW S (RF n D u)) : ∀ i, i ≤ n → P 362 [some (aR 60 0), some (aI (nI t)), some (aR 0 0), some (aI (nI n)), some (aI (nI D)), some (aI (nI (dgA n))), some (aI (nI (rvA n i))), some (aI (nI (lfA n i))), none, none, none, none] [aI (nI (lfA n i))] S fc fs := by
  obtain ⟨b1, b2'⟩ := dg_b h5
  obtain ⟨c1, c2, c3, c4, c5, c6, c7⟩ := fC h2 h5 d1 d9 u
  have hN : True := trivial
  refine dn ?_ ?_
  · rw [c7]
    refine hP _ _ _ _ _ _ (And.intro (fun _ => ?_) (fun hc => absurd (by decide) hc))
    repeat (first | (refine hP _ _ _ _ _ _ ?_; show P _ _ _ _ _ _) | (refine hP _ _ _ _ _ _ (And.intro (hN _ _ _ rfl) ?_); show P _ _ (aR _ _ :: _) _ _ _))
    refine hP _ _ _ _ _ _ (geI (x := 2) (y := n) (by omega) (by omega) (fun hc => ?_) (fun hc => ?_))
    · exact hnext S hS
    · obtain ⟨r1, r2, r3⟩ := rg_of c2
      have hm : mnR (RF n D u) n (rgV n (rvA n n)) n = 0 := c4.resolve_left (by omega)
      repeat (first | (refine hP _ _ _ _ _ _ ?_; show P _ _ _ _ _ _) | (refine hP _ _ _ _ _ _ (And.intro (hN _ _ _ rfl) ?_); show P _ _ (aR _ _ :: _) _ _ _))
      refine hP _ _ _ _ _ _ (c_strike (by omega) hS.1 hS.2.1 (by have := b2' n (Nat.le_refl n); omega) r1 h2 h5 r2 r3 (fun _ S1 g1 => ?_) (fun z => absurd hm z))
      have hS1 : LW S1 (RF n D u) := hS.up g1 (fun j g k z => by omega) (fun j k z => by omega) (fun j k z => by omega)
      have := hnext S1 hS1
      repeat (first | (refine hP _ _ _ _ _ _ ?_; show P _ _ _ _ _ _) | (refine hP _ _ _ _ _ _ (And.intro (hN _ _ _ rfl) ?_); show P _ _ (aR _ _ :: _) _ _ _))
      refine hP _ _ _ _ _ _ (And.intro (fun _ => ?_) (fun hc => absurd rfl hc))
      exact this
  · intro i hi ih
    have hl := lf_le n i
    have h0 := c6 i hi
    have hr := b2' i (by omega)
    refine hP _ _ _ _ _ _ (And.intro (fun hc => absurd hc (nI_nle h0 (by omega))) (fun _ => ?_))
    repeat (first | (refine hP _ _ _ _ _ _ ?_; show P _ _ _ _ _ _) | (refine hP _ _ _ _ _ _ (And.intro (hN _ _ _ rfl) ?_); show P _ _ (aR _ _ :: _) _ _ _))
    refine hP _ _ _ _ _ _ (And.intro (by decide) ?_)
    rw [show (10 : Int32) * nI (rvA n i) = nI (10 * rvA n i) from pk_mul 10 _, show nI (lfA n i) - nI (lfA n i) / 10 * 10 = nI (lfA n i % 10) from pk_rem (d := 10) (by omega) (by decide) (by decide)]
    repeat (first | (refine hP _ _ _ _ _ _ ?_; show P _ _ _ _ _ _) | (refine hP _ _ _ _ _ _ (And.intro (hN _ _ _ rfl) ?_); show P _ _ (aR _ _ :: _) _ _ _))
    rw [nI_add]
    repeat (first | (refine hP _ _ _ _ _ _ ?_; show P _ _ _ _ _ _) | (refine hP _ _ _ _ _ _ (And.intro (hN _ _ _ rfl) ?_); show P _ _ (aR _ _ :: _) _ _ _))
    refine hP _ _ _ _ _ _ (And.intro (by decide) ?_)
    rw [show nI (lfA n i) / 10 = nI (lfA n i / 10) from pk_div (d := 10) (by omega) (by decide) (by decide)]
    repeat (first | (refine hP _ _ _ _ _ _ ?_; show P _ _ _ _ _ _) | (refine hP _ _ _ _ _ _ (And.intro (hN _ _ _ rfl) ?_); show P _ _ (aR _ _ :: _) _ _ _))
    exact ih
theorem lw_4 {e : Nat} {P : PT} {K : KT} {t fc fs : Nat} (he : 300 ≤ e) (hP : ∀ pc L st S fc fs, F m_L_law (Call e) K P pc L st S fc fs → P pc L st S fc fs) {n D : Nat} (h2 : 2 ≤ n) (h5 : n ≤ 5) (d1 : 1 ≤ D) (d9 : D ≤ 9) (u : Nat → Nat) (hnext : ∀ S, LW S (RF n D u) → P 406 [some (aR 60 0), some (aI (nI t)), some (aR 0 0), some (aI (nI n)), some (aI (nI D)), some (aI (nI (dgA n))), some (aI (nI (rvA n n))), some (aI (nI 0)), none, none, none, none] [] S fc fs) {S : St} (hS : LW S (RF n D u)) : P 188 [some (aR 60 0), some (aI (nI t)), some (aR 0 0), some (aI (nI n)), some (aI (nI D)), some (aI (nI (dgA n))), some (aI (nI n)), none, none, none, none, none] [aI (nI n), aI (nI n)] S fc fs := by
  obtain ⟨b1, b2'⟩ := dg_b h5
  obtain ⟨c1, c2, c3, c4, c5, c6, c7⟩ := fC h2 h5 d1 d9 u
  obtain ⟨z1, z2, z3, z4, z5⟩ := fB h2 h5 u
  obtain ⟨r1, r2, r3⟩ := rg_of c1
  have hN : True := trivial
  refine hP _ _ _ _ _ _ (And.intro (fun _ => ?_) (fun hc => absurd (nI_le (Nat.le_refl n) (by omega)) hc))
  repeat (first | (refine hP _ _ _ _ _ _ ?_; show P _ _ _ _ _ _) | (refine hP _ _ _ _ _ _ (And.intro (hN _ _ _ rfl) ?_); show P _ _ (aR _ _ :: _) _ _ _))
  refine hP _ _ _ _ _ _ (c_image (by omega) hS.1 hS.2.1 (fun S1 g1 i1 i2 i3 => ?_))
  have hS1 : LW S1 (RF n D u) := hS.up g1 (fun j g k z => by simp only [wIm, wTk] at z; omega) (fun j k z => by simp only [wIm, wTk] at z; omega) (fun j k z => by simp only [wIm, wTk] at z; omega)
  have hI1 : IM S1 (RF n D u) := ⟨i1, i2, i3⟩
  repeat (first | (refine hP _ _ _ _ _ _ ?_; show P _ _ _ _ _ _) | (refine hP _ _ _ _ _ _ (And.intro (hN _ _ _ rfl) ?_); show P _ _ (aR _ _ :: _) _ _ _))
  refine hP _ _ _ _ _ _ (c_strike (by omega) hS1.1 hS1.2.1 (by omega) r1 h2 h5 r2 r3 (fun z => absurd (c3.symm.trans z) (by omega)) (fun _ S2 g2 hF2 hz2 => ?_))
  rw [c3] at hF2 ⊢
  have hW2 : WF 1 (RF n 0 u) := ⟨h5, by show 0 < 1; omega, by omega, fun a ha => ⟨by show 0 ≤ 5; omega, (hS1.1.2.2.2.2.2 a ha).2.1, by show 0 ≤ 99; omega, fun b hb => by show (if b = (a + 1) % n then 0 else 0) ≤ 99; split <;> omega⟩⟩
  have hS2 : LW S2 (RF n 0 u) := hS1.fl g2 (c5.hf hF2) hz2 hW2
  have hI2 := hI1.fl g2
  repeat (first | (refine hP _ _ _ _ _ _ ?_; show P _ _ _ _ _ _) | (refine hP _ _ _ _ _ _ (And.intro (hN _ _ _ rfl) ?_); show P _ _ (aR _ _ :: _) _ _ _))
  refine hP _ _ _ _ _ _ (And.intro (fun hc => absurd hc (fun z => z rfl)) (fun _ => ?_))
  repeat (first | (refine hP _ _ _ _ _ _ ?_; show P _ _ _ _ _ _) | (refine hP _ _ _ _ _ _ (And.intro (hN _ _ _ rfl) ?_); show P _ _ (aR _ _ :: _) _ _ _))
  refine hP _ _ _ _ _ _ (c_count1 (by omega) hS2.1 ?_)
  rw [z1]
  repeat (first | (refine hP _ _ _ _ _ _ ?_; show P _ _ _ _ _ _) | (refine hP _ _ _ _ _ _ (And.intro (hN _ _ _ rfl) ?_); show P _ _ (aR _ _ :: _) _ _ _))
  refine hP _ _ _ _ _ _ (And.intro (fun hc => absurd hc (fun z => z rfl)) (fun _ => ?_))
  repeat (first | (refine hP _ _ _ _ _ _ ?_; show P _ _ _ _ _ _) | (refine hP _ _ _ _ _ _ (And.intro (hN _ _ _ rfl) ?_); show P _ _ (aR _ _ :: _) _ _ _))
  refine hP _ _ _ _ _ _ (c_best (w := 4) (by omega) hS2.1 (by omega) (fun S3 g3 => ?_))
  have hS3 := hS2.th g3
  have hI3 := hI2.fl (g3.mono th_fl)
  rw [z2]
  repeat (first | (refine hP _ _ _ _ _ _ ?_; show P _ _ _ _ _ _) | (refine hP _ _ _ _ _ _ (And.intro (hN _ _ _ rfl) ?_); show P _ _ (aR _ _ :: _) _ _ _))
  refine hP _ _ _ _ _ _ (And.intro (fun hc => absurd hc (fun z => z rfl)) (fun _ => ?_))
  repeat (first | (refine hP _ _ _ _ _ _ ?_; show P _ _ _ _ _ _) | (refine hP _ _ _ _ _ _ (And.intro (hN _ _ _ rfl) ?_); show P _ _ (aR _ _ :: _) _ _ _))
  refine hP _ _ _ _ _ _ (c_best (w := 6) (by omega) hS3.1 (by omega) (fun S4 g4 => ?_))
  have hS4 := hS3.th g4
  have hI4 := hI3.fl (g4.mono th_fl)
  rw [z3]
  repeat (first | (refine hP _ _ _ _ _ _ ?_; show P _ _ _ _ _ _) | (refine hP _ _ _ _ _ _ (And.intro (hN _ _ _ rfl) ?_); show P _ _ (aR _ _ :: _) _ _ _))
  refine hP _ _ _ _ _ _ (And.intro (fun hc => absurd hc (fun z => z rfl)) (fun _ => ?_))
  repeat (first | (refine hP _ _ _ _ _ _ ?_; show P _ _ _ _ _ _) | (refine hP _ _ _ _ _ _ (And.intro (hN _ _ _ rfl) ?_); show P _ _ (aR _ _ :: _) _ _ _))
  refine hP _ _ _ _ _ _ (c_best (w := 7) (by omega) hS4.1 (by omega) (fun S5 g5 => ?_))
  have hS5 := hS4.th g5
  have hI5 := hI4.fl (g5.mono th_fl)
  rw [z4]
  repeat (first | (refine hP _ _ _ _ _ _ ?_; show P _ _ _ _ _ _) | (refine hP _ _ _ _ _ _ (And.intro (hN _ _ _ rfl) ?_); show P _ _ (aR _ _ :: _) _ _ _))
  refine hP _ _ _ _ _ _ (And.intro (fun hc => absurd hc (fun z => z rfl)) (fun _ => ?_))
  repeat (first | (refine hP _ _ _ _ _ _ ?_; show P _ _ _ _ _ _) | (refine hP _ _ _ _ _ _ (And.intro (hN _ _ _ rfl) ?_); show P _ _ (aR _ _ :: _) _ _ _))
  refine hP _ _ _ _ _ _ (c_best (w := 8) (by omega) hS5.1 (by omega) (fun S6 g6 => ?_))
  have hS6 := hS5.th g6
  have hI6 := hI5.fl (g6.mono th_fl)
  rw [z5]
  repeat (first | (refine hP _ _ _ _ _ _ ?_; show P _ _ _ _ _ _) | (refine hP _ _ _ _ _ _ (And.intro (hN _ _ _ rfl) ?_); show P _ _ (aR _ _ :: _) _ _ _))
  refine hP _ _ _ _ _ _ (And.intro (fun _ => ?_) (fun hc => absurd rfl hc))
  repeat (first | (refine hP _ _ _ _ _ _ ?_; show P _ _ _ _ _ _) | (refine hP _ _ _ _ _ _ (And.intro (hN _ _ _ rfl) ?_); show P _ _ (aR _ _ :: _) _ _ _))
  refine hP _ _ _ _ _ _ (c_back (by omega) hS6.1.1.1 hI6.1 hI6.2.1 hI6.2.2 h5 (fun S7 g7 hF7 hz7 => ?_))
  have hS7 : LW S7 (RF n D u) := hS6.fl g7 hF7 hz7 hS1.1.2.2
  have := lw_5 he hP h2 h5 d1 d9 u hnext hS7 0 (Nat.zero_le _)
  repeat (first | (refine hP _ _ _ _ _ _ ?_; show P _ _ _ _ _ _) | (refine hP _ _ _ _ _ _ (And.intro (hN _ _ _ rfl) ?_); show P _ _ (aR _ _ :: _) _ _ _))
  exact this
