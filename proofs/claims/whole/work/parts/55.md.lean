/-! The model: laid aside, laid back; what is told of all -/
def an (f : Nat → Bool) : Nat → Bool
  | 0 => false
  | n + 1 => an f n || f n
def w49 : WW := fun j g k => j = 49 ∧ g = 0 ∧ k < 36
def SV (S S0 : St) : Prop := (∀ k, k < 25 → S.1 49 0 k = S0.1 46 0 k) ∧ (∀ k, k < 10 → S.1 49 0 (25 + k) = S0.1 45 0 k) ∧ S.1 49 0 35 = S0.1 40 0 7
theorem n_laysAside {d : Nat} {S : St} {K : KT} (hd : 1 ≤ d) (hN : NN S) (h : ∀ S', Ag w49 S S' → SV S' S → K none S') : Call d m_X6_laysAside [aR 40 0] S K := by
  refine Call.of (k := 0) hd (fun e he P hP => ?_)
  have hN0 := hN
  have two : ∀ i, i ≤ 10 → ∀ S1, Ag w49 S S1 → (∀ k, k < 25 → S1.1 49 0 k = S.1 46 0 k) → (∀ k, k < i → S1.1 49 0 (25 + k) = S.1 45 0 k) → P 31 [some (aR 40 0), some (aI (nI i))] [aI 10, aI (nI i)] S1 0 0 := by
    refine dn ?_ ?_
    · intro S1 g1 a1 a2
      have hN := hN0.up g1
      refine hP _ _ _ _ _ _ (And.intro (fun _ => ?_) (fun hc => absurd (nI_le (Nat.le_refl 10) (by decide)) hc))
      repeat (first | (refine hP _ _ _ _ _ _ ?_; show P _ _ _ _ _ _) | (refine hP _ _ _ _ _ _ (And.intro (hN _ _ _ rfl) ?_); show P _ _ (aR _ _ :: _) _ _ _))
      refine hP _ _ _ _ _ _ (Exists.intro (35) (And.intro (And.intro (rfl) (by show 35 < 37; omega)) ?_))
      repeat (first | (refine hP _ _ _ _ _ _ ?_; show P _ _ _ _ _ _) | (refine hP _ _ _ _ _ _ (And.intro (hN _ _ _ rfl) ?_); show P _ _ (aR _ _ :: _) _ _ _))
      have e : S1.1 40 0 7 = S.1 40 0 7 := g1.1 40 0 7 (by simp [w49])
      exact hP _ _ _ _ _ _ (h _ (g1.tr (Ag.iv (by simp [w49]))) ⟨fun k hk => by rw [iv_ne (by omega)]; exact a1 k hk, fun k hk => by rw [iv_ne (by omega)]; exact a2 k hk, by rw [← e]; exact iv_at⟩)
    · intro i hi ih S1 g1 a1 a2
      have hN := hN0.up g1
      refine hP _ _ _ _ _ _ (And.intro (fun hc => absurd hc (nI_ge (b := 10) hi (by decide))) (fun _ => ?_))
      repeat (first | (refine hP _ _ _ _ _ _ ?_; show P _ _ _ _ _ _) | (refine hP _ _ _ _ _ _ (And.intro (hN _ _ _ rfl) ?_); show P _ _ (aR _ _ :: _) _ _ _))
      rw [show (25 : Int32) + nI i = nI (25 + i) from nI_add 25 i]
      refine hP _ _ _ _ _ _ (Exists.intro (i) (And.intro (And.intro (rfl) (by show i < 10; omega)) ?_))
      rw [g1.1 45 0 i (by simp [w49])]
      refine hP _ _ _ _ _ _ (Exists.intro (25 + i) (And.intro (And.intro (rfl) (by show 25 + i < 37; omega)) ?_))
      show P _ _ _ (ivSet S1 49 0 (25 + i) (S.1 45 0 i)) _ _
      have := ih (ivSet S1 49 0 (25 + i) (S.1 45 0 i)) (g1.tr (Ag.iv ⟨rfl, rfl, by omega⟩)) (fun k hk => by rw [iv_ne (by omega)]; exact a1 k hk) (fun k hk => by
        by_cases e : k = i
        · rw [e, iv_at]
        · rw [iv_ne (by omega)]; exact a2 k (by omega))
      rw [nI_succ] at this
      repeat (first | (refine hP _ _ _ _ _ _ ?_; show P _ _ _ _ _ _) | (refine hP _ _ _ _ _ _ (And.intro (hN _ _ _ rfl) ?_); show P _ _ (aR _ _ :: _) _ _ _))
      exact this
  have one : ∀ i, i ≤ 25 → ∀ S1, Ag w49 S S1 → (∀ k, k < i → S1.1 49 0 k = S.1 46 0 k) → P 5 [some (aR 40 0), some (aI (nI i))] [aI 25, aI (nI i)] S1 0 0 := by
    refine dn ?_ ?_
    · intro S1 g1 a1
      refine hP _ _ _ _ _ _ (And.intro (fun _ => ?_) (fun hc => absurd (nI_le (Nat.le_refl 25) (by decide)) hc))
      repeat (first | (refine hP _ _ _ _ _ _ ?_; show P _ _ _ _ _ _) | (refine hP _ _ _ _ _ _ (And.intro (hN _ _ _ rfl) ?_); show P _ _ (aR _ _ :: _) _ _ _))
      exact two 0 (by omega) S1 g1 a1 (fun k hk => by omega)
    · intro i hi ih S1 g1 a1
      have hN := hN0.up g1
      refine hP _ _ _ _ _ _ (And.intro (fun hc => absurd hc (nI_ge (b := 25) hi (by decide))) (fun _ => ?_))
      repeat (first | (refine hP _ _ _ _ _ _ ?_; show P _ _ _ _ _ _) | (refine hP _ _ _ _ _ _ (And.intro (hN _ _ _ rfl) ?_); show P _ _ (aR _ _ :: _) _ _ _))
      refine hP _ _ _ _ _ _ (Exists.intro (i) (And.intro (And.intro (rfl) (by show i < 25; omega)) ?_))
      rw [g1.1 46 0 i (by simp [w49])]
      refine hP _ _ _ _ _ _ (Exists.intro (i) (And.intro (And.intro (rfl) (by show i < 37; omega)) ?_))
      show P _ _ _ (ivSet S1 49 0 i (S.1 46 0 i)) _ _
      have := ih (ivSet S1 49 0 i (S.1 46 0 i)) (g1.tr (Ag.iv ⟨rfl, rfl, by omega⟩)) (fun k hk => by
        by_cases e : k = i
        · rw [e, iv_at]
        · rw [iv_ne (by omega)]; exact a1 k (by omega))
      rw [nI_succ] at this
      repeat (first | (refine hP _ _ _ _ _ _ ?_; show P _ _ _ _ _ _) | (refine hP _ _ _ _ _ _ (And.intro (hN _ _ _ rfl) ?_); show P _ _ (aR _ _ :: _) _ _ _))
      exact this
  repeat (first | (refine hP _ _ _ _ _ _ ?_; show P _ _ _ _ _ _) | (refine hP _ _ _ _ _ _ (And.intro (hN _ _ _ rfl) ?_); show P _ _ (aR _ _ :: _) _ _ _))
  exact one 0 (by omega) S (Ag.rf _ _) (fun k hk => by omega)
def wLb : WW := fun j g k => g = 0 ∧ (j = 40 ∧ k = 7 ∨ j = 45 ∧ k < 10 ∨ j = 46 ∧ k < 25)
def RS (S S0 : St) : Prop := (∀ k, k < 25 → S.1 46 0 k = S0.1 46 0 k) ∧ (∀ k, k < 10 → S.1 45 0 k = S0.1 45 0 k) ∧ S.1 40 0 7 = S0.1 40 0 7
theorem n_laysBack {d : Nat} {S S0 : St} {K : KT} (hd : 1 ≤ d) (hN : NN S) (hv : SV S S0) (h : ∀ S', Ag wLb S S' → RS S' S0 → K none S') : Call d m_X6_laysBack [aR 40 0] S K := by
  refine Call.of (k := 0) hd (fun e he P hP => ?_)
  have hN0 := hN
  have two : ∀ i, i ≤ 10 → ∀ S1, Ag wLb S S1 → (∀ k, k < 25 → S1.1 46 0 k = S0.1 46 0 k) → (∀ k, k < i → S1.1 45 0 k = S0.1 45 0 k) → P 31 [some (aR 40 0), some (aI (nI i))] [aI 10, aI (nI i)] S1 0 0 := by
    refine dn ?_ ?_
    · intro S1 g1 a1 a2
      have hN := hN0.up g1
      refine hP _ _ _ _ _ _ (And.intro (fun _ => ?_) (fun hc => absurd (nI_le (Nat.le_refl 10) (by decide)) hc))
      repeat (first | (refine hP _ _ _ _ _ _ ?_; show P _ _ _ _ _ _) | (refine hP _ _ _ _ _ _ (And.intro (hN _ _ _ rfl) ?_); show P _ _ (aR _ _ :: _) _ _ _))
      refine hP _ _ _ _ _ _ (Exists.intro (35) (And.intro (And.intro (rfl) (by show 35 < 37; omega)) ?_))
      rw [g1.1 49 0 35 (by simp [wLb]), hv.2.2]
      repeat (first | (refine hP _ _ _ _ _ _ ?_; show P _ _ _ _ _ _) | (refine hP _ _ _ _ _ _ (And.intro (hN _ _ _ rfl) ?_); show P _ _ (aR _ _ :: _) _ _ _))
      exact hP _ _ _ _ _ _ (h _ (g1.tr (Ag.iv ⟨rfl, Or.inl ⟨rfl, rfl⟩⟩)) ⟨fun k hk => by rw [iv_ne (by omega)]; exact a1 k hk, fun k hk => by rw [iv_ne (by omega)]; exact a2 k hk, iv_at⟩)
    · intro i hi ih S1 g1 a1 a2
      have hN := hN0.up g1
      refine hP _ _ _ _ _ _ (And.intro (fun hc => absurd hc (nI_ge (b := 10) hi (by decide))) (fun _ => ?_))
      repeat (first | (refine hP _ _ _ _ _ _ ?_; show P _ _ _ _ _ _) | (refine hP _ _ _ _ _ _ (And.intro (hN _ _ _ rfl) ?_); show P _ _ (aR _ _ :: _) _ _ _))
      rw [show (25 : Int32) + nI i = nI (25 + i) from nI_add 25 i]
      refine hP _ _ _ _ _ _ (Exists.intro (25 + i) (And.intro (And.intro (rfl) (by show 25 + i < 37; omega)) ?_))
      rw [g1.1 49 0 (25 + i) (by simp [wLb]), hv.2.1 i hi]
      refine hP _ _ _ _ _ _ (Exists.intro (i) (And.intro (And.intro (rfl) (by show i < 10; omega)) ?_))
      show P _ _ _ (ivSet S1 45 0 i (S0.1 45 0 i)) _ _
      have := ih (ivSet S1 45 0 i (S0.1 45 0 i)) (g1.tr (Ag.iv ⟨rfl, Or.inr (Or.inl ⟨rfl, hi⟩)⟩)) (fun k hk => by rw [iv_ne (by omega)]; exact a1 k hk) (fun k hk => by
        by_cases e : k = i
        · rw [e, iv_at]
        · rw [iv_ne (by omega)]; exact a2 k (by omega))
      rw [nI_succ] at this
      repeat (first | (refine hP _ _ _ _ _ _ ?_; show P _ _ _ _ _ _) | (refine hP _ _ _ _ _ _ (And.intro (hN _ _ _ rfl) ?_); show P _ _ (aR _ _ :: _) _ _ _))
      exact this
  have one : ∀ i, i ≤ 25 → ∀ S1, Ag wLb S S1 → (∀ k, k < i → S1.1 46 0 k = S0.1 46 0 k) → P 5 [some (aR 40 0), some (aI (nI i))] [aI 25, aI (nI i)] S1 0 0 := by
    refine dn ?_ ?_
    · intro S1 g1 a1
      refine hP _ _ _ _ _ _ (And.intro (fun _ => ?_) (fun hc => absurd (nI_le (Nat.le_refl 25) (by decide)) hc))
      repeat (first | (refine hP _ _ _ _ _ _ ?_; show P _ _ _ _ _ _) | (refine hP _ _ _ _ _ _ (And.intro (hN _ _ _ rfl) ?_); show P _ _ (aR _ _ :: _) _ _ _))
      exact two 0 (by omega) S1 g1 a1 (fun k hk => by omega)
    · intro i hi ih S1 g1 a1
      have hN := hN0.up g1
      refine hP _ _ _ _ _ _ (And.intro (fun hc => absurd hc (nI_ge (b := 25) hi (by decide))) (fun _ => ?_))
      repeat (first | (refine hP _ _ _ _ _ _ ?_; show P _ _ _ _ _ _) | (refine hP _ _ _ _ _ _ (And.intro (hN _ _ _ rfl) ?_); show P _ _ (aR _ _ :: _) _ _ _))
      refine hP _ _ _ _ _ _ (Exists.intro (i) (And.intro (And.intro (rfl) (by show i < 37; omega)) ?_))
      rw [g1.1 49 0 i (by simp [wLb]), hv.1 i hi]
      refine hP _ _ _ _ _ _ (Exists.intro (i) (And.intro (And.intro (rfl) (by show i < 25; omega)) ?_))
      show P _ _ _ (ivSet S1 46 0 i (S0.1 46 0 i)) _ _
      have := ih (ivSet S1 46 0 i (S0.1 46 0 i)) (g1.tr (Ag.iv ⟨rfl, Or.inr (Or.inr ⟨rfl, hi⟩)⟩)) (fun k hk => by
        by_cases e : k = i
        · rw [e, iv_at]
        · rw [iv_ne (by omega)]; exact a1 k (by omega))
      rw [nI_succ] at this
      repeat (first | (refine hP _ _ _ _ _ _ ?_; show P _ _ _ _ _ _) | (refine hP _ _ _ _ _ _ (And.intro (hN _ _ _ rfl) ?_); show P _ _ (aR _ _ :: _) _ _ _))
      exact this
  repeat (first | (refine hP _ _ _ _ _ _ ?_; show P _ _ _ _ _ _) | (refine hP _ _ _ _ _ _ (And.intro (hN _ _ _ rfl) ?_); show P _ _ (aR _ _ :: _) _ _ _))
  exact one 0 (by omega) S (Ag.rf _ _) (fun k hk => by omega)
/-- what thinking may change in the model -/
def mTh : WW := fun j _ k => (j = 40 ∧ 14 ≤ k ∧ k ≤ 29) ∨ (49 ≤ j ∧ j ≤ 52)
theorem mTh_ok : okM mTh := by
  intro j g k hj
  simp only [mTh] at hj
  omega
theorem mTh_G : okG mTh := by
  intro j g k hj
  simp only [mTh] at hj
  omega
theorem MX.th {tv : TV} {nT : Nat} {S S' : St} {F : Fl} (h : MX tv nT S F) (h1 : Ag mTh S S') : MX tv nT S' F := h.up h1 mTh_ok mTh_G
theorem m0_th : ∀ j g k, m0 j g k → mTh j g k := by
  intro j g k h
  simp only [m0] at h
  simp only [mTh]
  omega
/-- laid aside, changed, laid back -/
theorem back_th {S S1 S2 S3 : St} (g1 : Ag w49 S S1) (g2 : Ag (fun j g k => mR j g k ∨ (50 ≤ j ∧ j ≤ 52)) S1 S2) (g3 : Ag wLb S2 S3) (hr : RS S3 S) : Ag mTh S S3 := by
  refine ⟨fun j g k hj => ?_, by rw [g3.2, g2.2, g1.2]⟩
  simp only [mTh] at hj
  by_cases hb : g = 0 ∧ (j = 40 ∧ k = 7 ∨ j = 45 ∧ k < 10 ∨ j = 46 ∧ k < 25)
  · obtain ⟨rfl, ⟨rfl, rfl⟩ | ⟨rfl, hk⟩ | ⟨rfl, hk⟩⟩ := hb
    · exact hr.2.2
    · exact hr.2.1 k hk
    · exact hr.1 k hk
  · rw [g3.1 j g k hb, g2.1 j g k (by simp only [mR]; omega), g1.1 j g k (by simp only [w49]; omega)]
theorem mR_w : ∀ j g k, mR j g k → (fun j g k => mR j g k ∨ (50 ≤ j ∧ j ≤ 52)) j g k := fun _ _ _ h => Or.inl h
theorem w49_M : okM w49 := by
  intro j g k hj
  simp only [w49] at hj
  omega
theorem w49_G : okG w49 := by
  intro j g k hj
  simp only [w49] at hj
  omega
theorem SV.up {S S' S0 : St} (h : SV S S0) {W : WW} (h1 : Ag W S S') (hw : ∀ k, ¬ W 49 0 k) : SV S' S0 :=
  ⟨fun k hk => by rw [h1.1 49 0 k (hw k)]; exact h.1 k hk, fun k hk => by rw [h1.1 49 0 _ (hw _)]; exact h.2.1 k hk, by rw [h1.1 49 0 35 (hw _)]; exact h.2.2⟩
theorem n_ends {tv : TV} {nT d : Nat} {S : St} {K : KT} {F : Fl} (hd : 106 ≤ d) (hX : MX tv nT S F) (h : ∀ S', Ag mTh S S' → (∀ m, S'.1 52 0 m = S.1 52 0 m) → K (some (aI (enN tv F))) S') : Call d m_X6_ends [aR 40 0] S K := by
  refine Call.of (k := 105) hd (fun e he P hP => ?_)
  have hN := hX.1.1
  repeat (first | (refine hP _ _ _ _ _ _ ?_; show P _ _ _ _ _ _) | (refine hP _ _ _ _ _ _ (And.intro (hN _ _ _ rfl) ?_); show P _ _ (aR _ _ :: _) _ _ _))
  refine hP _ _ _ _ _ _ (n_laysAside (by omega) hN (fun S1 g1 hv1 => ?_))
  have hX1 := hX.up g1 w49_M w49_G
  have out : ∀ (S2 : St) (k : Nat) (r : Int32), k ≤ 61 → Ag mR S1 S2 → r = enN tv F → r = (if k = 61 then -1 else nI k) → P 25 [some (aR 40 0), some (aI (nI k))] [] S2 0 0 := by
    intro S2 k r hk g2 hr hr2
    have hN := hX1.1.1.up g2
    repeat (first | (refine hP _ _ _ _ _ _ ?_; show P _ _ _ _ _ _) | (refine hP _ _ _ _ _ _ (And.intro (hN _ _ _ rfl) ?_); show P _ _ (aR _ _ :: _) _ _ _))
    refine hP _ _ _ _ _ _ (n_laysBack (by omega) hN (hv1.up g2 (fun k => by simp only [mR]; omega)) (fun S3 g3 hr3 => ?_))
    have h := h S3 (back_th g1 (g2.mono mR_w) g3 hr3) (fun m => by rw [g3.1 52 0 m (by simp [wLb]), g2.1 52 0 m (by simp [mR]), g1.1 52 0 m (by simp [w49])])
    rw [← hr, hr2] at h
    repeat (first | (refine hP _ _ _ _ _ _ ?_; show P _ _ _ _ _ _) | (refine hP _ _ _ _ _ _ (And.intro (hN _ _ _ rfl) ?_); show P _ _ (aR _ _ :: _) _ _ _))
    refine hP _ _ _ _ _ _ (And.intro (fun hc => ?_) (fun hc => ?_))
    · have : ¬ k = 61 := fun z => hc (by rw [z]; rfl)
      rw [if_neg this] at h
      repeat (first | (refine hP _ _ _ _ _ _ ?_; show P _ _ _ _ _ _) | (refine hP _ _ _ _ _ _ (And.intro (hN _ _ _ rfl) ?_); show P _ _ (aR _ _ :: _) _ _ _))
      exact hP _ _ _ _ _ _ (h)
    · have : k = 61 := (nI_eq (b := 61) (by omega) (by decide)).mp hc
      rw [if_pos this] at h
      repeat (first | (refine hP _ _ _ _ _ _ ?_; show P _ _ _ _ _ _) | (refine hP _ _ _ _ _ _ (And.intro (hN _ _ _ rfl) ?_); show P _ _ (aR _ _ :: _) _ _ _))
      exact hP _ _ _ _ _ _ (h)
  have loop : ∀ k, k ≤ 61 → ∀ S2 G, Ag mR S1 S2 → MX tv nT S2 G → enG tv (61 - k) k G = enN tv F → P 9 [some (aR 40 0), some (aI (nI k))] [aI 61, aI (nI k)] S2 0 0 := by
    refine dn ?_ ?_
    · intro S2 G g2 hX2 he
      refine hP _ _ _ _ _ _ (And.intro (fun _ => ?_) (fun hc => absurd (nI_le (Nat.le_refl 61) (by decide)) hc))
      exact out S2 61 (-1) (by omega) g2 he (by rw [if_pos rfl])
    · intro k hk ih S2 G g2 hX2 he
      have hN := hX2.1.1
      rw [show 61 - k = (61 - (k + 1)) + 1 by omega] at he
      simp only [enG] at he
      have hw := rd_wf (tv := tv) hX2.2.2
      refine hP _ _ _ _ _ _ (And.intro (fun hc => absurd hc (nI_ge (b := 61) hk (by decide))) (fun _ => ?_))
      repeat (first | (refine hP _ _ _ _ _ _ ?_; show P _ _ _ _ _ _) | (refine hP _ _ _ _ _ _ (And.intro (hN _ _ _ rfl) ?_); show P _ _ (aR _ _ :: _) _ _ _))
      refine hP _ _ _ _ _ _ (n_passes (by omega) hX2 (fun S3 g3 hX3 _ => ?_))
      repeat (first | (refine hP _ _ _ _ _ _ ?_; show P _ _ _ _ _ _) | (refine hP _ _ _ _ _ _ (And.intro (hN _ _ _ rfl) ?_); show P _ _ (aR _ _ :: _) _ _ _))
      refine hP _ _ _ _ _ _ (le0 (by omega) (fun hc => ?_) (fun hc => ?_))
      · rw [if_pos (by omega)] at he
        exact out S3 k (nI k) (by omega) (g2.tr g3) he (by rw [if_neg (by omega)])
      · rw [if_neg (by omega)] at he
        have := ih S3 _ (g2.tr g3) hX3 he
        rw [nI_succ] at this
        repeat (first | (refine hP _ _ _ _ _ _ ?_; show P _ _ _ _ _ _) | (refine hP _ _ _ _ _ _ (And.intro (hN _ _ _ rfl) ?_); show P _ _ (aR _ _ :: _) _ _ _))
        exact this
  repeat (first | (refine hP _ _ _ _ _ _ ?_; show P _ _ _ _ _ _) | (refine hP _ _ _ _ _ _ (And.intro (hN _ _ _ rfl) ?_); show P _ _ (aR _ _ :: _) _ _ _))
  exact loop 0 (by omega) S1 F (Ag.rf _ _) hX1 rfl
