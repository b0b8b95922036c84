/-! The model: rows told, debts drawn, rings -/
theorem n_firstOther {tv : TV} {nT d s a sz : Nat} {S : St} {K : KT} {F : Fl} {v : Nat → Int32} (hd : 103 ≤ d) (hX : MX tv nT S F) (hs : s < 4) (ha : a < F.n) (hsz : S.1 57 0 s = nI sz) (hs40 : sz ≤ 40) (hv : ∀ k, k < sz → S.1 58 0 (40 * s + k) = v k) (h : ∀ S', Ag m0 S S' → K (some (aI (foN tv F a sz v))) S') : Call d m_X6_firstOther [aR 40 0, aI (nI s), aI (nI a)] S K := by
  refine Call.of (k := 102) hd (fun e he P hP => ?_)
  generalize hr : foN tv F a sz v = r at h
  have loop : ∀ k, k ≤ sz → ∀ S1, Ag m0 S S1 → ff (foP tv F a v) (sz - k) k = r → P 8 [some (aR 40 0), some (aI (nI s)), some (aI (nI a)), some (aI (nI k))] [aI (nI s), aR 57 0, aI (nI k)] S1 0 0 := by
    refine dn ?_ ?_
    · intro S1 g1 he
      have h := h S1 g1
      rw [← he, Nat.sub_self] at h
      refine hP _ _ _ _ _ _ (Exists.intro (s) (And.intro (And.intro (rfl) (show s < 4 from hs)) ?_))
      rw [show S1.1 57 0 s = nI sz by rw [g1.1 57 0 s (by simp [m0])]; exact hsz]
      refine hP _ _ _ _ _ _ (And.intro (fun _ => ?_) (fun hc => absurd (nI_le (Nat.le_refl _) (by omega)) hc))
      repeat (first | (refine hP _ _ _ _ _ _ ?_; show P _ _ _ _ _ _) | (refine hP _ _ _ _ _ _ (And.intro (hN _ _ _ rfl) ?_); show P _ _ (aR _ _ :: _) _ _ _))
      exact hP _ _ _ _ _ _ (h)
    · intro k hk ih S1 g1 he
      have hX1 := hX.sc g1
      have hN := hX1.1.1
      rw [show sz - k = (sz - (k + 1)) + 1 by omega] at he
      simp only [ff] at he
      rw [nI_succ] at ih
      refine hP _ _ _ _ _ _ (Exists.intro (s) (And.intro (And.intro (rfl) (show s < 4 from hs)) ?_))
      rw [show S1.1 57 0 s = nI sz by rw [g1.1 57 0 s (by simp [m0])]; exact hsz]
      refine hP _ _ _ _ _ _ (And.intro (fun hc => absurd hc (nI_ge hk (by omega))) (fun _ => ?_))
      repeat (first | (refine hP _ _ _ _ _ _ ?_; show P _ _ _ _ _ _) | (refine hP _ _ _ _ _ _ (And.intro (hN _ _ _ rfl) ?_); show P _ _ (aR _ _ :: _) _ _ _))
      refine hP _ _ _ _ _ _ (n_paysOf (by omega) hX1 ha (by omega) (fun S2 h2 => ?_))
      have g2 := g1.tr h2
      have hX2 := hX.sc g2
      have hN := hX2.1.1
      repeat (first | (refine hP _ _ _ _ _ _ ?_; show P _ _ _ _ _ _) | (refine hP _ _ _ _ _ _ (And.intro (hN _ _ _ rfl) ?_); show P _ _ (aR _ _ :: _) _ _ _))
      rw [show (40 : Int32) * nI s = nI (40 * s) from pk_mul 40 s, nI_add]
      refine hP _ _ _ _ _ _ (Exists.intro (40 * s + k) (And.intro (And.intro (rfl) (by show 40 * s + k < 160; omega)) ?_))
      rw [show S2.1 58 0 (40 * s + k) = v k by rw [g2.1 58 0 _ (by simp [m0])]; exact hv k hk]
      refine hP _ _ _ _ _ _ (And.intro (fun hc => ?_) (fun hc => ?_))
      · have hp : foP tv F a v k = false := by simp [foP, hc]
        rw [hp, if_neg (by decide)] at he
        repeat (first | (refine hP _ _ _ _ _ _ ?_; show P _ _ _ _ _ _) | (refine hP _ _ _ _ _ _ (And.intro (hN _ _ _ rfl) ?_); show P _ _ (aR _ _ :: _) _ _ _))
        exact ih S2 g2 he
      · have hp : foP tv F a v k = true := by simp [foP, hc]
        rw [hp, if_pos rfl] at he
        have h := h S2 g2
        rw [← he] at h
        repeat (first | (refine hP _ _ _ _ _ _ ?_; show P _ _ _ _ _ _) | (refine hP _ _ _ _ _ _ (And.intro (hN _ _ _ rfl) ?_); show P _ _ (aR _ _ :: _) _ _ _))
        exact hP _ _ _ _ _ _ (h)
  have hN := hX.1.1
  repeat (first | (refine hP _ _ _ _ _ _ ?_; show P _ _ _ _ _ _) | (refine hP _ _ _ _ _ _ (And.intro (hN _ _ _ rfl) ?_); show P _ _ (aR _ _ :: _) _ _ _))
  exact loop 0 (by omega) S (Ag.rf _ _) hr
/-- the bits of those for whom f holds -/
def lkN (f : Nat → Bool) : Nat → Int32
  | 0 => 0
  | k + 1 => if f k = true then lkN f k ||| ((1 : Int32) <<< (nI k &&& 31)) else lkN f k
def liF (tv : TV) (F : Fl) (o sz : Nat) (v : Nat → Int32) (k : Nat) : Bool := decide (¬ k = o) && decide (foN tv F k sz v = -1)
theorem n_likeSet {tv : TV} {nT d s o sz : Nat} {S : St} {K : KT} {F : Fl} {v : Nat → Int32} (hd : 104 ≤ d) (hX : MX tv nT S F) (hs : s < 4) (ho : o < F.n) (hsz : S.1 57 0 s = nI sz) (hs40 : sz ≤ 40) (hv : ∀ k, k < sz → S.1 58 0 (40 * s + k) = v k) (h : ∀ S', Ag m0 S S' → K (some (aI (lkN (liF tv F o sz v) F.n))) S') : Call d m_X6_likeSet [aR 40 0, aI (nI s), aI (nI o)] S K := by
  refine Call.of (k := 103) hd (fun e he P hP => ?_)
  have hn5 := hX.2.2.1
  have loop : ∀ k, k ≤ F.n → ∀ S1, Ag m0 S S1 → P 11 [some (aR 40 0), some (aI (nI s)), some (aI (nI o)), some (aI (lkN (liF tv F o sz v) k)), some (aI (nI k))] [aI (S1.1 40 0 12), aI (nI k)] S1 0 0 := by
    refine dn ?_ ?_
    · intro S1 g1
      have hX1 := hX.sc g1
      rw [hX1.2.1.1]
      refine hP _ _ _ _ _ _ (And.intro (fun _ => ?_) (fun hc => absurd (nI_le (Nat.le_refl _) (by omega)) hc))
      repeat (first | (refine hP _ _ _ _ _ _ ?_; show P _ _ _ _ _ _) | (refine hP _ _ _ _ _ _ (And.intro (hN _ _ _ rfl) ?_); show P _ _ (aR _ _ :: _) _ _ _))
      exact hP _ _ _ _ _ _ (h S1 g1)
    · intro k hk ih S1 g1
      have hX1 := hX.sc g1
      have hN := hX1.1.1
      rw [nI_succ] at ih
      rw [hX1.2.1.1]
      refine hP _ _ _ _ _ _ (And.intro (fun hc => absurd hc (nI_ge hk (by omega))) (fun _ => ?_))
      repeat (first | (refine hP _ _ _ _ _ _ ?_; show P _ _ _ _ _ _) | (refine hP _ _ _ _ _ _ (And.intro (hN _ _ _ rfl) ?_); show P _ _ (aR _ _ :: _) _ _ _))
      have no : ∀ S2, Ag m0 S S2 → liF tv F o sz v k = false → P 36 [some (aR 40 0), some (aI (nI s)), some (aI (nI o)), some (aI (lkN (liF tv F o sz v) k)), some (aI (nI k))] [aI (lkN (liF tv F o sz v) k)] S2 0 0 := by
        intro S2 g2 hl
        have ih := ih S2 g2
        rw [show lkN (liF tv F o sz v) (k + 1) = lkN (liF tv F o sz v) k from if_neg (by rw [hl]; decide)] at ih
        have hN := hX.1.1.up g2
        repeat (first | (refine hP _ _ _ _ _ _ ?_; show P _ _ _ _ _ _) | (refine hP _ _ _ _ _ _ (And.intro (hN _ _ _ rfl) ?_); show P _ _ (aR _ _ :: _) _ _ _))
        rw [shl0, or0]
        exact ih
      refine hP _ _ _ _ _ _ (And.intro (fun hc => ?_) (fun hc => ?_))
      · have e : k = o := (nI_eq (by omega) (by omega)).mp hc
        exact no S1 g1 (by simp [liF, e])
      · have e : ¬ k = o := fun z => hc (by rw [z])
        repeat (first | (refine hP _ _ _ _ _ _ ?_; show P _ _ _ _ _ _) | (refine hP _ _ _ _ _ _ (And.intro (hN _ _ _ rfl) ?_); show P _ _ (aR _ _ :: _) _ _ _))
        refine hP _ _ _ _ _ _ (n_firstOther (v := v) (by omega) hX1 hs hk (by rw [g1.1 57 0 s (by simp [m0])]; exact hsz) hs40 (fun i hi => by rw [g1.1 58 0 _ (by simp [m0])]; exact hv i hi) (fun S2 g2 => ?_))
        have hN := hX1.1.1.up g2
        repeat (first | (refine hP _ _ _ _ _ _ ?_; show P _ _ _ _ _ _) | (refine hP _ _ _ _ _ _ (And.intro (hN _ _ _ rfl) ?_); show P _ _ (aR _ _ :: _) _ _ _))
        refine hP _ _ _ _ _ _ (And.intro (fun hc2 => ?_) (fun hc2 => ?_))
        · have hc2 : ¬ foN tv F k sz v = -1 := hc2
          exact no S2 (g1.tr g2) (by simp [liF, hc2])
        · have hc2 : foN tv F k sz v = -1 := hc2
          have ih := ih S2 (g1.tr g2)
          rw [show lkN (liF tv F o sz v) (k + 1) = lkN (liF tv F o sz v) k ||| ((1 : Int32) <<< (nI k &&& 31)) from if_pos (by simp [liF, e, hc2])] at ih
          repeat (first | (refine hP _ _ _ _ _ _ ?_; show P _ _ _ _ _ _) | (refine hP _ _ _ _ _ _ (And.intro (hN _ _ _ rfl) ?_); show P _ _ (aR _ _ :: _) _ _ _))
          exact ih
  have hN := hX.1.1
  repeat (first | (refine hP _ _ _ _ _ _ ?_; show P _ _ _ _ _ _) | (refine hP _ _ _ _ _ _ (And.intro (hN _ _ _ rfl) ?_); show P _ _ (aR _ _ :: _) _ _ _))
  exact loop 0 (by omega) S (Ag.rf _ _)
def wMd : WW := fun j g k => j = 46 ∧ g = 0 ∧ k < 25
theorem wMd_M : okM wMd := by
  intro j g k hj
  simp only [wMd] at hj
  omega
theorem MX.sO2 {tv : TV} {nT : Nat} {S : St} {F : Fl} (h : MX tv nT S F) (a b : Nat) {v : Nat} (ha : a < F.n) (hb : b < F.n) (hv : v ≤ 99) : MX tv nT (ivSet S 46 0 (5 * a + b) (nI v)) (F.sO a b v) ∧ Ag wMd S (ivSet S 46 0 (5 * a + b) (nI v)) := by
  have hn := h.2.2.1
  exact ⟨h.sO a b hb hv, Ag.iv ⟨rfl, rfl, by omega⟩⟩
theorem n_endsDrawn {tv : TV} {nT d : Nat} {S : St} {K : KT} {F : Fl} {seed : Int32} (hd : 107 ≤ d) (hX : MX tv nT S F) (h : ∀ S', Ag mTh S S' → K (some (aI (enN tv (drF F seed)))) S') : Call d m_X6_endsDrawn [aR 40 0, aI seed] S K := by
  refine Call.of (k := 106) hd (fun e he P hP => ?_)
  have hN0 := hX.1.1
  have hn5 := hX.2.2.1
  have rest : ∀ k, k ≤ 25 → ∀ S1 x2, Ag (fun j g k => mTh j g k ∨ wMd j g k) S S1 → (∀ m, m < 25 → S1.1 52 0 m = S.1 46 0 m) → (∀ m, m < k → S1.1 46 0 m = S.1 46 0 m) → P 107 [some (aR 40 0), some (aI seed), x2, some (aI (enN tv (drF F seed))), some (aI (nI k))] [aI 25, aI (nI k)] S1 0 0 := by
    refine dn ?_ ?_
    · intro S1 x2 g1 a1 a2
      refine hP _ _ _ _ _ _ (And.intro (fun _ => ?_) (fun hc => absurd (nI_le (Nat.le_refl 25) (by decide)) hc))
      repeat (first | (refine hP _ _ _ _ _ _ ?_; show P _ _ _ _ _ _) | (refine hP _ _ _ _ _ _ (And.intro (hN _ _ _ rfl) ?_); show P _ _ (aR _ _ :: _) _ _ _))
      refine hP _ _ _ _ _ _ (h S1 ⟨fun j g k hj => ?_, g1.2⟩)
      by_cases c : wMd j g k
      · obtain ⟨rfl, rfl, hk⟩ := c
        exact a2 k hk
      · exact g1.1 j g k (fun z => z.elim hj c)
    · intro k hk ih S1 x2 g1 a1 a2
      have hN := hN0.up g1
      rw [nI_succ] at ih
      refine hP _ _ _ _ _ _ (And.intro (fun hc => absurd hc (nI_ge (b := 25) hk (by decide))) (fun _ => ?_))
      repeat (first | (refine hP _ _ _ _ _ _ ?_; show P _ _ _ _ _ _) | (refine hP _ _ _ _ _ _ (And.intro (hN _ _ _ rfl) ?_); show P _ _ (aR _ _ :: _) _ _ _))
      refine hP _ _ _ _ _ _ (Exists.intro (k) (And.intro (And.intro (rfl) (by show k < 25; omega)) ?_))
      rw [a1 k hk]
      refine hP _ _ _ _ _ _ (Exists.intro (k) (And.intro (And.intro (rfl) (by show k < 25; omega)) ?_))
      show P _ _ _ (ivSet S1 46 0 k (S.1 46 0 k)) _ _
      have := ih (ivSet S1 46 0 k (S.1 46 0 k)) x2 (g1.tr (Ag.iv (Or.inr ⟨rfl, rfl, hk⟩))) (fun m hm => by rw [iv_ne (by omega)]; exact a1 m hm) (fun m hm => by
        by_cases em : m = k
        · rw [em, iv_at]
        · rw [iv_ne (by omega)]; exact a2 m (by omega))
      repeat (first | (refine hP _ _ _ _ _ _ ?_; show P _ _ _ _ _ _) | (refine hP _ _ _ _ _ _ (And.intro (hN _ _ _ rfl) ?_); show P _ _ (aR _ _ :: _) _ _ _))
      exact this
  have outer : ∀ a, a ≤ F.n → ∀ S1 x4, Ag (fun j g k => mTh j g k ∨ wMd j g k) S S1 → (∀ m, m < 25 → S1.1 52 0 m = S.1 46 0 m) → MX tv nT S1 (drA F.n a (seed, F)).2 → P 35 [some (aR 40 0), some (aI seed), some (aI (drA F.n a (seed, F)).1), some (aI (nI a)), x4] [aI (S1.1 40 0 12), aI (nI a)] S1 0 0 := by
    refine dn ?_ ?_
    · intro S1 x4 g1 a1 hX1
      rw [hX1.2.1.1, drA_m]
      refine hP _ _ _ _ _ _ (And.intro (fun _ => ?_) (fun hc => absurd (nI_le (Nat.le_refl _) (by omega)) hc))
      repeat (first | (refine hP _ _ _ _ _ _ ?_; show P _ _ _ _ _ _) | (refine hP _ _ _ _ _ _ (And.intro (hN _ _ _ rfl) ?_); show P _ _ (aR _ _ :: _) _ _ _))
      refine hP _ _ _ _ _ _ (n_ends (by omega) hX1 (fun S2 g2 k52 => ?_))
      have hN := hX1.1.1.up g2
      repeat (first | (refine hP _ _ _ _ _ _ ?_; show P _ _ _ _ _ _) | (refine hP _ _ _ _ _ _ (And.intro (hN _ _ _ rfl) ?_); show P _ _ (aR _ _ :: _) _ _ _))
      have a12 : ∀ m, m < 25 → S2.1 52 0 m = S.1 46 0 m := fun m hm => by rw [k52 m]; exact a1 m hm
      exact rest 0 (by omega) S2 _ (g1.tr (g2.mono (fun _ _ _ z => Or.inl z))) a12 (fun m hm => by omega)
    · intro a ha ih S1 x4 g1 a1 hX1
      have inner : ∀ b, b ≤ F.n → ∀ S1, Ag (fun j g k => mTh j g k ∨ wMd j g k) S S1 → (∀ m, m < 25 → S1.1 52 0 m = S.1 46 0 m) → MX tv nT S1 (drB a b (drA F.n a (seed, F))).2 → P 47 [some (aR 40 0), some (aI seed), some (aI (drB a b (drA F.n a (seed, F))).1), some (aI (nI a)), some (aI (nI b))] [aI (S1.1 40 0 12), aI (nI b)] S1 0 0 := by
        refine dn ?_ ?_
        · intro S1 g1 a1 hX1
          have hN := hX1.1.1
          have := ih S1 (some (aI (nI F.n))) g1 a1 hX1
          rw [hX1.2.1.1, drB_n, drA_m]
          refine hP _ _ _ _ _ _ (And.intro (fun _ => ?_) (fun hc => absurd (nI_le (Nat.le_refl _) (by omega)) hc))
          repeat (first | (refine hP _ _ _ _ _ _ ?_; show P _ _ _ _ _ _) | (refine hP _ _ _ _ _ _ (And.intro (hN _ _ _ rfl) ?_); show P _ _ (aR _ _ :: _) _ _ _))
          rw [nI_succ] at this
          exact this
        · intro b hb ih2 S1 g1 a1 hX1
          have hN := hX1.1.1
          have nk : (drB a b (drA F.n a (seed, F))).2.n = F.n := by rw [drB_n, drA_m]
          generalize hA : drB a b (drA F.n a (seed, F)) = A at hX1 ih2 nk ⊢
          rw [hX1.2.1.1, nk]
          refine hP _ _ _ _ _ _ (And.intro (fun hc => absurd hc (nI_ge hb (by omega))) (fun _ => ?_))
          repeat (first | (refine hP _ _ _ _ _ _ ?_; show P _ _ _ _ _ _) | (refine hP _ _ _ _ _ _ (And.intro (hN _ _ _ rfl) ?_); show P _ _ (aR _ _ :: _) _ _ _))
          refine hP _ _ _ _ _ _ (And.intro (fun hc => ?_) (fun hc => ?_))
          · have e : a = b := (nI_eq (by omega) (by omega)).mp hc
            have he : drB a (b + 1) (drA F.n a (seed, F)) = A := by rw [← hA]; exact if_pos e
            rw [he, nI_succ] at ih2
            repeat (first | (refine hP _ _ _ _ _ _ ?_; show P _ _ _ _ _ _) | (refine hP _ _ _ _ _ _ (And.intro (hN _ _ _ rfl) ?_); show P _ _ (aR _ _ :: _) _ _ _))
            exact ih2 S1 g1 a1 hX1
          · have e : ¬ a = b := fun z => hc (by rw [z])
            have he : drB a (b + 1) (drA F.n a (seed, F)) = (zn A.1, A.2.sO a b (dv (zn A.1))) := by rw [← hA]; exact if_neg e
            rw [he, nI_succ] at ih2
            repeat (first | (refine hP _ _ _ _ _ _ ?_; show P _ _ _ _ _ _) | (refine hP _ _ _ _ _ _ (And.intro (hN _ _ _ rfl) ?_); show P _ _ (aR _ _ :: _) _ _ _))
            rw [show A.1 * 1103515245 + 12345 = zn A.1 from rfl]
            refine hP _ _ _ _ _ _ (And.intro (by decide) ?_)
            repeat (first | (refine hP _ _ _ _ _ _ ?_; show P _ _ _ _ _ _) | (refine hP _ _ _ _ _ _ (And.intro (hN _ _ _ rfl) ?_); show P _ _ (aR _ _ :: _) _ _ _))
            rw [dv_eq]
            refine hP _ _ _ _ _ _ (Exists.intro (5 * a + b) (And.intro (And.intro (jx5 a b) (by show _ < 25; omega)) ?_))
            show P _ _ _ (ivSet S1 46 0 (5 * a + b) (nI (dv (zn A.1)))) _ _
            have hd3 := dv_le (zn A.1)
            obtain ⟨hX2, g2⟩ := hX1.sO2 a b (v := dv (zn A.1)) (by omega) (by omega) (by omega)
            generalize ivSet S1 46 0 (5 * a + b) (nI (dv (zn A.1))) = S2 at hX2 g2 ⊢
            have hN := hX2.1.1
            repeat (first | (refine hP _ _ _ _ _ _ ?_; show P _ _ _ _ _ _) | (refine hP _ _ _ _ _ _ (And.intro (hN _ _ _ rfl) ?_); show P _ _ (aR _ _ :: _) _ _ _))
            exact ih2 S2 (g1.tr (g2.mono (fun _ _ _ z => Or.inr z))) (fun m hm => by rw [g2.1 52 0 m (by simp [wMd])]; exact a1 m hm) hX2
      have hN := hX1.1.1
      rw [hX1.2.1.1, drA_m]
      refine hP _ _ _ _ _ _ (And.intro (fun hc => absurd hc (nI_ge ha (by omega))) (fun _ => ?_))
      repeat (first | (refine hP _ _ _ _ _ _ ?_; show P _ _ _ _ _ _) | (refine hP _ _ _ _ _ _ (And.intro (hN _ _ _ rfl) ?_); show P _ _ (aR _ _ :: _) _ _ _))
      exact inner 0 (by omega) S1 g1 a1 hX1
  have save : ∀ k, k ≤ 25 → ∀ S1, Ag (fun j g k => j = 52) S S1 → (∀ m, m < k → S1.1 52 0 m = S.1 46 0 m) → P 5 [some (aR 40 0), some (aI seed), some (aI (nI k)), none, none] [aI 25, aI (nI k)] S1 0 0 := by
    refine dn ?_ ?_
    · intro S1 g1 a1
      refine hP _ _ _ _ _ _ (And.intro (fun _ => ?_) (fun hc => absurd (nI_le (Nat.le_refl 25) (by decide)) hc))
      have hN := hN0.up g1
      repeat (first | (refine hP _ _ _ _ _ _ ?_; show P _ _ _ _ _ _) | (refine hP _ _ _ _ _ _ (And.intro (hN _ _ _ rfl) ?_); show P _ _ (aR _ _ :: _) _ _ _))
      exact outer 0 (by omega) S1 _ (g1.mono (fun j g k z => Or.inl (by simp only [mTh]; omega))) a1 (hX.up g1 (fun j g k hj => by omega) (fun j g k hj => by omega))
    · intro k hk ih S1 g1 a1
      have hN := hN0.up g1
      rw [nI_succ] at ih
      refine hP _ _ _ _ _ _ (And.intro (fun hc => absurd hc (nI_ge (b := 25) hk (by decide))) (fun _ => ?_))
      repeat (first | (refine hP _ _ _ _ _ _ ?_; show P _ _ _ _ _ _) | (refine hP _ _ _ _ _ _ (And.intro (hN _ _ _ rfl) ?_); show P _ _ (aR _ _ :: _) _ _ _))
      refine hP _ _ _ _ _ _ (Exists.intro (k) (And.intro (And.intro (rfl) (by show k < 25; omega)) ?_))
      rw [g1.1 46 0 k (by simp)]
      refine hP _ _ _ _ _ _ (Exists.intro (k) (And.intro (And.intro (rfl) (by show k < 25; omega)) ?_))
      show P _ _ _ (ivSet S1 52 0 k (S.1 46 0 k)) _ _
      have := ih (ivSet S1 52 0 k (S.1 46 0 k)) (g1.tr (Ag.iv rfl)) (fun m hm => by
        by_cases em : m = k
        · rw [em, iv_at]
        · rw [iv_ne (by omega)]; exact a1 m (by omega))
      repeat (first | (refine hP _ _ _ _ _ _ ?_; show P _ _ _ _ _ _) | (refine hP _ _ _ _ _ _ (And.intro (hN _ _ _ rfl) ?_); show P _ _ (aR _ _ :: _) _ _ _))
      exact this
  have hN := hN0
  repeat (first | (refine hP _ _ _ _ _ _ ?_; show P _ _ _ _ _ _) | (refine hP _ _ _ _ _ _ (And.intro (hN _ _ _ rfl) ?_); show P _ _ (aR _ _ :: _) _ _ _))
  exact save 0 (by omega) S (Ag.rf _ _) (fun m hm => by omega)

/-! rings, the model's way -/
def rgM (F : Fl) (first : Nat) : Nat → Nat → Nat → Nat → Nat
  | 0, at', _, len => lgB F first at' len
  | j + 1, at', m, len => mxN (fun p => if m.testBit p = false ∧ 0 < F.ow at' p then rgM F first j p (m ||| 2 ^ p) (len + 1) else 0) F.n (lgB F first at' len)
/-- how many of the first n are not seen -/
def ufN (m : Nat) (n : Nat) : Nat := sN (fun p => if m.testBit p = true then 0 else 1) n
theorem lgB_len {F : Fl} {first at' len : Nat} : lgB F first at' len ≤ len := by
  unfold lgB
  split <;> omega
theorem rgM_le (F : Fl) (first : Nat) : ∀ j at' m len, rgM F first j at' m len ≤ len + j
  | 0, _, _, _ => lgB_len
  | j + 1, at', m, len => by
    unfold rgM
    refine mxN_le (Nat.le_trans lgB_len (by omega)) (fun k _ => ?_)
    split
    · have := rgM_le F first j k (m ||| 2 ^ k) (len + 1)
      omega
    · omega
theorem ufN_0 {m : Nat} (n : Nat) : ufN m n = 0 → ∀ p, p < n → m.testBit p = true := by
  induction n with
  | zero => intro _ p hp; omega
  | succ n ih =>
    intro h p hp
    have h : ufN m n + (if m.testBit n = true then 0 else 1) = 0 := h
    by_cases e : p = n
    · rw [e]
      by_cases hb : m.testBit n = true
      · exact hb
      · rw [if_neg hb] at h
        omega
    · exact ih (by omega) p (by omega)
theorem tb_or {m p q : Nat} : (m ||| 2 ^ p).testBit q = (m.testBit q || decide (p = q)) := by
  rw [Nat.testBit_or, Nat.testBit_two_pow]
theorem ufN_or {m p : Nat} (hb : m.testBit p = false) : ∀ n, ufN (m ||| 2 ^ p) n + (if p < n then 1 else 0) = ufN m n
  | 0 => rfl
  | n + 1 => by
    have ih := ufN_or hb n
    show ufN (m ||| 2 ^ p) n + (if (m ||| 2 ^ p).testBit n = true then 0 else 1) + (if p < n + 1 then 1 else 0) = ufN m n + (if m.testBit n = true then 0 else 1)
    rw [tb_or]
    by_cases e : p = n
    · subst e
      rw [hb]
      simp at ih ⊢
      omega
    · have : decide (p = n) = false := decide_eq_false e
      rw [this, Bool.or_false]
      by_cases h1 : p < n
      · have e1 : (if p < n + 1 then 1 else 0 : Nat) = 1 := if_pos (by omega)
        rw [if_pos h1] at ih
        rw [e1]
        omega
      · have e1 : (if p < n + 1 then 1 else 0 : Nat) = 0 := if_neg (by omega)
        rw [if_neg h1] at ih
        rw [e1]
        omega
theorem n_ringFrom {tv : TV} {nT first : Nat} {F : Fl} (hf : first < F.n) : ∀ (j : Nat) {d : Nat} {S : St} {K : KT} {at' m len : Nat}, j + 2 ≤ d → MX tv nT S F → len + j ≤ 5 → at' < F.n → m < 32 → ufN m F.n ≤ j → K (some (aI (nI (rgM F first j at' m len)))) S → Call d m_X6_ringFrom [aR 40 0, aI (nI first), aI (nI at'), aI (nI m), aI (nI len)] S K := by
  intro j
  induction j with
  | zero =>
    intro d S K at' m len hd hX hj ha hm hu h
    refine Call.of (k := 1) hd (fun e he P hP => ?_)
    have hN := hX.1.1
    have hn5 := hX.2.2.1
    have o1 := hX.2.2.ow ha hf
    have hall := ufN_0 (m := m) F.n (by omega)
    have h : K (some (aI (nI (lgB F first at' len)))) S := h
    have loop : ∀ k, k ≤ F.n → P 32 [some (aR 40 0), some (aI (nI first)), some (aI (nI at')), some (aI (nI m)), some (aI (nI len)), some (aI (nI (lgB F first at' len))), some (aI (nI k)), none] [aI (S.1 40 0 12), aI (nI k)] S 0 0 := by
      refine dn ?_ ?_
      · rw [hX.2.1.1]
        refine hP _ _ _ _ _ _ (And.intro (fun _ => ?_) (fun hc => absurd (nI_le (Nat.le_refl _) (by omega)) hc))
        repeat (first | (refine hP _ _ _ _ _ _ ?_; show P _ _ _ _ _ _) | (refine hP _ _ _ _ _ _ (And.intro (hN _ _ _ rfl) ?_); show P _ _ (aR _ _ :: _) _ _ _))
        exact hP _ _ _ _ _ _ (h)
      · intro k hk ih
        rw [nI_succ] at ih
        rw [hX.2.1.1]
        refine hP _ _ _ _ _ _ (And.intro (fun hc => absurd hc (nI_ge hk (by omega))) (fun _ => ?_))
        repeat (first | (refine hP _ _ _ _ _ _ ?_; show P _ _ _ _ _ _) | (refine hP _ _ _ _ _ _ (And.intro (hN _ _ _ rfl) ?_); show P _ _ (aR _ _ :: _) _ _ _))
        refine hP _ _ _ _ _ _ (And.intro (fun hc => ?_) (fun hc => ?_))
        · repeat (first | (refine hP _ _ _ _ _ _ ?_; show P _ _ _ _ _ _) | (refine hP _ _ _ _ _ _ (And.intro (hN _ _ _ rfl) ?_); show P _ _ (aR _ _ :: _) _ _ _))
          exact ih
        · have := (bit5 m hm k (by omega)).mp hc
          rw [hall k hk] at this
          cases this
    have base : ∀ v, v = lgB F first at' len → P 32 [some (aR 40 0), some (aI (nI first)), some (aI (nI at')), some (aI (nI m)), some (aI (nI len)), some (aI (nI v)), some (aI 0), none] [aI (S.1 40 0 12), aI 0] S 0 0 := by
      intro v hv
      rw [hv]
      exact loop 0 (Nat.zero_le _)
    repeat (first | (refine hP _ _ _ _ _ _ ?_; show P _ _ _ _ _ _) | (refine hP _ _ _ _ _ _ (And.intro (hN _ _ _ rfl) ?_); show P _ _ (aR _ _ :: _) _ _ _))
    refine hP _ _ _ _ _ _ (gtI (x := len) (y := 1) (by omega) (by omega) (fun hc => ?_) (fun hc => ?_))
    · repeat (first | (refine hP _ _ _ _ _ _ ?_; show P _ _ _ _ _ _) | (refine hP _ _ _ _ _ _ (And.intro (hN _ _ _ rfl) ?_); show P _ _ (aR _ _ :: _) _ _ _))
      exact base 0 (by unfold lgB; rw [if_neg (fun z => hc z.1)])
    · repeat (first | (refine hP _ _ _ _ _ _ ?_; show P _ _ _ _ _ _) | (refine hP _ _ _ _ _ _ (And.intro (hN _ _ _ rfl) ?_); show P _ _ (aR _ _ :: _) _ _ _))
      refine hP _ _ _ _ _ _ (n_debtOf (by omega) hX ha hf ?_)
      repeat (first | (refine hP _ _ _ _ _ _ ?_; show P _ _ _ _ _ _) | (refine hP _ _ _ _ _ _ (And.intro (hN _ _ _ rfl) ?_); show P _ _ (aR _ _ :: _) _ _ _))
      refine hP _ _ _ _ _ _ (le0 (by omega) (fun hc2 => ?_) (fun hc2 => ?_))
      · repeat (first | (refine hP _ _ _ _ _ _ ?_; show P _ _ _ _ _ _) | (refine hP _ _ _ _ _ _ (And.intro (hN _ _ _ rfl) ?_); show P _ _ (aR _ _ :: _) _ _ _))
        exact base 0 (by unfold lgB; rw [if_neg (fun z => hc2 z.2)])
      · repeat (first | (refine hP _ _ _ _ _ _ ?_; show P _ _ _ _ _ _) | (refine hP _ _ _ _ _ _ (And.intro (hN _ _ _ rfl) ?_); show P _ _ (aR _ _ :: _) _ _ _))
        exact base len (by unfold lgB; rw [if_pos ⟨hc, hc2⟩])
  | succ j ihj =>
    intro d S K at' m len hd hX hj ha hm hu h
    refine Call.of (k := j + 2) (by omega) (fun e he P hP => ?_)
    have hN := hX.1.1
    have hn5 := hX.2.2.1
    have o1 := hX.2.2.ow ha hf
    unfold rgM at h
    generalize hg : (fun p => if m.testBit p = false ∧ 0 < F.ow at' p then rgM F first j p (m ||| 2 ^ p) (len + 1) else 0) = g at h
    have hgv : ∀ k, g k = if m.testBit k = false ∧ 0 < F.ow at' k then rgM F first j k (m ||| 2 ^ k) (len + 1) else 0 := fun k => by rw [← hg]
    have hgle : ∀ k, g k ≤ 5 := fun k => by
      rw [hgv]
      split
      · have := rgM_le F first j k (m ||| 2 ^ k) (len + 1)
        omega
      · omega
    have hmle : ∀ k, mxN g k (lgB F first at' len) ≤ 5 := fun k => mxN_le (lgB_le (by omega)) (fun i _ => hgle i)
    have loop : ∀ k, k ≤ F.n → ∀ x7, P 32 [some (aR 40 0), some (aI (nI first)), some (aI (nI at')), some (aI (nI m)), some (aI (nI len)), some (aI (nI (mxN g k (lgB F first at' len)))), some (aI (nI k)), x7] [aI (S.1 40 0 12), aI (nI k)] S 0 0 := by
      refine dn ?_ ?_
      · intro x7
        rw [hX.2.1.1]
        refine hP _ _ _ _ _ _ (And.intro (fun _ => ?_) (fun hc => absurd (nI_le (Nat.le_refl _) (by omega)) hc))
        repeat (first | (refine hP _ _ _ _ _ _ ?_; show P _ _ _ _ _ _) | (refine hP _ _ _ _ _ _ (And.intro (hN _ _ _ rfl) ?_); show P _ _ (aR _ _ :: _) _ _ _))
        exact hP _ _ _ _ _ _ (h)
      · intro k hk ih x7
        rw [nI_succ] at ih
        have o2 := hX.2.2.ow ha hk
        have hge := hgv k
        obtain ⟨s1, s2⟩ := set5 m hm k (by omega)
        have skip : g k = 0 → P 89 [some (aR 40 0), some (aI (nI first)), some (aI (nI at')), some (aI (nI m)), some (aI (nI len)), some (aI (nI (mxN g k (lgB F first at' len)))), some (aI (nI k)), x7] [] S 0 0 := by
          intro h0
          have e : mxN g (k + 1) (lgB F first at' len) = mxN g k (lgB F first at' len) := by
            simp only [mxN, h0]
            rw [if_neg (by omega)]
          rw [e] at ih
          repeat (first | (refine hP _ _ _ _ _ _ ?_; show P _ _ _ _ _ _) | (refine hP _ _ _ _ _ _ (And.intro (hN _ _ _ rfl) ?_); show P _ _ (aR _ _ :: _) _ _ _))
          exact ih x7
        rw [hX.2.1.1]
        refine hP _ _ _ _ _ _ (And.intro (fun hc => absurd hc (nI_ge hk (by omega))) (fun _ => ?_))
        repeat (first | (refine hP _ _ _ _ _ _ ?_; show P _ _ _ _ _ _) | (refine hP _ _ _ _ _ _ (And.intro (hN _ _ _ rfl) ?_); show P _ _ (aR _ _ :: _) _ _ _))
        refine hP _ _ _ _ _ _ (And.intro (fun hc => ?_) (fun hc => ?_))
        · refine skip ?_
          rw [hge, if_neg]
          rintro ⟨z, -⟩
          exact hc ((bit5 m hm k (by omega)).mpr z)
        · have hb := (bit5 m hm k (by omega)).mp hc
          repeat (first | (refine hP _ _ _ _ _ _ ?_; show P _ _ _ _ _ _) | (refine hP _ _ _ _ _ _ (And.intro (hN _ _ _ rfl) ?_); show P _ _ (aR _ _ :: _) _ _ _))
          refine hP _ _ _ _ _ _ (n_debtOf (by omega) hX ha hk ?_)
          repeat (first | (refine hP _ _ _ _ _ _ ?_; show P _ _ _ _ _ _) | (refine hP _ _ _ _ _ _ (And.intro (hN _ _ _ rfl) ?_); show P _ _ (aR _ _ :: _) _ _ _))
          refine hP _ _ _ _ _ _ (le0 (by omega) (fun hc2 => ?_) (fun hc2 => ?_))
          · refine skip ?_
            rw [hge, if_neg]
            rintro ⟨-, z⟩
            exact hc2 z
          · rw [if_pos ⟨hb, hc2⟩] at hge
            have huf := ufN_or hb F.n
            rw [if_pos hk] at huf
            repeat (first | (refine hP _ _ _ _ _ _ ?_; show P _ _ _ _ _ _) | (refine hP _ _ _ _ _ _ (And.intro (hN _ _ _ rfl) ?_); show P _ _ (aR _ _ :: _) _ _ _))
            rw [s1, nI_1]
            refine hP _ _ _ _ _ _ (ihj (by omega) hX (by omega) hk s2 (by omega) ?_)
            repeat (first | (refine hP _ _ _ _ _ _ ?_; show P _ _ _ _ _ _) | (refine hP _ _ _ _ _ _ (And.intro (hN _ _ _ rfl) ?_); show P _ _ (aR _ _ :: _) _ _ _))
            have l1 := hmle k
            have l2 := hgle k
            rw [← hge]
            have e : mxN g (k + 1) (lgB F first at' len) = if mxN g k (lgB F first at' len) < g k then g k else mxN g k (lgB F first at' len) := rfl
            refine hP _ _ _ _ _ _ (gtI (by omega) (by omega) (fun hx => ?_) (fun hx => ?_))
            · rw [e, if_neg hx] at ih
              repeat (first | (refine hP _ _ _ _ _ _ ?_; show P _ _ _ _ _ _) | (refine hP _ _ _ _ _ _ (And.intro (hN _ _ _ rfl) ?_); show P _ _ (aR _ _ :: _) _ _ _))
              exact ih _
            · rw [e, if_pos hx] at ih
              repeat (first | (refine hP _ _ _ _ _ _ ?_; show P _ _ _ _ _ _) | (refine hP _ _ _ _ _ _ (And.intro (hN _ _ _ rfl) ?_); show P _ _ (aR _ _ :: _) _ _ _))
              exact ih _
    have base : ∀ v, v = lgB F first at' len → P 32 [some (aR 40 0), some (aI (nI first)), some (aI (nI at')), some (aI (nI m)), some (aI (nI len)), some (aI (nI v)), some (aI 0), none] [aI (S.1 40 0 12), aI 0] S 0 0 := by
      intro v hv
      rw [hv]
      exact loop 0 (Nat.zero_le _) none
    repeat (first | (refine hP _ _ _ _ _ _ ?_; show P _ _ _ _ _ _) | (refine hP _ _ _ _ _ _ (And.intro (hN _ _ _ rfl) ?_); show P _ _ (aR _ _ :: _) _ _ _))
    refine hP _ _ _ _ _ _ (gtI (x := len) (y := 1) (by omega) (by omega) (fun hc => ?_) (fun hc => ?_))
    · repeat (first | (refine hP _ _ _ _ _ _ ?_; show P _ _ _ _ _ _) | (refine hP _ _ _ _ _ _ (And.intro (hN _ _ _ rfl) ?_); show P _ _ (aR _ _ :: _) _ _ _))
      exact base 0 (by unfold lgB; rw [if_neg (fun z => hc z.1)])
    · repeat (first | (refine hP _ _ _ _ _ _ ?_; show P _ _ _ _ _ _) | (refine hP _ _ _ _ _ _ (And.intro (hN _ _ _ rfl) ?_); show P _ _ (aR _ _ :: _) _ _ _))
      refine hP _ _ _ _ _ _ (n_debtOf (by omega) hX ha hf ?_)
      repeat (first | (refine hP _ _ _ _ _ _ ?_; show P _ _ _ _ _ _) | (refine hP _ _ _ _ _ _ (And.intro (hN _ _ _ rfl) ?_); show P _ _ (aR _ _ :: _) _ _ _))
      refine hP _ _ _ _ _ _ (le0 (by omega) (fun hc2 => ?_) (fun hc2 => ?_))
      · repeat (first | (refine hP _ _ _ _ _ _ ?_; show P _ _ _ _ _ _) | (refine hP _ _ _ _ _ _ (And.intro (hN _ _ _ rfl) ?_); show P _ _ (aR _ _ :: _) _ _ _))
        exact base 0 (by unfold lgB; rw [if_neg (fun z => hc2 z.2)])
      · repeat (first | (refine hP _ _ _ _ _ _ ?_; show P _ _ _ _ _ _) | (refine hP _ _ _ _ _ _ (And.intro (hN _ _ _ rfl) ?_); show P _ _ (aR _ _ :: _) _ _ _))
        exact base len (by unfold lgB; rw [if_pos ⟨hc, hc2⟩])
def rmN (F : Fl) : Nat := mxN (fun p => rgM F p 4 p (2 ^ p) 1) F.n 0
theorem ufN_all : ∀ n, n ≤ 5 → ∀ p, p < n → ufN (2 ^ p) n ≤ 4 := by decide
theorem n_longestRing {tv : TV} {nT d : Nat} {S : St} {K : KT} {F : Fl} (hd : 7 ≤ d) (hX : MX tv nT S F) (h : K (some (aI (nI (rmN F)))) S) : Call d m_X6_longestRing [aR 40 0] S K := by
  refine Call.of (k := 6) hd (fun e he P hP => ?_)
  have hN := hX.1.1
  have hn5 := hX.2.2.1
  have loop : ∀ k, k ≤ F.n → ∀ x3, P 9 [some (aR 40 0), some (aI (nI (mxN (fun p => rgM F p 4 p (2 ^ p) 1) k 0))), some (aI (nI k)), x3] [aI (S.1 40 0 12), aI (nI k)] S 0 0 := by
    refine dn ?_ ?_
    · intro x3
      rw [hX.2.1.1]
      refine hP _ _ _ _ _ _ (And.intro (fun _ => ?_) (fun hc => absurd (nI_le (Nat.le_refl _) (by omega)) hc))
      repeat (first | (refine hP _ _ _ _ _ _ ?_; show P _ _ _ _ _ _) | (refine hP _ _ _ _ _ _ (And.intro (hN _ _ _ rfl) ?_); show P _ _ (aR _ _ :: _) _ _ _))
      exact hP _ _ _ _ _ _ (h)
    · intro k hk ih x3
      rw [nI_succ] at ih
      obtain ⟨s1, s2⟩ := one5 k (by omega)
      have l1 := rgM_le F k 4 k (2 ^ k) 1
      have l2 : mxN (fun p => rgM F p 4 p (2 ^ p) 1) k 0 ≤ 5 := mxN_le (by omega) (fun i _ => rgM_le F i 4 i (2 ^ i) 1)
      rw [hX.2.1.1]
      refine hP _ _ _ _ _ _ (And.intro (fun hc => absurd hc (nI_ge hk (by omega))) (fun _ => ?_))
      repeat (first | (refine hP _ _ _ _ _ _ ?_; show P _ _ _ _ _ _) | (refine hP _ _ _ _ _ _ (And.intro (hN _ _ _ rfl) ?_); show P _ _ (aR _ _ :: _) _ _ _))
      rw [s1]
      refine hP _ _ _ _ _ _ (n_ringFrom hk 4 (len := 1) (by omega) hX (by omega) hk s2 (ufN_all _ hn5 _ hk) ?_)
      repeat (first | (refine hP _ _ _ _ _ _ ?_; show P _ _ _ _ _ _) | (refine hP _ _ _ _ _ _ (And.intro (hN _ _ _ rfl) ?_); show P _ _ (aR _ _ :: _) _ _ _))
      have e : mxN (fun p => rgM F p 4 p (2 ^ p) 1) (k + 1) 0 = if mxN (fun p => rgM F p 4 p (2 ^ p) 1) k 0 < rgM F k 4 k (2 ^ k) 1 then rgM F k 4 k (2 ^ k) 1 else mxN (fun p => rgM F p 4 p (2 ^ p) 1) k 0 := rfl
      refine hP _ _ _ _ _ _ (gtI (by omega) (by omega) (fun hx => ?_) (fun hx => ?_))
      · rw [e, if_neg hx] at ih
        repeat (first | (refine hP _ _ _ _ _ _ ?_; show P _ _ _ _ _ _) | (refine hP _ _ _ _ _ _ (And.intro (hN _ _ _ rfl) ?_); show P _ _ (aR _ _ :: _) _ _ _))
        exact ih _
      · rw [e, if_pos hx] at ih
        repeat (first | (refine hP _ _ _ _ _ _ ?_; show P _ _ _ _ _ _) | (refine hP _ _ _ _ _ _ (And.intro (hN _ _ _ rfl) ?_); show P _ _ (aR _ _ :: _) _ _ _))
        exact ih _
  repeat (first | (refine hP _ _ _ _ _ _ ?_; show P _ _ _ _ _ _) | (refine hP _ _ _ _ _ _ (And.intro (hN _ _ _ rfl) ?_); show P _ _ (aR _ _ :: _) _ _ _))
  exact loop 0 (by omega) none
