/-! Floor: breath, will, may -/
def b2 (b : Bool) : Int32 := cond b 1 0
def brF (tv : Nat → Nat → (Nat → Int32) → Int32) (S : St) (f n t a : Nat) : Int32 :=
  wI (if S.1 11 f a = 1 then vlF tv S f n t 2 a 0 + 3
    else if S.1 11 f a = 2 then vlF tv S f n t 2 a 0 / 2
    else if S.1 11 f a = 3 then vlF tv S f n t 2 a 0 + 3
    else if S.1 11 f a = 4 then 99
    else if S.1 11 f a = 5 then S.1 12 f a
    else vlF tv S f n t 2 a 0) 99
theorem sp_breath {tv : Nat → Nat → (Nat → Int32) → Int32} {d : Nat} {S : St} {K : KT} {f a n t nT : Nat} (hd : 3 ≤ d) (hF : FO tv S f n t nT) (ha : a < n) (h : ∀ S', Sc S S' → K (some (aI (brF tv S f n t a))) S') : Call d m_X0_breath [aR 10 f, aI (nI a)] S K := by
  refine Call.of (k := 2) hd (fun e he P hP => ?_)
  have hN := hF.1
  have hn := hF.2.1
  obtain ⟨k, hk5, hk⟩ := hF.2.2.2.2.2.2 a ha
  have fin : ∀ (S' : St) (x : Int32), Sc S S' → brF tv S f n t a = wI x 99 → P 93 [some (aR 10 f), some (aI (nI a)), some (aI x)] [aI 99, aI x] S' 0 0 := by
    intro S' x hS hx
    refine hP _ _ _ _ _ _ (sp_within (by omega) ?_)
    have h := h S' hS
    rw [hx] at h
    exact hP _ _ _ _ _ _ (h)
  repeat (first | (refine hP _ _ _ _ _ _ ?_; show P _ _ _ _ _ _) | refine hP _ _ _ _ _ _ (And.intro (hN _ _ _ rfl) ?_))
  refine hP _ _ _ _ _ _ (Exists.intro (a) (And.intro (And.intro (rfl) (show a < 5 by omega)) ?_))
  repeat (first | (refine hP _ _ _ _ _ _ ?_; show P _ _ _ _ _ _) | refine hP _ _ _ _ _ _ (And.intro (hN _ _ _ rfl) ?_))
  refine hP _ _ _ _ _ _ (swP_to ?_)
  have hk2 : S.1 (frf (10, f).fst (10, f).snd 5).fst (frf (10, f).fst (10, f).snd 5).snd a = nI k := hk
  rw [hk2]
  rcases (show k = 0 ∨ k = 1 ∨ k = 2 ∨ k = 3 ∨ k = 4 ∨ k = 5 by omega) with rfl | rfl | rfl | rfl | rfl | rfl
  · show P 82 _ _ _ _ _
    repeat (first | (refine hP _ _ _ _ _ _ ?_; show P _ _ _ _ _ _) | refine hP _ _ _ _ _ _ (And.intro (hN _ _ _ rfl) ?_))
    refine hP _ _ _ _ _ _ (FO.value (p := 2) hF (by omega) (by omega) ha (fun S' hS => ?_))
    repeat (first | (refine hP _ _ _ _ _ _ ?_; show P _ _ _ _ _ _) | refine hP _ _ _ _ _ _ (And.intro (hN _ _ _ rfl) ?_))
    refine fin S' _ hS ?_
    simp [brF, hk, nI]
  · show P 40 _ _ _ _ _
    repeat (first | (refine hP _ _ _ _ _ _ ?_; show P _ _ _ _ _ _) | refine hP _ _ _ _ _ _ (And.intro (hN _ _ _ rfl) ?_))
    refine hP _ _ _ _ _ _ (FO.value (p := 2) hF (by omega) (by omega) ha (fun S' hS => ?_))
    repeat (first | (refine hP _ _ _ _ _ _ ?_; show P _ _ _ _ _ _) | refine hP _ _ _ _ _ _ (And.intro (hN _ _ _ rfl) ?_))
    refine fin S' _ hS ?_
    simp [brF, hk, nI]
  · show P 53 _ _ _ _ _
    repeat (first | (refine hP _ _ _ _ _ _ ?_; show P _ _ _ _ _ _) | refine hP _ _ _ _ _ _ (And.intro (hN _ _ _ rfl) ?_))
    refine hP _ _ _ _ _ _ (FO.value (p := 2) hF (by omega) (by omega) ha (fun S' hS => ?_))
    repeat (first | (refine hP _ _ _ _ _ _ ?_; show P _ _ _ _ _ _) | refine hP _ _ _ _ _ _ (And.intro (hN _ _ _ rfl) ?_))
    refine hP _ _ _ _ _ _ (And.intro (by decide) ?_)
    repeat (first | (refine hP _ _ _ _ _ _ ?_; show P _ _ _ _ _ _) | refine hP _ _ _ _ _ _ (And.intro (hN _ _ _ rfl) ?_))
    refine fin S' _ hS ?_
    simp [brF, hk, nI]
  · show P 40 _ _ _ _ _
    repeat (first | (refine hP _ _ _ _ _ _ ?_; show P _ _ _ _ _ _) | refine hP _ _ _ _ _ _ (And.intro (hN _ _ _ rfl) ?_))
    refine hP _ _ _ _ _ _ (FO.value (p := 2) hF (by omega) (by omega) ha (fun S' hS => ?_))
    repeat (first | (refine hP _ _ _ _ _ _ ?_; show P _ _ _ _ _ _) | refine hP _ _ _ _ _ _ (And.intro (hN _ _ _ rfl) ?_))
    refine fin S' _ hS ?_
    simp [brF, hk, nI]
  · show P 66 _ _ _ _ _
    repeat (first | (refine hP _ _ _ _ _ _ ?_; show P _ _ _ _ _ _) | refine hP _ _ _ _ _ _ (And.intro (hN _ _ _ rfl) ?_))
    refine fin S _ (Sc.rf S) ?_
    simp [brF, hk, nI]
  · show P 72 _ _ _ _ _
    repeat (first | (refine hP _ _ _ _ _ _ ?_; show P _ _ _ _ _ _) | refine hP _ _ _ _ _ _ (And.intro (hN _ _ _ rfl) ?_))
    refine hP _ _ _ _ _ _ (Exists.intro (a) (And.intro (And.intro (rfl) (show a < 5 by omega)) ?_))
    repeat (first | (refine hP _ _ _ _ _ _ ?_; show P _ _ _ _ _ _) | refine hP _ _ _ _ _ _ (And.intro (hN _ _ _ rfl) ?_))
    refine fin S _ (Sc.rf S) ?_
    show _ = wI (S.1 12 f a) 99
    simp [brF, hk, nI]
/-- whether one will dance with b -/
def wlF (tv : Nat → Nat → (Nat → Int32) → Int32) (S : St) (f n t a b : Nat) : Bool :=
  if S.1 11 f a = 1 then true
  else if S.1 11 f a = 2 then decide (0 < S.1 14 f (5 * b + a)) && decide (¬ vlF tv S f n t 1 a (S.1 14 f (5 * a + b)) = 0)
  else if S.1 11 f a = 3 then decide (¬ S.1 13 f a = S.1 12 f a)
  else if S.1 11 f a = 4 then decide (sm (fun x => S.1 14 f (5 * x + a)) n = 0) || (decide (0 < S.1 14 f (5 * b + a)) && decide (¬ vlF tv S f n t 1 a (S.1 14 f (5 * a + b)) = 0))
  else if S.1 11 f a = 5 then false
  else decide (¬ vlF tv S f n t 1 a (S.1 14 f (5 * a + b)) = 0)
theorem sp_will {tv : Nat → Nat → (Nat → Int32) → Int32} {d : Nat} {S : St} {K : KT} {f a b n t nT : Nat} (hd : 3 ≤ d) (hF : FO tv S f n t nT) (ha : a < n) (hb : b < n) (h : ∀ S', Sc S S' → K (some (aI (b2 (wlF tv S f n t a b)))) S') : Call d m_X0_will [aR 10 f, aI (nI a), aI (nI b)] S K := by
  refine Call.of (k := 2) hd (fun e he P hP => ?_)
  have hN := hF.1
  have hn := hF.2.1
  obtain ⟨k, hk5, hk⟩ := hF.2.2.2.2.2.2 a ha
  have mid : ∀ (w : Bool), w = decide (0 < S.1 14 f (5 * b + a)) → P 28 [some (aR 10 f), some (aI (nI a)), some (aI (nI b)), some (aI (S.1 14 f (5 * a + b))), some (aI (b2 w))] [aI (nI a), aR 11 f] S 0 0 := by
    intro w hw
    refine hP _ _ _ _ _ _ (Exists.intro (a) (And.intro (And.intro (rfl) (show a < 5 by omega)) ?_))
    repeat (first | (refine hP _ _ _ _ _ _ ?_; show P _ _ _ _ _ _) | refine hP _ _ _ _ _ _ (And.intro (hN _ _ _ rfl) ?_))
    refine hP _ _ _ _ _ _ (swP_to ?_)
    rw [hk]
    have pick : ∀ (S' : St), Sc S S' → wlF tv S f n t a b = true → P 64 [some (aR 10 f), some (aI (nI a)), some (aI (nI b)), some (aI (S.1 14 f (5 * a + b))), some (aI (b2 w))] [] S' 0 0 := by
      intro S' hS hx
      repeat (first | (refine hP _ _ _ _ _ _ ?_; show P _ _ _ _ _ _) | refine hP _ _ _ _ _ _ (And.intro (hN _ _ _ rfl) ?_))
      have h := h S' hS
      rw [hx] at h
      refine hP _ _ _ _ _ _ (And.intro (Or.inr rfl) h)
    rcases (show k = 0 ∨ k = 1 ∨ k = 2 ∨ k = 3 ∨ k = 4 ∨ k = 5 by omega) with rfl | rfl | rfl | rfl | rfl | rfl
    · show P 139 _ _ _ _ _
      repeat (first | (refine hP _ _ _ _ _ _ ?_; show P _ _ _ _ _ _) | refine hP _ _ _ _ _ _ (And.intro (hN _ _ _ rfl) ?_))
      refine hP _ _ _ _ _ _ (FO.value (p := 1) hF (by omega) (by omega) ha (fun S' hS => ?_))
      repeat (first | (refine hP _ _ _ _ _ _ ?_; show P _ _ _ _ _ _) | refine hP _ _ _ _ _ _ (And.intro (hN _ _ _ rfl) ?_))
      have h := h S' hS
      refine hP _ _ _ _ _ _ (And.intro (fun hc => ?_) (fun hc => ?_))
      · repeat (first | (refine hP _ _ _ _ _ _ ?_; show P _ _ _ _ _ _) | refine hP _ _ _ _ _ _ (And.intro (hN _ _ _ rfl) ?_))
        have hx : wlF tv S f n t a b = false := by simp [wlF, hk, nI, hc]
        rw [hx] at h
        refine hP _ _ _ _ _ _ (And.intro (Or.inl rfl) h)
      · repeat (first | (refine hP _ _ _ _ _ _ ?_; show P _ _ _ _ _ _) | refine hP _ _ _ _ _ _ (And.intro (hN _ _ _ rfl) ?_))
        have hx : wlF tv S f n t a b = true := by simp [wlF, hk, nI, hc]
        rw [hx] at h
        refine hP _ _ _ _ _ _ (And.intro (Or.inr rfl) h)
    · exact pick S (Sc.rf S) (by simp [wlF, hk, nI])
    · show P 66 _ _ _ _ _
      repeat (first | (refine hP _ _ _ _ _ _ ?_; show P _ _ _ _ _ _) | refine hP _ _ _ _ _ _ (And.intro (hN _ _ _ rfl) ?_))
      refine hP _ _ _ _ _ _ (And.intro (fun hc => ?_) (fun hc => ?_))
      · repeat (first | (refine hP _ _ _ _ _ _ ?_; show P _ _ _ _ _ _) | refine hP _ _ _ _ _ _ (And.intro (hN _ _ _ rfl) ?_))
        have hw0 : w = false := by cases w <;> simp_all [b2]
        have h := h S (Sc.rf S)
        have hx : wlF tv S f n t a b = false := by
          have : decide (0 < S.1 14 f (5 * b + a)) = false := by rw [← hw, hw0]
          simp [wlF, hk, nI, this]
        rw [hx] at h
        refine hP _ _ _ _ _ _ (And.intro (Or.inl rfl) h)
      · have hw1 : decide (0 < S.1 14 f (5 * b + a)) = true := by
          rw [← hw]
          cases w <;> simp_all [b2]
        repeat (first | (refine hP _ _ _ _ _ _ ?_; show P _ _ _ _ _ _) | refine hP _ _ _ _ _ _ (And.intro (hN _ _ _ rfl) ?_))
        refine hP _ _ _ _ _ _ (FO.value (p := 1) hF (by omega) (by omega) ha (fun S' hS => ?_))
        repeat (first | (refine hP _ _ _ _ _ _ ?_; show P _ _ _ _ _ _) | refine hP _ _ _ _ _ _ (And.intro (hN _ _ _ rfl) ?_))
        have h := h S' hS
        refine hP _ _ _ _ _ _ (And.intro (fun hc2 => ?_) (fun hc2 => ?_))
        · repeat (first | (refine hP _ _ _ _ _ _ ?_; show P _ _ _ _ _ _) | refine hP _ _ _ _ _ _ (And.intro (hN _ _ _ rfl) ?_))
          have hx : wlF tv S f n t a b = false := by simp [wlF, hk, nI, hc2]
          rw [hx] at h
          refine hP _ _ _ _ _ _ (And.intro (Or.inl rfl) h)
        · repeat (first | (refine hP _ _ _ _ _ _ ?_; show P _ _ _ _ _ _) | refine hP _ _ _ _ _ _ (And.intro (hN _ _ _ rfl) ?_))
          have hx : wlF tv S f n t a b = true := by
            simp only [wlF, hk, hw1]
            simp [nI, hc2]
          rw [hx] at h
          refine hP _ _ _ _ _ _ (And.intro (Or.inr rfl) h)
    · show P 87 _ _ _ _ _
      repeat (first | (refine hP _ _ _ _ _ _ ?_; show P _ _ _ _ _ _) | refine hP _ _ _ _ _ _ (And.intro (hN _ _ _ rfl) ?_))
      refine hP _ _ _ _ _ _ (Exists.intro (a) (And.intro (And.intro (rfl) (show a < 5 by omega)) ?_))
      repeat (first | (refine hP _ _ _ _ _ _ ?_; show P _ _ _ _ _ _) | refine hP _ _ _ _ _ _ (And.intro (hN _ _ _ rfl) ?_))
      refine hP _ _ _ _ _ _ (Exists.intro (a) (And.intro (And.intro (rfl) (show a < 5 by omega)) ?_))
      repeat (first | (refine hP _ _ _ _ _ _ ?_; show P _ _ _ _ _ _) | refine hP _ _ _ _ _ _ (And.intro (hN _ _ _ rfl) ?_))
      have h := h S (Sc.rf S)
      refine hP _ _ _ _ _ _ (And.intro (fun hc => ?_) (fun hc => ?_))
      · repeat (first | (refine hP _ _ _ _ _ _ ?_; show P _ _ _ _ _ _) | refine hP _ _ _ _ _ _ (And.intro (hN _ _ _ rfl) ?_))
        have hc' : S.1 13 f a = S.1 12 f a := hc
        have hx : wlF tv S f n t a b = false := by simp [wlF, hk, nI, hc']
        rw [hx] at h
        refine hP _ _ _ _ _ _ (And.intro (Or.inl rfl) h)
      · repeat (first | (refine hP _ _ _ _ _ _ ?_; show P _ _ _ _ _ _) | refine hP _ _ _ _ _ _ (And.intro (hN _ _ _ rfl) ?_))
        have hc' : ¬ S.1 13 f a = S.1 12 f a := hc
        have hx : wlF tv S f n t a b = true := by simp [wlF, hk, nI, hc']
        rw [hx] at h
        refine hP _ _ _ _ _ _ (And.intro (Or.inr rfl) h)
    · show P 108 _ _ _ _ _
      repeat (first | (refine hP _ _ _ _ _ _ ?_; show P _ _ _ _ _ _) | refine hP _ _ _ _ _ _ (And.intro (hN _ _ _ rfl) ?_))
      refine hP _ _ _ _ _ _ (sp_owedTo (by omega) hN hn hF.2.2.1 (by omega) ?_)
      repeat (first | (refine hP _ _ _ _ _ _ ?_; show P _ _ _ _ _ _) | refine hP _ _ _ _ _ _ (And.intro (hN _ _ _ rfl) ?_))
      refine hP _ _ _ _ _ _ (And.intro (fun hc => ?_) (fun hc => ?_))
      · repeat (first | (refine hP _ _ _ _ _ _ ?_; show P _ _ _ _ _ _) | refine hP _ _ _ _ _ _ (And.intro (hN _ _ _ rfl) ?_))
        have h := h S (Sc.rf S)
        have hx : wlF tv S f n t a b = true := by simp [wlF, hk, nI, hc]
        rw [hx] at h
        refine hP _ _ _ _ _ _ (And.intro (Or.inr rfl) h)
      · repeat (first | (refine hP _ _ _ _ _ _ ?_; show P _ _ _ _ _ _) | refine hP _ _ _ _ _ _ (And.intro (hN _ _ _ rfl) ?_))
        refine hP _ _ _ _ _ _ (And.intro (fun hc1 => ?_) (fun hc1 => ?_))
        · repeat (first | (refine hP _ _ _ _ _ _ ?_; show P _ _ _ _ _ _) | refine hP _ _ _ _ _ _ (And.intro (hN _ _ _ rfl) ?_))
          have hw0 : w = false := by cases w <;> simp_all [b2]
          have h := h S (Sc.rf S)
          have hx : wlF tv S f n t a b = false := by
            have : decide (0 < S.1 14 f (5 * b + a)) = false := by rw [← hw, hw0]
            simp [wlF, hk, nI, this, hc]
          rw [hx] at h
          refine hP _ _ _ _ _ _ (And.intro (Or.inl rfl) h)
        · have hw1 : decide (0 < S.1 14 f (5 * b + a)) = true := by
            rw [← hw]
            cases w <;> simp_all [b2]
          repeat (first | (refine hP _ _ _ _ _ _ ?_; show P _ _ _ _ _ _) | refine hP _ _ _ _ _ _ (And.intro (hN _ _ _ rfl) ?_))
          refine hP _ _ _ _ _ _ (FO.value (p := 1) hF (by omega) (by omega) ha (fun S' hS => ?_))
          repeat (first | (refine hP _ _ _ _ _ _ ?_; show P _ _ _ _ _ _) | refine hP _ _ _ _ _ _ (And.intro (hN _ _ _ rfl) ?_))
          have h := h S' hS
          refine hP _ _ _ _ _ _ (And.intro (fun hc2 => ?_) (fun hc2 => ?_))
          · repeat (first | (refine hP _ _ _ _ _ _ ?_; show P _ _ _ _ _ _) | refine hP _ _ _ _ _ _ (And.intro (hN _ _ _ rfl) ?_))
            have hx : wlF tv S f n t a b = false := by simp [wlF, hk, nI, hc2, hc]
            rw [hx] at h
            refine hP _ _ _ _ _ _ (And.intro (Or.inl rfl) h)
          · repeat (first | (refine hP _ _ _ _ _ _ ?_; show P _ _ _ _ _ _) | refine hP _ _ _ _ _ _ (And.intro (hN _ _ _ rfl) ?_))
            have hx : wlF tv S f n t a b = true := by
              simp only [wlF, hk, hw1]
              simp [nI, hc2]
            rw [hx] at h
            refine hP _ _ _ _ _ _ (And.intro (Or.inr rfl) h)
    · show P 137 _ _ _ _ _
      repeat (first | (refine hP _ _ _ _ _ _ ?_; show P _ _ _ _ _ _) | refine hP _ _ _ _ _ _ (And.intro (hN _ _ _ rfl) ?_))
      have h := h S (Sc.rf S)
      have hx : wlF tv S f n t a b = false := by simp [wlF, hk, nI]
      rw [hx] at h
      refine hP _ _ _ _ _ _ (And.intro (Or.inl rfl) h)
  repeat (first | (refine hP _ _ _ _ _ _ ?_; show P _ _ _ _ _ _) | refine hP _ _ _ _ _ _ (And.intro (hN _ _ _ rfl) ?_))
  refine hP _ _ _ _ _ _ (sp_owing (by omega) hN (by omega) (by omega) ?_)
  repeat (first | (refine hP _ _ _ _ _ _ ?_; show P _ _ _ _ _ _) | refine hP _ _ _ _ _ _ (And.intro (hN _ _ _ rfl) ?_))
  refine hP _ _ _ _ _ _ (sp_owing (by omega) hN (by omega) (by omega) ?_)
  repeat (first | (refine hP _ _ _ _ _ _ ?_; show P _ _ _ _ _ _) | refine hP _ _ _ _ _ _ (And.intro (hN _ _ _ rfl) ?_))
  refine hP _ _ _ _ _ _ (And.intro (fun hc => ?_) (fun hc => ?_))
  · repeat (first | (refine hP _ _ _ _ _ _ ?_; show P _ _ _ _ _ _) | refine hP _ _ _ _ _ _ (And.intro (hN _ _ _ rfl) ?_))
    exact mid false (by
      have : ¬ 0 < S.1 14 f (5 * b + a) := Int32.not_lt.mpr hc
      simp [this])
  · repeat (first | (refine hP _ _ _ _ _ _ ?_; show P _ _ _ _ _ _) | refine hP _ _ _ _ _ _ (And.intro (hN _ _ _ rfl) ?_))
    exact mid true (by
      have : 0 < S.1 14 f (5 * b + a) := Int32.not_le.mp hc
      simp [this])
theorem brF_c {tv : Nat → Nat → (Nat → Int32) → Int32} {S S1 : St} {f n t a : Nat} (h : Sc S S1) : brF tv S1 f n t a = brF tv S f n t a := by
  simp only [brF, vlF_c h, h.1 11 rfl, h.1 12 rfl]
theorem wlF_c {tv : Nat → Nat → (Nat → Int32) → Int32} {S S1 : St} {f n t a b : Nat} (h : Sc S S1) : wlF tv S1 f n t a b = wlF tv S f n t a b := by
  simp only [wlF, vlF_c h, h.1 11 rfl, h.1 12 rfl, h.1 13 rfl, h.1 14 rfl]
theorem pyF_c {tv : Nat → Nat → (Nat → Int32) → Int32} {S S1 : St} {f n t a : Nat} {o : Int32} (h : Sc S S1) : pyF tv S1 f n t a o = pyF tv S f n t a o := by
  simp only [pyF, vlF_c h, h.1 11 rfl, h.1 12 rfl, h.1 10 rfl]
