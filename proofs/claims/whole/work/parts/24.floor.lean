/-! Floor: may, lessen, settle, step -/
def myF (tv : Nat → Nat → (Nat → Int32) → Int32) (S : St) (f n t a b : Nat) : Bool :=
  (decide (0 < S.1 14 f (5 * a + b)) || decide (0 < S.1 14 f (5 * b + a))) && wlF tv S f n t a b && wlF tv S f n t b a && decide (S.1 13 f a < brF tv S f n t a) && decide (S.1 13 f b < brF tv S f n t b)
theorem b2_0 {w : Bool} (h : b2 w = 0) : w = false := by cases w <;> simp_all [b2]
theorem b2_1 {w : Bool} (h : ¬ b2 w = 0) : w = true := by cases w <;> simp_all [b2]
theorem sp_may {tv : Nat → Nat → (Nat → Int32) → Int32} {d : Nat} {S : St} {K : KT} {f a b n t nT : Nat} (hd : 4 ≤ d) (hF : FO tv S f n t nT) (ha : a < n) (hb : b < n) (h : ∀ S', Sc S S' → K (some (aI (b2 (myF tv S f n t a b)))) S') : Call d m_X0_may [aR 10 f, aI (nI a), aI (nI b)] S K := by
  refine Call.of (k := 3) hd (fun e he P hP => ?_)
  have hN := hF.1
  have hn := hF.2.1
  have out0 : ∀ (S' : St), Sc S S' → myF tv S f n t a b = false → P 68 [some (aR 10 f), some (aI (nI a)), some (aI (nI b))] [] S' 0 0 := by
    intro S' hS hx
    repeat (first | (refine hP _ _ _ _ _ _ ?_; show P _ _ _ _ _ _) | refine hP _ _ _ _ _ _ (And.intro (hN _ _ _ rfl) ?_))
    have h := h S' hS
    rw [hx] at h
    refine hP _ _ _ _ _ _ (And.intro (Or.inl rfl) h)
  have mid : (0 < S.1 14 f (5 * a + b) ∨ 0 < S.1 14 f (5 * b + a)) → P 18 [some (aR 10 f), some (aI (nI a)), some (aI (nI b))] [] S 0 0 := by
    intro hor
    have hor' : (decide (0 < S.1 14 f (5 * a + b)) || decide (0 < S.1 14 f (5 * b + a))) = true := by simpa using hor
    repeat (first | (refine hP _ _ _ _ _ _ ?_; show P _ _ _ _ _ _) | refine hP _ _ _ _ _ _ (And.intro (hN _ _ _ rfl) ?_))
    refine hP _ _ _ _ _ _ (sp_will (by omega) hF ha hb (fun S1 h1 => ?_))
    repeat (first | (refine hP _ _ _ _ _ _ ?_; show P _ _ _ _ _ _) | refine hP _ _ _ _ _ _ (And.intro (hN _ _ _ rfl) ?_))
    refine hP _ _ _ _ _ _ (And.intro (fun hc => ?_) (fun hc => ?_))
    · exact out0 S1 h1 (by simp [myF, b2_0 hc])
    · have w1 := b2_1 hc
      have hF1 := hF.up h1
      repeat (first | (refine hP _ _ _ _ _ _ ?_; show P _ _ _ _ _ _) | refine hP _ _ _ _ _ _ (And.intro (hN _ _ _ rfl) ?_))
      refine hP _ _ _ _ _ _ (sp_will (by omega) hF1 hb ha (fun S2 h2 => ?_))
      repeat (first | (refine hP _ _ _ _ _ _ ?_; show P _ _ _ _ _ _) | refine hP _ _ _ _ _ _ (And.intro (hN _ _ _ rfl) ?_))
      rw [wlF_c h1]
      refine hP _ _ _ _ _ _ (And.intro (fun hc2 => ?_) (fun hc2 => ?_))
      · exact out0 S2 (h1.tr h2) (by simp [myF, b2_0 hc2])
      · have w2 := b2_1 hc2
        have h12 := h1.tr h2
        have hF2 := hF.up h12
        have hN := hF2.1
        repeat (first | (refine hP _ _ _ _ _ _ ?_; show P _ _ _ _ _ _) | refine hP _ _ _ _ _ _ (And.intro (hN _ _ _ rfl) ?_))
        refine hP _ _ _ _ _ _ (Exists.intro (a) (And.intro (And.intro (rfl) (show a < 5 by omega)) ?_))
        repeat (first | (refine hP _ _ _ _ _ _ ?_; show P _ _ _ _ _ _) | refine hP _ _ _ _ _ _ (And.intro (hN _ _ _ rfl) ?_))
        refine hP _ _ _ _ _ _ (sp_breath (by omega) hF2 ha (fun S3 h3 => ?_))
        have h13 := h12.tr h3
        have hF3 := hF.up h13
        have hN := hF3.1
        repeat (first | (refine hP _ _ _ _ _ _ ?_; show P _ _ _ _ _ _) | refine hP _ _ _ _ _ _ (And.intro (hN _ _ _ rfl) ?_))
        rw [brF_c h12]
        have e2 : S2.1 (frf (10, f).fst (10, f).snd 7).fst (frf (10, f).fst (10, f).snd 7).snd a = S.1 13 f a := by
          show S2.1 13 f a = _
          rw [h12.1 13 rfl]
        rw [e2]
        refine hP _ _ _ _ _ _ (And.intro (fun hc3 => ?_) (fun hc3 => ?_))
        · exact out0 S3 h13 (by
            have : ¬ S.1 13 f a < brF tv S f n t a := Int32.not_lt.mpr hc3
            simp [myF, this])
        · have w3 := Int32.not_le.mp hc3
          repeat (first | (refine hP _ _ _ _ _ _ ?_; show P _ _ _ _ _ _) | refine hP _ _ _ _ _ _ (And.intro (hN _ _ _ rfl) ?_))
          refine hP _ _ _ _ _ _ (Exists.intro (b) (And.intro (And.intro (rfl) (show b < 5 by omega)) ?_))
          repeat (first | (refine hP _ _ _ _ _ _ ?_; show P _ _ _ _ _ _) | refine hP _ _ _ _ _ _ (And.intro (hN _ _ _ rfl) ?_))
          refine hP _ _ _ _ _ _ (sp_breath (by omega) hF3 hb (fun S4 h4 => ?_))
          have h14 := h13.tr h4
          repeat (first | (refine hP _ _ _ _ _ _ ?_; show P _ _ _ _ _ _) | refine hP _ _ _ _ _ _ (And.intro (hN _ _ _ rfl) ?_))
          rw [brF_c h13]
          have e3 : S3.1 (frf (10, f).fst (10, f).snd 7).fst (frf (10, f).fst (10, f).snd 7).snd b = S.1 13 f b := by
            show S3.1 13 f b = _
            rw [h13.1 13 rfl]
          rw [e3]
          refine hP _ _ _ _ _ _ (And.intro (fun hc4 => ?_) (fun hc4 => ?_))
          · exact out0 S4 h14 (by
              have : ¬ S.1 13 f b < brF tv S f n t b := Int32.not_lt.mpr hc4
              simp [myF, this])
          · have w4 := Int32.not_le.mp hc4
            repeat (first | (refine hP _ _ _ _ _ _ ?_; show P _ _ _ _ _ _) | refine hP _ _ _ _ _ _ (And.intro (hN _ _ _ rfl) ?_))
            have h := h S4 h14
            have hx : myF tv S f n t a b = true := by simp [myF, hor', w1, w2, w3, w4]
            rw [hx] at h
            refine hP _ _ _ _ _ _ (And.intro (Or.inr rfl) h)
  repeat (first | (refine hP _ _ _ _ _ _ ?_; show P _ _ _ _ _ _) | refine hP _ _ _ _ _ _ (And.intro (hN _ _ _ rfl) ?_))
  refine hP _ _ _ _ _ _ (sp_owing (by omega) hN (by omega) (by omega) ?_)
  repeat (first | (refine hP _ _ _ _ _ _ ?_; show P _ _ _ _ _ _) | refine hP _ _ _ _ _ _ (And.intro (hN _ _ _ rfl) ?_))
  refine hP _ _ _ _ _ _ (And.intro (fun hc => ?_) (fun hc => ?_))
  · exact mid (Or.inl hc)
  · repeat (first | (refine hP _ _ _ _ _ _ ?_; show P _ _ _ _ _ _) | refine hP _ _ _ _ _ _ (And.intro (hN _ _ _ rfl) ?_))
    refine hP _ _ _ _ _ _ (sp_owing (by omega) hN (by omega) (by omega) ?_)
    repeat (first | (refine hP _ _ _ _ _ _ ?_; show P _ _ _ _ _ _) | refine hP _ _ _ _ _ _ (And.intro (hN _ _ _ rfl) ?_))
    refine hP _ _ _ _ _ _ (And.intro (fun hc2 => ?_) (fun hc2 => ?_))
    · exact out0 S (Sc.rf S) (by
        have g1 : ¬ 0 < S.1 14 f (5 * a + b) := hc
        have g2 : ¬ 0 < S.1 14 f (5 * b + a) := Int32.not_lt.mpr hc2
        simp [myF, g1, g2])
    · exact mid (Or.inr (Int32.not_le.mp hc2))
/-- a debt is so much less -/
def lsS (S : St) (f a b : Nat) (v : Int32) : St := ivSet S 14 f (5 * a + b) (S.1 14 f (5 * a + b) - v)
theorem sp_lessen {d : Nat} {S : St} {K : KT} {f a b : Nat} {v : Int32} (hd : 1 ≤ d) (hN : NN S) (ha : a < 5) (hb : b < 5) (h : K none (lsS S f a b v)) : Call d m_X0_lessen [aR 10 f, aI (nI a), aI (nI b), aI v] S K := by
  refine Call.of (k := 0) hd (fun e he P hP => ?_)
  repeat (first | (refine hP _ _ _ _ _ _ ?_; show P _ _ _ _ _ _) | refine hP _ _ _ _ _ _ (And.intro (hN _ _ _ rfl) ?_))
  refine hP _ _ _ _ _ _ (Exists.intro (5 * a + b) (And.intro (And.intro (ix5 a b) (by show _ < 25; omega)) ?_))
  repeat (first | (refine hP _ _ _ _ _ _ ?_; show P _ _ _ _ _ _) | refine hP _ _ _ _ _ _ (And.intro (hN _ _ _ rfl) ?_))
  refine hP _ _ _ _ _ _ (Exists.intro (5 * a + b) (And.intro (And.intro (ix5 a b) (by show _ < 25; omega)) ?_))
  repeat (first | (refine hP _ _ _ _ _ _ ?_; show P _ _ _ _ _ _) | refine hP _ _ _ _ _ _ (And.intro (hN _ _ _ rfl) ?_))
  exact hP _ _ _ _ _ _ (h)
/-- one dance more, 99 at most -/
def dnS (S : St) (f a : Nat) : St := ivSet S 13 f a (if 99 < S.1 13 f a + 1 then 99 else S.1 13 f a + 1)
def stS (S : St) (f a b : Nat) (v w : Int32) : St := dnS (dnS (lsS (lsS S f a b v) f b a w) f a) f b
theorem iv_NN {S : St} {j g k : Nat} {v : Int32} (h : NN S) : NN (ivSet S j g k v) := h
theorem sp_settle {d : Nat} {S : St} {K : KT} {f a b : Nat} {v w : Int32} (hd : 2 ≤ d) (hN : NN S) (ha : a < 5) (hb : b < 5) (h : K none (stS S f a b v w)) : Call d m_X0_settle [aR 10 f, aI (nI a), aI (nI b), aI v, aI w] S K := by
  refine Call.of (k := 1) hd (fun e he P hP => ?_)
  repeat (first | (refine hP _ _ _ _ _ _ ?_; show P _ _ _ _ _ _) | refine hP _ _ _ _ _ _ (And.intro (hN _ _ _ rfl) ?_))
  refine hP _ _ _ _ _ _ (sp_lessen (by omega) hN ha hb ?_)
  repeat (first | (refine hP _ _ _ _ _ _ ?_; show P _ _ _ _ _ _) | refine hP _ _ _ _ _ _ (And.intro (hN _ _ _ rfl) ?_))
  refine hP _ _ _ _ _ _ (sp_lessen (by omega) hN hb ha ?_)
  repeat (first | (refine hP _ _ _ _ _ _ ?_; show P _ _ _ _ _ _) | refine hP _ _ _ _ _ _ (And.intro (hN _ _ _ rfl) ?_))
  refine hP _ _ _ _ _ _ (Exists.intro (a) (And.intro (And.intro (rfl) (show a < 5 from ha)) ?_))
  repeat (first | (refine hP _ _ _ _ _ _ ?_; show P _ _ _ _ _ _) | refine hP _ _ _ _ _ _ (And.intro (hN _ _ _ rfl) ?_))
  refine hP _ _ _ _ _ _ (Exists.intro (a) (And.intro (And.intro (rfl) (show a < 5 from ha)) ?_))
  repeat (first | (refine hP _ _ _ _ _ _ ?_; show P _ _ _ _ _ _) | refine hP _ _ _ _ _ _ (And.intro (hN _ _ _ rfl) ?_))
  refine hP _ _ _ _ _ _ (Exists.intro (b) (And.intro (And.intro (rfl) (show b < 5 from hb)) ?_))
  repeat (first | (refine hP _ _ _ _ _ _ ?_; show P _ _ _ _ _ _) | refine hP _ _ _ _ _ _ (And.intro (hN _ _ _ rfl) ?_))
  refine hP _ _ _ _ _ _ (Exists.intro (b) (And.intro (And.intro (rfl) (show b < 5 from hb)) ?_))
  repeat (first | (refine hP _ _ _ _ _ _ ?_; show P _ _ _ _ _ _) | refine hP _ _ _ _ _ _ (And.intro (hN _ _ _ rfl) ?_))
  exact hP _ _ _ _ _ _ (h)
