/-! Sets of twos: what is weighed -/
def al (f : Nat → Bool) : Nat → Bool
  | 0 => true
  | n + 1 => al f n && f n
theorem al_iff {f : Nat → Bool} : ∀ {n : Nat}, al f n = true ↔ ∀ k, k < n → f k = true
  | 0 => ⟨fun _ k hk => by omega, fun _ => rfl⟩
  | n + 1 => by
    simp only [al, Bool.and_eq_true, al_iff (n := n)]
    constructor
    · intro h k hk
      rcases Nat.lt_succ_iff_lt_or_eq.mp hk with h1 | rfl
      · exact h.1 k h1
      · exact h.2
    · exact fun h => ⟨fun k hk => h k (by omega), h n (by omega)⟩
def sb (i k : Nat) : Bool := (setN i).testBit k
theorem sb_bit : ∀ i, i < 26 → ∀ k, k < 10 → (((nI (setN i) >>> (nI k &&& 31)) &&& 1 = 1) ↔ (sb i k = true)) := by
  have h : ∀ i, i < 26 → ∀ k, k < 10 → decide ((nI (setN i) >>> (nI k &&& 31)) &&& 1 = 1) = sb i k := by decide +kernel
  intro i hi k hk
  rw [← h i hi k hk]
  simp
theorem sb_apart0 : ∀ i, i < 26 → ∀ k, k < 10 → ∀ j, j < 10 → (!(sb i k) || !(sb i j) || decide (j = k) || (decide (¬ prA j = prA k) && decide (¬ prA j = prB k) && decide (¬ prB j = prA k) && decide (¬ prB j = prB k))) = true := by decide +kernel
theorem sb_apart (i : Nat) (hi : i < 26) (k : Nat) (hk : k < 10) (j : Nat) (hj : j < 10) (h1 : sb i k = true) (h2 : sb i j = true) (h3 : ¬ j = k) : (¬ prA j = prA k ∧ ¬ prA j = prB k ∧ ¬ prB j = prA k ∧ ¬ prB j = prB k) := by
  have h := sb_apart0 i hi k hk j hj
  simp only [h1, h2, h3, decide_false, Bool.not_true, Bool.false_or, Bool.and_eq_true, decide_eq_true_eq] at h
  exact ⟨h.1.1.1, h.1.1.2, h.1.2, h.2⟩
theorem sb_0 : ∀ k, k < 10 → sb 0 k = false := by decide +kernel
/-- may this two dance -/
def okN (tv : TV) (F : Fl) (k : Nat) : Bool := decide (prB k < F.n) && myN tv F (prA k) (prB k)
/-- may all of a set -/
def okS (tv : TV) (F : Fl) (i : Nat) : Bool := al (fun k => !(sb i k) || okN tv F k) 10
theorem okS_iff {tv : TV} {F : Fl} {i : Nat} : okS tv F i = true ↔ ∀ k, k < 10 → sb i k = true → okN tv F k = true := by
  unfold okS
  rw [al_iff]
  constructor
  · intro h k hk h1
    have := h k hk
    rw [h1] at this
    exact this
  · intro h k hk
    cases h1 : sb i k with
    | false => rfl
    | true => rw [h k hk h1]; rfl
/-- what a set pays -/
def pdN (tv : TV) (F : Fl) (i : Nat) : Nat := sN (fun k => cond (sb i k) (spN tv F (prA k) (prB k)) 0) 10
theorem okS_0 (tv : TV) (F : Fl) : okS tv F 0 = true := okS_iff.mpr fun k hk h => by rw [sb_0 k hk] at h; cases h
theorem pdN_0 (tv : TV) (F : Fl) : pdN tv F 0 = 0 := by
  unfold pdN
  rw [sN_congr (g := fun _ => 0) (fun k hk => by rw [sb_0 k hk]; rfl)]
  rfl
/-- of the first so many sets the best one -/
def biN (tv : TV) (F : Fl) : Nat → Nat
  | 0 => 0
  | k + 1 => if okS tv F k = true ∧ pdN tv F (biN tv F k) < pdN tv F k then k else biN tv F k
theorem biN_in (tv : TV) (F : Fl) : ∀ k, k ≤ 26 → biN tv F k < 26 ∧ okS tv F (biN tv F k) = true
  | 0, _ => ⟨(by show 0 < 26; omega), okS_0 tv F⟩
  | k + 1, h => by
    have := biN_in tv F k (by omega)
    simp only [biN]
    split
    · rename_i hc
      exact ⟨by omega, hc.1⟩
    · exact this
theorem spN_le {tv : TV} {F : Fl} {nT a b : Nat} (hW : WF nT F) (ha : a < F.n) (hb : b < F.n) : spN tv F a b ≤ F.ow a b + F.ow b a := by
  have h1 := hW.ow ha hb
  have h2 := hW.ow hb ha
  have h3 := pyN_le tv F a (o := F.ow a b) (by omega)
  have h4 := pyN_le tv F b (o := F.ow b a) (by omega)
  unfold spN
  omega
theorem okN_lt {tv : TV} {F : Fl} {k : Nat} (h : okN tv F k = true) : prB k < F.n := by
  unfold okN at h
  simp at h
  exact h.1
theorem pdN_le {tv : TV} {F : Fl} {nT i : Nat} (hW : WF nT F) (hok : okS tv F i = true) : pdN tv F i ≤ 1980 := by
  have := sN_le (f := fun k => cond (sb i k) (spN tv F (prA k) (prB k)) 0) (m := 198) (n := 10) (fun k hk => by
    cases h : sb i k with
    | false => simp
    | true =>
      have h1 := okN_lt (okS_iff.mp hok k hk h)
      have h2 := pr_lt k hk
      have h3 := spN_le (tv := tv) hW (a := prA k) (b := prB k) (by omega) h1
      have h4 := hW.ow (a := prA k) (b := prB k) (by omega) h1
      have h5 := hW.ow (a := prB k) (b := prA k) h1 (by omega)
      simp only [cond]
      omega)
  exact this
/-- the bits -/
def mdG (o : Nat → Bool) : Nat → Int32
  | 0 => 0
  | k + 1 => if o k = true then mdG o k ||| ((1 : Int32) <<< (nI k &&& 31)) else mdG o k
theorem bit1 : ∀ k, k < 10 → ∀ j, j < 32 → ((1 : Int32) <<< (nI k &&& 31)).toBitVec.getLsbD j = decide (j = k) := by decide +kernel
theorem set1 : ∀ i, i < 26 → ∀ k, k < 32 → (nI (setN i)).toBitVec.getLsbD k = (decide (k < 10) && sb i k) := by decide +kernel
theorem mdG_bit (o : Nat → Bool) : ∀ n, n ≤ 10 → ∀ j, j < 32 → (mdG o n).toBitVec.getLsbD j = (decide (j < n) && o j)
  | 0, _, j, hj => by simp [mdG]
  | n + 1, hn, j, hj => by
    have ih := mdG_bit o n (by omega) j hj
    simp only [mdG]
    split
    · rename_i ho
      rw [Int32.toBitVec_or, BitVec.getLsbD_or, ih, bit1 n (by omega) j hj]
      by_cases e : j = n
      · subst e
        simp [ho]
      · have : decide (j < n + 1) = decide (j < n) := decide_eq_decide.mpr (by omega)
        simp [e, this]
    · rename_i ho
      rw [ih]
      by_cases e : j = n
      · subst e
        simp [ho]
      · have : decide (j < n + 1) = decide (j < n) := decide_eq_decide.mpr (by omega)
        rw [this]
theorem and_not (x y : Int32) : (x &&& (y ^^^ -1) = 0) ↔ ∀ k, k < 32 → x.toBitVec.getLsbD k = true → y.toBitVec.getLsbD k = true := by
  have e1 : (x &&& (y ^^^ -1)).toBitVec = x.toBitVec &&& (y.toBitVec ^^^ BitVec.allOnes 32) := by
    rw [Int32.toBitVec_and, Int32.toBitVec_xor]
    rfl
  rw [← Int32.toBitVec_inj, e1]
  have e0 : ∀ k, (0 : Int32).toBitVec.getLsbD k = false := fun k => by
    show (0#32).getLsbD k = false
    simp
  have e2 : ∀ k, k < 32 → (x.toBitVec &&& (y.toBitVec ^^^ BitVec.allOnes 32)).getLsbD k = (x.toBitVec.getLsbD k && !(y.toBitVec.getLsbD k)) := fun k hk => by
    rw [BitVec.getLsbD_and, BitVec.getLsbD_xor, BitVec.getLsbD_allOnes, decide_eq_true hk, Bool.xor_true]
  constructor
  · intro h k hk hx
    have := congrArg (fun z : BitVec 32 => z.getLsbD k) h
    simp only [e0, e2 k hk, hx, Bool.true_and, Bool.not_eq_eq_eq_not, Bool.not_false] at this
    exact this
  · intro h
    apply BitVec.eq_of_getLsbD_eq
    intro k hk
    rw [e0, e2 k hk]
    have := h k hk
    cases hx : x.toBitVec.getLsbD k with
    | false => rfl
    | true => rw [this hx]; rfl
theorem may_iff (o : Nat → Bool) {i : Nat} (hi : i < 26) : (nI (setN i) &&& (mdG o 10 ^^^ -1) = 0) ↔ ∀ k, k < 10 → sb i k = true → o k = true := by
  rw [and_not]
  constructor
  · intro h k hk hs
    have := h k (by omega)
    rw [set1 i hi k (by omega), mdG_bit o 10 (by omega) k (by omega)] at this
    simp [hk, hs] at this
    exact this
  · intro h k hk
    rw [set1 i hi k hk, mdG_bit o 10 (by omega) k hk]
    simp
    exact fun h1 h2 => ⟨h1, h k h1 h2⟩
/-- floor f is weighed as F -/
def wgh (tv : TV) (S : St) (f : Nat) (F : Fl) : Prop := S.1 10 f 10 = mdG (okN tv F) 10 ∧ ∀ k, k < 10 → okN tv F k = true → S.1 15 f k = nI (pyN tv F (prA k) (F.ow (prA k) (prB k))) ∧ S.1 16 f k = nI (pyN tv F (prB k) (F.ow (prB k) (prA k)))
def wW (f : Nat) : WW := fun j g k => j = 4 ∨ j = 5 ∨ (g = f ∧ (j = 15 ∨ j = 16 ∨ (j = 10 ∧ k = 10)))
theorem wW_ok (f : Nat) : okW (wW f) := by
  intro j g k hj
  simp only [wW] at hj
  omega
theorem wW_F (f : Nat) (f' : Nat) : okF (wW f) f' := by
  intro j k hj
  simp only [wW] at hj
  omega
theorem w0_W (f : Nat) : ∀ j g k, w0 j g k → wW f j g k := by
  intro j g k hj
  simp only [w0] at hj
  simp only [wW]
  omega
def wgk (tv : TV) (S : St) (f : Nat) (F : Fl) (n : Nat) : Prop := S.1 10 f 10 = mdG (okN tv F) n ∧ ∀ k, k < n → okN tv F k = true → S.1 15 f k = nI (pyN tv F (prA k) (F.ow (prA k) (prB k))) ∧ S.1 16 f k = nI (pyN tv F (prB k) (F.ow (prB k) (prA k)))
theorem wgk.up {tv : TV} {S S' : St} {f n : Nat} {F : Fl} {W : WW} (h : wgk tv S f F n) (h1 : Ag W S S') (hw : ∀ j k, W j f k → ¬ (j = 10 ∧ k = 10 ∨ ((j = 15 ∨ j = 16) ∧ k < n))) : wgk tv S' f F n := by
  refine ⟨?_, fun k hk ho => ?_⟩
  · rw [h1.1 10 f 10 (fun z => hw _ _ z (by omega))]
    exact h.1
  · rw [h1.1 15 f k (fun z => hw _ _ z (by omega)), h1.1 16 f k (fun z => hw _ _ z (by omega))]
    exact h.2 k hk ho
theorem q_weigh {tv : TV} {nT d : Nat} {S : St} {K : KT} {f : Nat} {F : Fl} (hd : 5 ≤ d) (hX : FX tv nT S f F) (h : ∀ S', Ag (wW f) S S' → FX tv nT S' f F → wgh tv S' f F → K none S') : Call d m_X0_weigh [aR 10 f] S K := by
  refine Call.of (k := 4) hd (fun e he P hP => ?_)
  have hN := hX.1.1
  have loop : ∀ k, k ≤ 10 → ∀ S1 x2 x3, Ag (wW f) S S1 → FX tv nT S1 f F → wgk tv S1 f F k → P 12 [some (aR 10 f), some (aI (nI k)), x2, x3] [aI (nI 10), aI (nI k)] S1 0 0 := by
    refine dn ?_ ?_
    · intro S1 x2 x3 g1 hX1 hw
      have hN := hX1.1.1
      repeat (first | (refine hP _ _ _ _ _ _ ?_; show P _ _ _ _ _ _) | (refine hP _ _ _ _ _ _ (And.intro (hN _ _ _ rfl) ?_); show P _ _ (aR _ _ :: _) _ _ _))
      refine hP _ _ _ _ _ _ (And.intro (fun _ => ?_) (fun hc => absurd (nI_le (Nat.le_refl 10) (by decide)) hc))
      repeat (first | (refine hP _ _ _ _ _ _ ?_; show P _ _ _ _ _ _) | (refine hP _ _ _ _ _ _ (And.intro (hN _ _ _ rfl) ?_); show P _ _ (aR _ _ :: _) _ _ _))
      exact hP _ _ _ _ _ _ (h S1 g1 hX1 hw)
    · intro k hk ih S1 x2 x3 g1 hX1 hw
      have hN := hX1.1.1
      obtain ⟨t1, t2⟩ := hX1.1.2.2.1 k hk
      obtain ⟨p1, p2⟩ := pr_lt k hk
      have hn5 := hX1.2.2.1
      repeat (first | (refine hP _ _ _ _ _ _ ?_; show P _ _ _ _ _ _) | (refine hP _ _ _ _ _ _ (And.intro (hN _ _ _ rfl) ?_); show P _ _ (aR _ _ :: _) _ _ _))
      refine hP _ _ _ _ _ _ (And.intro (fun hc => absurd hc (nI_ge (b := 10) hk (by decide))) (fun _ => ?_))
      repeat (first | (refine hP _ _ _ _ _ _ ?_; show P _ _ _ _ _ _) | (refine hP _ _ _ _ _ _ (And.intro (hN _ _ _ rfl) ?_); show P _ _ (aR _ _ :: _) _ _ _))
      refine hP _ _ _ _ _ _ (Exists.intro (k) (And.intro (And.intro (rfl) (show k < 10 from hk)) ?_))
      rw [t1]
      repeat (first | (refine hP _ _ _ _ _ _ ?_; show P _ _ _ _ _ _) | (refine hP _ _ _ _ _ _ (And.intro (hN _ _ _ rfl) ?_); show P _ _ (aR _ _ :: _) _ _ _))
      refine hP _ _ _ _ _ _ (Exists.intro (k) (And.intro (And.intro (rfl) (show k < 10 from hk)) ?_))
      rw [t2]
      repeat (first | (refine hP _ _ _ _ _ _ ?_; show P _ _ _ _ _ _) | (refine hP _ _ _ _ _ _ (And.intro (hN _ _ _ rfl) ?_); show P _ _ (aR _ _ :: _) _ _ _))
      rw [hX1.2.1.1]
      have skip : ∀ S2, Ag (wW f) S S2 → FX tv nT S2 f F → wgk tv S2 f F k → okN tv F k = false → P 90 [some (aR 10 f), some (aI (nI k)), some (aI (nI (prA k))), some (aI (nI (prB k)))] [] S2 0 0 := by
        intro S2 g2 hX2 hw2 ho
        repeat (first | (refine hP _ _ _ _ _ _ ?_; show P _ _ _ _ _ _) | (refine hP _ _ _ _ _ _ (And.intro (hN _ _ _ rfl) ?_); show P _ _ (aR _ _ :: _) _ _ _))
        have := ih S2 (some (aI (nI (prA k)))) (some (aI (nI (prB k)))) g2 hX2 ⟨by simp [mdG, ho, hw2.1], fun j hj hoj => by
          by_cases e : j = k
          · rw [e, ho] at hoj
            cases hoj
          · exact hw2.2 j (by omega) hoj⟩
        rw [nI_succ] at this
        exact this
      refine hP _ _ _ _ _ _ (And.intro (fun hc => ?_) (fun hc => ?_))
      · refine skip S1 g1 hX1 hw ?_
        have : ¬ prB k < F.n := fun z => absurd hc (nI_ge z (by omega))
        simp [okN, this]
      · have w1 : prB k < F.n := by
          apply Classical.byContradiction
          intro z
          exact hc (nI_le (by omega) (by omega))
        have o1 := hX1.2.2.ow (a := prA k) (b := prB k) (by omega) w1
        have o2 := hX1.2.2.ow (a := prB k) (b := prA k) w1 (by omega)
        repeat (first | (refine hP _ _ _ _ _ _ ?_; show P _ _ _ _ _ _) | (refine hP _ _ _ _ _ _ (And.intro (hN _ _ _ rfl) ?_); show P _ _ (aR _ _ :: _) _ _ _))
        refine hP _ _ _ _ _ _ (q_may (by omega) hX1 (by omega) w1 (fun S2 h2 => ?_))
        have hX2 := hX1.sc h2
        have hN := hX2.1.1
        have g2 : Ag (wW f) S S2 := g1.tr (h2.mono (w0_W f))
        have hw2 : wgk tv S2 f F k := hw.up h2 (by intro j k hj; simp only [w0] at hj; omega)
        repeat (first | (refine hP _ _ _ _ _ _ ?_; show P _ _ _ _ _ _) | (refine hP _ _ _ _ _ _ (And.intro (hN _ _ _ rfl) ?_); show P _ _ (aR _ _ :: _) _ _ _))
        refine hP _ _ _ _ _ _ (And.intro (fun hc3 => ?_) (fun hc3 => ?_))
        · have w3 := b2_0 hc3
          exact skip S2 g2 hX2 hw2 (by simp [okN, w3])
        · have w3 := b2_1 hc3
          have ho : okN tv F k = true := by simp [okN, w1, w3]
          repeat (first | (refine hP _ _ _ _ _ _ ?_; show P _ _ _ _ _ _) | (refine hP _ _ _ _ _ _ (And.intro (hN _ _ _ rfl) ?_); show P _ _ (aR _ _ :: _) _ _ _))
          rw [hw2.1]
          show P _ _ _ (ivSet S2 10 f 10 (mdG (okN tv F) k ||| ((1 : Int32) <<< (nI k &&& 31)))) _ _
          have g3 : Ag (wW f) S2 (ivSet S2 10 f 10 (mdG (okN tv F) k ||| ((1 : Int32) <<< (nI k &&& 31)))) := Ag.iv (by simp [wW])
          have hX3 := hX2.up g3 (wW_ok f) (wW_F f f)
          have z3 : (ivSet S2 10 f 10 (mdG (okN tv F) k ||| ((1 : Int32) <<< (nI k &&& 31)))).1 10 f 10 = mdG (okN tv F) (k + 1) := by
            rw [iv_at]
            simp [mdG, ho]
          have y3 : ∀ j, j < k → okN tv F j = true → (ivSet S2 10 f 10 (mdG (okN tv F) k ||| ((1 : Int32) <<< (nI k &&& 31)))).1 15 f j = nI (pyN tv F (prA j) (F.ow (prA j) (prB j))) ∧ (ivSet S2 10 f 10 (mdG (okN tv F) k ||| ((1 : Int32) <<< (nI k &&& 31)))).1 16 f j = nI (pyN tv F (prB j) (F.ow (prB j) (prA j))) := by
            intro j hj hoj
            rw [iv_ne (by omega), iv_ne (by omega)]
            exact hw2.2 j hj hoj
          generalize ivSet S2 10 f 10 (mdG (okN tv F) k ||| ((1 : Int32) <<< (nI k &&& 31))) = S3 at g3 hX3 z3 y3 ⊢
          have hN := hX3.1.1
          repeat (first | (refine hP _ _ _ _ _ _ ?_; show P _ _ _ _ _ _) | (refine hP _ _ _ _ _ _ (And.intro (hN _ _ _ rfl) ?_); show P _ _ (aR _ _ :: _) _ _ _))
          refine hP _ _ _ _ _ _ (q_owing (by omega) hX3 (by omega) w1 ?_)
          repeat (first | (refine hP _ _ _ _ _ _ ?_; show P _ _ _ _ _ _) | (refine hP _ _ _ _ _ _ (And.intro (hN _ _ _ rfl) ?_); show P _ _ (aR _ _ :: _) _ _ _))
          refine hP _ _ _ _ _ _ (q_pays (by omega) hX3 (by omega) (fun S4 h4 => ?_))
          have hX4 := hX3.sc h4
          have hN := hX4.1.1
          repeat (first | (refine hP _ _ _ _ _ _ ?_; show P _ _ _ _ _ _) | (refine hP _ _ _ _ _ _ (And.intro (hN _ _ _ rfl) ?_); show P _ _ (aR _ _ :: _) _ _ _))
          refine hP _ _ _ _ _ _ (Exists.intro (k) (And.intro (And.intro (rfl) (show k < 10 from hk)) ?_))
          show P _ _ _ (ivSet S4 15 f k (nI (pyN tv F (prA k) (F.ow (prA k) (prB k))))) _ _
          have g5 : Ag (wW f) S4 (ivSet S4 15 f k (nI (pyN tv F (prA k) (F.ow (prA k) (prB k))))) := Ag.iv (by simp [wW])
          have hX5 := hX4.up g5 (wW_ok f) (wW_F f f)
          have z5 : (ivSet S4 15 f k (nI (pyN tv F (prA k) (F.ow (prA k) (prB k))))).1 10 f 10 = mdG (okN tv F) (k + 1) := by
            rw [iv_ne (by omega), h4.1 10 f 10 (by simp [w0])]
            exact z3
          have v5 : (ivSet S4 15 f k (nI (pyN tv F (prA k) (F.ow (prA k) (prB k))))).1 15 f k = nI (pyN tv F (prA k) (F.ow (prA k) (prB k))) := iv_at
          have y5 : ∀ j, j < k → okN tv F j = true → (ivSet S4 15 f k (nI (pyN tv F (prA k) (F.ow (prA k) (prB k))))).1 15 f j = nI (pyN tv F (prA j) (F.ow (prA j) (prB j))) ∧ (ivSet S4 15 f k (nI (pyN tv F (prA k) (F.ow (prA k) (prB k))))).1 16 f j = nI (pyN tv F (prB j) (F.ow (prB j) (prA j))) := by
            intro j hj hoj
            rw [iv_ne (by omega), iv_ne (by omega), h4.1 15 f j (by simp [w0]), h4.1 16 f j (by simp [w0])]
            exact y3 j hj hoj
          generalize ivSet S4 15 f k (nI (pyN tv F (prA k) (F.ow (prA k) (prB k)))) = S5 at g5 hX5 z5 v5 y5 ⊢
          have hN := hX5.1.1
          repeat (first | (refine hP _ _ _ _ _ _ ?_; show P _ _ _ _ _ _) | (refine hP _ _ _ _ _ _ (And.intro (hN _ _ _ rfl) ?_); show P _ _ (aR _ _ :: _) _ _ _))
          refine hP _ _ _ _ _ _ (q_owing (by omega) hX5 w1 (by omega) ?_)
          repeat (first | (refine hP _ _ _ _ _ _ ?_; show P _ _ _ _ _ _) | (refine hP _ _ _ _ _ _ (And.intro (hN _ _ _ rfl) ?_); show P _ _ (aR _ _ :: _) _ _ _))
          refine hP _ _ _ _ _ _ (q_pays (by omega) hX5 w1 (fun S6 h6 => ?_))
          have hX6 := hX5.sc h6
          have hN := hX6.1.1
          repeat (first | (refine hP _ _ _ _ _ _ ?_; show P _ _ _ _ _ _) | (refine hP _ _ _ _ _ _ (And.intro (hN _ _ _ rfl) ?_); show P _ _ (aR _ _ :: _) _ _ _))
          refine hP _ _ _ _ _ _ (Exists.intro (k) (And.intro (And.intro (rfl) (show k < 10 from hk)) ?_))
          show P _ _ _ (ivSet S6 16 f k (nI (pyN tv F (prB k) (F.ow (prB k) (prA k))))) _ _
          have g7 : Ag (wW f) S6 (ivSet S6 16 f k (nI (pyN tv F (prB k) (F.ow (prB k) (prA k))))) := Ag.iv (by simp [wW])
          have hX7 := hX6.up g7 (wW_ok f) (wW_F f f)
          have hw7 : wgk tv (ivSet S6 16 f k (nI (pyN tv F (prB k) (F.ow (prB k) (prA k))))) f F (k + 1) := by
            refine ⟨?_, fun j hj hoj => ?_⟩
            · rw [iv_ne (by omega), h6.1 10 f 10 (by simp [w0])]
              exact z5
            · by_cases e : j = k
              · subst e
                rw [iv_at, iv_ne (by omega), h6.1 15 f j (by simp [w0])]
                exact ⟨v5, rfl⟩
              · rw [iv_ne (by omega), iv_ne (by omega), h6.1 15 f j (by simp [w0]), h6.1 16 f j (by simp [w0])]
                exact y5 j (by omega) hoj
          generalize ivSet S6 16 f k (nI (pyN tv F (prB k) (F.ow (prB k) (prA k)))) = S7 at g7 hX7 hw7 ⊢
          repeat (first | (refine hP _ _ _ _ _ _ ?_; show P _ _ _ _ _ _) | (refine hP _ _ _ _ _ _ (And.intro (hN _ _ _ rfl) ?_); show P _ _ (aR _ _ :: _) _ _ _))
          have := ih S7 (some (aI (nI (prA k)))) (some (aI (nI (prB k)))) ((((g2.tr g3).tr (h4.mono (w0_W f))).tr g5).tr ((h6.mono (w0_W f)).tr g7)) hX7 hw7
          rw [nI_succ] at this
          exact this
  repeat (first | (refine hP _ _ _ _ _ _ ?_; show P _ _ _ _ _ _) | (refine hP _ _ _ _ _ _ (And.intro (hN _ _ _ rfl) ?_); show P _ _ (aR _ _ :: _) _ _ _))
  show P _ _ _ (ivSet S 10 f 10 0) _ _
  have g0 : Ag (wW f) S (ivSet S 10 f 10 0) := Ag.iv (by simp [wW])
  have hX0 := hX.up g0 (wW_ok f) (wW_F f f)
  repeat (first | (refine hP _ _ _ _ _ _ ?_; show P _ _ _ _ _ _) | (refine hP _ _ _ _ _ _ (And.intro (hN _ _ _ rfl) ?_); show P _ _ (aR _ _ :: _) _ _ _))
  exact loop 0 (by omega) _ _ _ g0 hX0 ⟨iv_at, fun k hk => by omega⟩
