/-! the class, out of claim whole -/
def myF (tv : Nat → Nat → (Nat → Int32) → Int32) (S : St) (f n t a b : Nat) : Bool :=
  (decide (0 < S.1 14 f (5 * a + b)) || decide (0 < S.1 14 f (5 * b + a))) && wlF tv S f n t a b && wlF tv S f n t b a && decide (S.1 13 f a < brF tv S f n t a) && decide (S.1 13 f b < brF tv S f n t b)
theorem b2_0 {w : Bool} (h : b2 w = 0) : w = false := by cases w <;> simp_all [b2]
theorem b2_1 {w : Bool} (h : ¬ b2 w = 0) : w = true := by cases w <;> simp_all [b2]
theorem sp_may {tv : Nat → Nat → (Nat → Int32) → Int32} {d : Nat} {S : St} {K : KT} {f a b n t nT : Nat} (hd : 4 ≤ d) (hF : FO tv S f n t nT) (ha : a < n) (hb : b < n) (h : ∀ S', Sc S S' → K (some (aI (b2 (myF tv S f n t a b)))) S') : Call d m_X0_may [aR 10 f, aI (nI a), aI (nI b)] S K := by
  refine Call.of (k := 3) hd (fun e he P hP => ?_)
  have hN := hF.1
  have hn := hF.2.1
  have out0 : ∀ (S' : St), Sc S S' → myF tv S f n t a b = false → P 68 [some (aR 10 f), some (aI (nI a)), some (aI (nI b))] [] S' 0 0 := by
    intro S' hS hx
    repeat (first | (refine hP _ _ _ _ _ _ ?_; show P _ _ _ _ _ _) | refine hP _ _ _ _ _ _ (And.intro (hN _ _ _ rfl) ?_))
    have h := h S' hS
    rw [hx] at h
    refine hP _ _ _ _ _ _ (And.intro (Or.inl rfl) h)
  have mid : (0 < S.1 14 f (5 * a + b) ∨ 0 < S.1 14 f (5 * b + a)) → P 18 [some (aR 10 f), some (aI (nI a)), some (aI (nI b))] [] S 0 0 := by
    intro hor
    have hor' : (decide (0 < S.1 14 f (5 * a + b)) || decide (0 < S.1 14 f (5 * b + a))) = true := by simpa using hor
    repeat (first | (refine hP _ _ _ _ _ _ ?_; show P _ _ _ _ _ _) | refine hP _ _ _ _ _ _ (And.intro (hN _ _ _ rfl) ?_))
    refine hP _ _ _ _ _ _ (sp_will (by omega) hF ha hb (fun S1 h1 => ?_))
    repeat (first | (refine hP _ _ _ _ _ _ ?_; show P _ _ _ _ _ _) | refine hP _ _ _ _ _ _ (And.intro (hN _ _ _ rfl) ?_))
    refine hP _ _ _ _ _ _ (And.intro (fun hc => ?_) (fun hc => ?_))
    · exact out0 S1 h1 (by simp [myF, b2_0 hc])
    · have w1 := b2_1 hc
      have hF1 := hF.up h1
      repeat (first | (refine hP _ _ _ _ _ _ ?_; show P _ _ _ _ _ _) | refine hP _ _ _ _ _ _ (And.intro (hN _ _ _ rfl) ?_))
      refine hP _ _ _ _ _ _ (sp_will (by omega) hF1 hb ha (fun S2 h2 => ?_))
      repeat (first | (refine hP _ _ _ _ _ _ ?_; show P _ _ _ _ _ _) | refine hP _ _ _ _ _ _ (And.intro (hN _ _ _ rfl) ?_))
      rw [wlF_c h1]
      refine hP _ _ _ _ _ _ (And.intro (fun hc2 => ?_) (fun hc2 => ?_))
      · exact out0 S2 (h1.tr h2) (by simp [myF, b2_0 hc2])
      · have w2 := b2_1 hc2
        have h12 := h1.tr h2
        have hF2 := hF.up h12
        have hN := hF2.1
        repeat (first | (refine hP _ _ _ _ _ _ ?_; show P _ _ _ _ _ _) | refine hP _ _ _ _ _ _ (And.intro (hN _ _ _ rfl) ?_))
        refine hP _ _ _ _ _ _ (Exists.intro (a) (And.intro (And.intro (rfl) (show a < 5 by omega)) ?_))
        repeat (first | (refine hP _ _ _ _ _ _ ?_; show P _ _ _ _ _ _) | refine hP _ _ _ _ _ _ (And.intro (hN _ _ _ rfl) ?_))
        refine hP _ _ _ _ _ _ (sp_breath (by omega) hF2 ha (fun S3 h3 => ?_))
        have h13 := h12.tr h3
        have hF3 := hF.up h13
        have hN := hF3.1
        repeat (first | (refine hP _ _ _ _ _ _ ?_; show P _ _ _ _ _ _) | refine hP _ _ _ _ _ _ (And.intro (hN _ _ _ rfl) ?_))
        rw [brF_c h12]
        have e2 : S2.1 (frf (10, f).fst (10, f).snd 7).fst (frf (10, f).fst (10, f).snd 7).snd a = S.1 13 f a := by
          show S2.1 13 f a = _
          rw [h12.1 13 rfl]
        rw [e2]
        refine hP _ _ _ _ _ _ (And.intro (fun hc3 => ?_) (fun hc3 => ?_))
        · exact out0 S3 h13 (by
            have : ¬ S.1 13 f a < brF tv S f n t a := Int32.not_lt.mpr hc3
            simp [myF, this])
        · have w3 := Int32.not_le.mp hc3
          repeat (first | (refine hP _ _ _ _ _ _ ?_; show P _ _ _ _ _ _) | refine hP _ _ _ _ _ _ (And.intro (hN _ _ _ rfl) ?_))
          refine hP _ _ _ _ _ _ (Exists.intro (b) (And.intro (And.intro (rfl) (show b < 5 by omega)) ?_))
          repeat (first | (refine hP _ _ _ _ _ _ ?_; show P _ _ _ _ _ _) | refine hP _ _ _ _ _ _ (And.intro (hN _ _ _ rfl) ?_))
          refine hP _ _ _ _ _ _ (sp_breath (by omega) hF3 hb (fun S4 h4 => ?_))
          have h14 := h13.tr h4
          repeat (first | (refine hP _ _ _ _ _ _ ?_; show P _ _ _ _ _ _) | refine hP _ _ _ _ _ _ (And.intro (hN _ _ _ rfl) ?_))
          rw [brF_c h13]
          have e3 : S3.1 (frf (10, f).fst (10, f).snd 7).fst (frf (10, f).fst (10, f).snd 7).snd b = S.1 13 f b := by
            show S3.1 13 f b = _
            rw [h13.1 13 rfl]
          rw [e3]
          refine hP _ _ _ _ _ _ (And.intro (fun hc4 => ?_) (fun hc4 => ?_))
          · exact out0 S4 h14 (by
              have : ¬ S.1 13 f b < brF tv S f n t b := Int32.not_lt.mpr hc4
              simp [myF, this])
          · have w4 := Int32.not_le.mp hc4
            repeat (first | (refine hP _ _ _ _ _ _ ?_; show P _ _ _ _ _ _) | refine hP _ _ _ _ _ _ (And.intro (hN _ _ _ rfl) ?_))
            have h := h S4 h14
            have hx : myF tv S f n t a b = true := by simp [myF, hor', w1, w2, w3, w4]
            rw [hx] at h
            refine hP _ _ _ _ _ _ (And.intro (Or.inr rfl) h)
  repeat (first | (refine hP _ _ _ _ _ _ ?_; show P _ _ _ _ _ _) | refine hP _ _ _ _ _ _ (And.intro (hN _ _ _ rfl) ?_))
  refine hP _ _ _ _ _ _ (sp_owing (by omega) hN (by omega) (by omega) ?_)
  repeat (first | (refine hP _ _ _ _ _ _ ?_; show P _ _ _ _ _ _) | refine hP _ _ _ _ _ _ (And.intro (hN _ _ _ rfl) ?_))
  refine hP _ _ _ _ _ _ (And.intro (fun hc => ?_) (fun hc => ?_))
  · exact mid (Or.inl hc)
  · repeat (first | (refine hP _ _ _ _ _ _ ?_; show P _ _ _ _ _ _) | refine hP _ _ _ _ _ _ (And.intro (hN _ _ _ rfl) ?_))
    refine hP _ _ _ _ _ _ (sp_owing (by omega) hN (by omega) (by omega) ?_)
    repeat (first | (refine hP _ _ _ _ _ _ ?_; show P _ _ _ _ _ _) | refine hP _ _ _ _ _ _ (And.intro (hN _ _ _ rfl) ?_))
    refine hP _ _ _ _ _ _ (And.intro (fun hc2 => ?_) (fun hc2 => ?_))
    · exact out0 S (Sc.rf S) (by
        have g1 : ¬ 0 < S.1 14 f (5 * a + b) := hc
        have g2 : ¬ 0 < S.1 14 f (5 * b + a) := Int32.not_lt.mpr hc2
        simp [myF, g1, g2])
    · exact mid (Or.inr (Int32.not_le.mp hc2))
/-- a debt is so much less -/
def lsS (S : St) (f a b : Nat) (v : Int32) : St := ivSet S 14 f (5 * a + b) (S.1 14 f (5 * a + b) - v)
theorem sp_lessen {d : Nat} {S : St} {K : KT} {f a b : Nat} {v : Int32} (hd : 1 ≤ d) (hN : NN S) (ha : a < 5) (hb : b < 5) (h : K none (lsS S f a b v)) : Call d m_X0_lessen [aR 10 f, aI (nI a), aI (nI b), aI v] S K := by
  refine Call.of (k := 0) hd (fun e he P hP => ?_)
  repeat (first | (refine hP _ _ _ _ _ _ ?_; show P _ _ _ _ _ _) | refine hP _ _ _ _ _ _ (And.intro (hN _ _ _ rfl) ?_))
  refine hP _ _ _ _ _ _ (Exists.intro (5 * a + b) (And.intro (And.intro (ix5 a b) (by show _ < 25; omega)) ?_))
  repeat (first | (refine hP _ _ _ _ _ _ ?_; show P _ _ _ _ _ _) | refine hP _ _ _ _ _ _ (And.intro (hN _ _ _ rfl) ?_))
  refine hP _ _ _ _ _ _ (Exists.intro (5 * a + b) (And.intro (And.intro (ix5 a b) (by show _ < 25; omega)) ?_))
  repeat (first | (refine hP _ _ _ _ _ _ ?_; show P _ _ _ _ _ _) | refine hP _ _ _ _ _ _ (And.intro (hN _ _ _ rfl) ?_))
  exact hP _ _ _ _ _ _ (h)
/-- one dance more, 99 at most -/
def dnS (S : St) (f a : Nat) : St := ivSet S 13 f a (if 99 < S.1 13 f a + 1 then 99 else S.1 13 f a + 1)
def stS (S : St) (f a b : Nat) (v w : Int32) : St := dnS (dnS (lsS (lsS S f a b v) f b a w) f a) f b
theorem sp_settle {d : Nat} {S : St} {K : KT} {f a b : Nat} {v w : Int32} (hd : 2 ≤ d) (hN : NN S) (ha : a < 5) (hb : b < 5) (h : K none (stS S f a b v w)) : Call d m_X0_settle [aR 10 f, aI (nI a), aI (nI b), aI v, aI w] S K := by
  refine Call.of (k := 1) hd (fun e he P hP => ?_)
  repeat (first | (refine hP _ _ _ _ _ _ ?_; show P _ _ _ _ _ _) | refine hP _ _ _ _ _ _ (And.intro (hN _ _ _ rfl) ?_))
  refine hP _ _ _ _ _ _ (sp_lessen (by omega) hN ha hb ?_)
  repeat (first | (refine hP _ _ _ _ _ _ ?_; show P _ _ _ _ _ _) | refine hP _ _ _ _ _ _ (And.intro (hN _ _ _ rfl) ?_))
  refine hP _ _ _ _ _ _ (sp_lessen (by omega) hN hb ha ?_)
  repeat (first | (refine hP _ _ _ _ _ _ ?_; show P _ _ _ _ _ _) | refine hP _ _ _ _ _ _ (And.intro (hN _ _ _ rfl) ?_))
  refine hP _ _ _ _ _ _ (Exists.intro (a) (And.intro (And.intro (rfl) (show a < 5 from ha)) ?_))
  repeat (first | (refine hP _ _ _ _ _ _ ?_; show P _ _ _ _ _ _) | refine hP _ _ _ _ _ _ (And.intro (hN _ _ _ rfl) ?_))
  refine hP _ _ _ _ _ _ (Exists.intro (a) (And.intro (And.intro (rfl) (show a < 5 from ha)) ?_))
  repeat (first | (refine hP _ _ _ _ _ _ ?_; show P _ _ _ _ _ _) | refine hP _ _ _ _ _ _ (And.intro (hN _ _ _ rfl) ?_))
  refine hP _ _ _ _ _ _ (Exists.intro (b) (And.intro (And.intro (rfl) (show b < 5 from hb)) ?_))
  repeat (first | (refine hP _ _ _ _ _ _ ?_; show P _ _ _ _ _ _) | refine hP _ _ _ _ _ _ (And.intro (hN _ _ _ rfl) ?_))
  refine hP _ _ _ _ _ _ (Exists.intro (b) (And.intro (And.intro (rfl) (show b < 5 from hb)) ?_))
  repeat (first | (refine hP _ _ _ _ _ _ ?_; show P _ _ _ _ _ _) | refine hP _ _ _ _ _ _ (And.intro (hN _ _ _ rfl) ?_))
  exact hP _ _ _ _ _ _ (h)

abbrev TV : Type := Nat → Nat → (Nat → Int32) → Int32
def Fl : Type := Nat × Nat × Nat × Nat × (Nat → Nat) × (Nat → Nat) × (Nat → Nat) × (Nat → Nat → Nat)
def mkF (n r ni ru : Nat) (k u d : Nat → Nat) (o : Nat → Nat → Nat) : Fl := (n, r, ni, ru, k, u, d, o)
def Fl.n (F : Fl) : Nat := F.1
def Fl.rd (F : Fl) : Nat := F.2.1
def Fl.ni (F : Fl) : Nat := F.2.2.1
def Fl.ru (F : Fl) : Nat := F.2.2.2.1
def Fl.ki (F : Fl) : Nat → Nat := F.2.2.2.2.1
def Fl.nu (F : Fl) : Nat → Nat := F.2.2.2.2.2.1
def Fl.dn (F : Fl) : Nat → Nat := F.2.2.2.2.2.2.1
def Fl.ow (F : Fl) : Nat → Nat → Nat := F.2.2.2.2.2.2.2
/-- a sum -/
def sN (f : Nat → Nat) : Nat → Nat
  | 0 => 0
  | n + 1 => sN f n + f n
theorem sm_nI {g : Nat → Int32} {f : Nat → Nat} : ∀ {n : Nat}, (∀ i, i < n → g i = nI (f i)) → sm g n = nI (sN f n)
  | 0, _ => rfl
  | n + 1, h => by
    simp only [sm, sN]
    rw [sm_nI (fun i hi => h i (by omega)), h n (by omega), nI_add]
theorem sN_le {f : Nat → Nat} {m : Nat} : ∀ {n : Nat}, (∀ i, i < n → f i ≤ m) → sN f n ≤ m * n
  | 0, _ => Nat.zero_le _
  | n + 1, h => by
    simp only [sN]
    have h1 := sN_le (n := n) (fun i hi => h i (by omega))
    have h2 := h n (by omega)
    rw [Nat.mul_succ]
    omega
theorem sN_congr {f g : Nat → Nat} : ∀ {n : Nat}, (∀ i, i < n → f i = g i) → sN f n = sN g n
  | 0, _ => rfl
  | n + 1, h => by
    simp only [sN]
    rw [sN_congr (fun i hi => h i (by omega)), h n (by omega)]
/-- owed to one; owed by one; all -/
def oT (F : Fl) (a : Nat) : Nat := sN (fun x => F.ow x a) F.n
def oS (F : Fl) (a : Nat) : Nat := sN (fun x => F.ow a x) F.n
def oA (F : Fl) : Nat := sN (fun a => oS F a) F.n
def nmN (F : Fl) (a o : Nat) : Nat → Int32 := fun k => match k with
  | 0 => nI o
  | 1 => nI (oT F a)
  | 2 => nI (F.nu a)
  | 3 => nI F.rd
  | 4 => nI (F.dn a)
  | _ => nI F.ni
def vN (tv : TV) (F : Fl) (p a o : Nat) : Int32 := if p = 1 then tv F.ru p (nmN F a o) else wI (tv F.ru p (nmN F a o)) 99
def wN (x : Int32) (m : Nat) : Nat := if x < 0 then 0 else if nI m < x then m else x.toNatClampNeg
theorem wN_le (x : Int32) {m : Nat} (hm : m < 2 ^ 31) : wN x m ≤ m := by
  unfold wN
  split
  · exact Nat.zero_le _
  · rename_i h0
    split
    · exact Nat.le_refl _
    · rename_i h1
      obtain ⟨j, hj, rfl⟩ := nI_of h0
      rw [nI_clamp hj]
      have := Int32.not_lt.mp h1
      exact (nI_leI hj hm).mp this
theorem wI_nI (x : Int32) (m : Nat) : wI x (nI m) = nI (wN x m) := by
  unfold wI wN
  split
  · rfl
  · rename_i h0
    split
    · rfl
    · obtain ⟨j, hj, rfl⟩ := nI_of h0
      rw [nI_clamp hj]
def evR (F : Fl) : Bool := decide (nI F.rd - nI F.rd / 2 * 2 = 0)
def pyN (tv : TV) (F : Fl) (a o : Nat) : Nat := wN (match F.ki a with
  | 1 => 2 * vN tv F 0 a o
  | 2 => 1
  | 3 => 2 * vN tv F 0 a o + cond (evR F) (nI (F.nu a)) 0
  | 4 => nI o
  | 5 => 0
  | _ => vN tv F 0 a o) o
def brN (tv : TV) (F : Fl) (a : Nat) : Nat := wN (match F.ki a with
  | 1 => vN tv F 2 a 0 + 3
  | 2 => vN tv F 2 a 0 / 2
  | 3 => vN tv F 2 a 0 + 3
  | 4 => 99
  | 5 => nI (F.nu a)
  | _ => vN tv F 2 a 0) 99
def vYes (tv : TV) (F : Fl) (a b : Nat) : Bool := decide (¬ vN tv F 1 a (F.ow a b) = 0)
def wlN (tv : TV) (F : Fl) (a b : Nat) : Bool := match F.ki a with
  | 1 => true
  | 2 => decide (0 < F.ow b a) && vYes tv F a b
  | 3 => decide (¬ F.dn a = F.nu a)
  | 4 => decide (oT F a = 0) || (decide (0 < F.ow b a) && vYes tv F a b)
  | 5 => false
  | _ => vYes tv F a b
def myN (tv : TV) (F : Fl) (a b : Nat) : Bool := (decide (0 < F.ow a b) || decide (0 < F.ow b a)) && wlN tv F a b && wlN tv F b a && decide (F.dn a < brN tv F a) && decide (F.dn b < brN tv F b)
/-- the bounds -/
def WF (nT : Nat) (F : Fl) : Prop := F.n ≤ 5 ∧ F.ru < nT ∧ nT ≤ 6 ∧ ∀ a, a < F.n → F.ki a ≤ 5 ∧ F.nu a ≤ 9 ∧ F.dn a ≤ 99 ∧ ∀ b, b < F.n → F.ow a b ≤ 99
theorem WF.dn {nT : Nat} {F : Fl} (h : WF nT F) {a : Nat} (ha : a < F.n) : F.dn a ≤ 99 := (h.2.2.2 a ha).2.2.1
theorem WF.ow {nT : Nat} {F : Fl} (h : WF nT F) {a b : Nat} (ha : a < F.n) (hb : b < F.n) : F.ow a b ≤ 99 := (h.2.2.2 a ha).2.2.2 b hb
theorem WF.bT {nT : Nat} {F : Fl} (h : WF nT F) {a : Nat} (ha : a < F.n) : oT F a ≤ 495 := by
  have h1 := sN_le (f := fun x => F.ow x a) (m := 99) (n := F.n) (fun i hi => h.ow hi ha)
  have h2 := Nat.mul_le_mul_left 99 h.1
  exact Nat.le_trans h1 h2
theorem WF.bS {nT : Nat} {F : Fl} (h : WF nT F) {a : Nat} (ha : a < F.n) : oS F a ≤ 495 := by
  have h1 := sN_le (f := fun x => F.ow a x) (m := 99) (n := F.n) (fun i hi => h.ow ha hi)
  have h2 := Nat.mul_le_mul_left 99 h.1
  exact Nat.le_trans h1 h2
theorem WF.bA {nT : Nat} {F : Fl} (h : WF nT F) : oA F ≤ 2475 := by
  have h1 := sN_le (f := fun a => oS F a) (m := 495) (n := F.n) (fun i hi => h.bS hi)
  have h2 := Nat.mul_le_mul_left 495 h.1
  exact Nat.le_trans h1 h2
/-- the class's floor f is F -/
def HF (S : St) (f : Nat) (F : Fl) : Prop := S.1 10 f 1 = nI F.n ∧ S.1 10 f 2 = nI F.rd ∧ S.1 10 f 3 = nI F.ni ∧ S.1 10 f 4 = nI F.ru ∧ (∀ a, a < F.n → S.1 11 f a = nI (F.ki a) ∧ S.1 12 f a = nI (F.nu a) ∧ S.1 13 f a = nI (F.dn a)) ∧ ∀ a b, a < F.n → b < F.n → S.1 14 f (5 * a + b) = nI (F.ow a b)
/-- what may change -/
abbrev WW : Type := Nat → Nat → Nat → Prop
def Ag (W : WW) (S S' : St) : Prop := (∀ j g k, ¬ W j g k → S'.1 j g k = S.1 j g k) ∧ S'.2.2 = S.2.2
theorem Ag.rf (W : WW) (S : St) : Ag W S S := ⟨fun _ _ _ _ => rfl, rfl⟩
theorem Ag.tr {W : WW} {S S1 S2 : St} (h : Ag W S S1) (h2 : Ag W S1 S2) : Ag W S S2 := ⟨fun j g k hj => (h2.1 j g k hj).trans (h.1 j g k hj), h2.2.trans h.2⟩
theorem Ag.mono {V W : WW} {S S' : St} (h : Ag V S S') (hw : ∀ j g k, V j g k → W j g k) : Ag W S S' := ⟨fun j g k hj => h.1 j g k (fun z => hj (hw j g k z)), h.2⟩
theorem Ag.iv {W : WW} {S : St} {j g k : Nat} {v : Int32} (h : W j g k) : Ag W S (ivSet S j g k v) := by
  refine ⟨fun a b c hc => ?_, rfl⟩
  simp only [ivSet, up3]
  rw [if_neg]
  rintro ⟨rfl, rfl, rfl⟩
  exact hc h
/-- scratch alone -/
def w0 : WW := fun j _ _ => j = 4 ∨ j = 5
theorem Sc.ag {S S' : St} (h : Sc S S') : Ag w0 S S' := by
  refine ⟨fun j g k hj => ?_, by rw [h.2]⟩
  rw [h.1 j]
  have h4 : ¬ j = 4 := fun z => hj (Or.inl z)
  have h5 : ¬ j = 5 := fun z => hj (Or.inr z)
  have e4 : Nat.beq j 4 = false := by
    cases hb : Nat.beq j 4 with
    | true => exact absurd (Nat.eq_of_beq_eq_true hb) h4
    | false => rfl
  have e5 : Nat.beq j 5 = false := by
    cases hb : Nat.beq j 5 with
    | true => exact absurd (Nat.eq_of_beq_eq_true hb) h5
    | false => rfl
  simp only [sc4, e4, e5]
  rfl
theorem NN.up {W : WW} {S S' : St} (h : NN S) (h1 : Ag W S S') : NN S' := fun j g k hj => by rw [h1.2]; exact h j g k hj
/-- what stays: the texts, the static rows, the object of the rules -/
def okW (W : WW) : Prop := ∀ j g k, W j g k → ¬ (j = 1 ∨ j = 31 ∨ j = 32 ∨ 60 ≤ j)
theorem Ag.row {W : WW} {S S' : St} (h : Ag W S S') {j : Nat} (hj : ∀ g k, ¬ W j g k) : S'.1 j = S.1 j := by
  funext g k
  exact h.1 j g k (hj g k)
theorem RV.ag {W : WW} {S S' : St} {nT : Nat} {tv : TV} (h : RV S nT tv) (h1 : Ag W S S') (hw : okW W) : RV S' nT tv :=
  h.up ⟨h1.row (fun g k z => hw 31 g k z (by omega)), h1.row (fun g k z => hw 32 g k z (by omega)), h1.row (fun g k z => hw 1 g k z (by omega)), h1.2⟩
/-- the twos in their order; the sets -/
def prA (k : Nat) : Nat := [0, 0, 0, 0, 1, 1, 1, 2, 2, 3].getD k 0
def prB (k : Nat) : Nat := [1, 2, 3, 4, 2, 3, 4, 3, 4, 4].getD k 0
def stL : List Nat := [0, 1, 2, 4, 8, 16, 20, 24, 32, 34, 40, 64, 66, 68, 128, 129, 136, 192, 256, 257, 260, 288, 512, 513, 514, 528]
def setN (k : Nat) : Nat := stL.getD k 0
/-- what the class's methods stand on -/
def CC (tv : TV) (nT : Nat) (S : St) : Prop := NN S ∧ RV S nT tv ∧ (∀ k, k < 10 → S.1 61 0 k = nI (prA k) ∧ S.1 62 0 k = nI (prB k)) ∧ (∀ k, k < 26 → S.1 63 0 k = nI (setN k))
theorem CC.up {W : WW} {tv : TV} {nT : Nat} {S S' : St} (h : CC tv nT S) (h1 : Ag W S S') (hw : okW W) : CC tv nT S' := by
  refine ⟨h.1.up h1, h.2.1.ag h1 hw, fun k hk => ?_, fun k hk => ?_⟩
  · rw [h1.1 61 0 k (fun z => hw _ _ _ z (by omega)), h1.1 62 0 k (fun z => hw _ _ _ z (by omega))]
    exact h.2.2.1 k hk
  · rw [h1.1 63 0 k (fun z => hw _ _ _ z (by omega))]
    exact h.2.2.2 k hk
/-- a floor that W leaves -/
def okF (W : WW) (f : Nat) : Prop := ∀ j k, W j f k → ¬ (j = 10 ∧ 1 ≤ k ∧ k ≤ 4 ∨ 11 ≤ j ∧ j ≤ 14)
theorem HF.up {W : WW} {S S' : St} {f : Nat} {F : Fl} (h : HF S f F) (h1 : Ag W S S') (hw : okF W f) : HF S' f F := by
  obtain ⟨a1, a2, a3, a4, a5, a6⟩ := h
  refine ⟨?_, ?_, ?_, ?_, fun a ha => ?_, fun a b ha hb => ?_⟩
  · rw [h1.1 10 f 1 (fun z => hw _ _ z (by omega))]; exact a1
  · rw [h1.1 10 f 2 (fun z => hw _ _ z (by omega))]; exact a2
  · rw [h1.1 10 f 3 (fun z => hw _ _ z (by omega))]; exact a3
  · rw [h1.1 10 f 4 (fun z => hw _ _ z (by omega))]; exact a4
  · rw [h1.1 11 f a (fun z => hw _ _ z (by omega)), h1.1 12 f a (fun z => hw _ _ z (by omega)), h1.1 13 f a (fun z => hw _ _ z (by omega))]
    exact a5 a ha
  · rw [h1.1 14 f _ (fun z => hw _ _ z (by omega))]
    exact a6 a b ha hb
theorem w0_ok : okW w0 := by
  intro j g k hj
  simp only [w0] at hj
  omega
theorem w0_F (f : Nat) : okF w0 f := by
  intro j k hj
  simp only [w0] at hj
  omega
/-- out of the raw ones -/
theorem HF.dn {S : St} {f : Nat} {F : Fl} (h : HF S f F) {a : Nat} (ha : a < F.n) : S.1 13 f a = nI (F.dn a) := (h.2.2.2.2.1 a ha).2.2
theorem HF.nu {S : St} {f : Nat} {F : Fl} (h : HF S f F) {a : Nat} (ha : a < F.n) : S.1 12 f a = nI (F.nu a) := (h.2.2.2.2.1 a ha).2.1
theorem HF.ki {S : St} {f : Nat} {F : Fl} (h : HF S f F) {a : Nat} (ha : a < F.n) : S.1 11 f a = nI (F.ki a) := (h.2.2.2.2.1 a ha).1
theorem HF.ow {S : St} {f : Nat} {F : Fl} (h : HF S f F) {a b : Nat} (ha : a < F.n) (hb : b < F.n) : S.1 14 f (5 * a + b) = nI (F.ow a b) := h.2.2.2.2.2 a b ha hb
theorem HF.fo {S : St} {f : Nat} {F : Fl} {tv : TV} {nT : Nat} (h : HF S f F) (hC : CC tv nT S) (hW : WF nT F) : FO tv S f F.n F.ru nT :=
  ⟨hC.1, hW.1, h.1, hW.2.1, h.2.2.2.1, hC.2.1, fun a ha => ⟨F.ki a, (hW.2.2.2 a ha).1, h.ki ha⟩⟩
theorem HF.rT {S : St} {f : Nat} {F : Fl} (h : HF S f F) {a : Nat} (ha : a < F.n) : sm (fun x => S.1 14 f (5 * x + a)) F.n = nI (oT F a) := sm_nI (fun i hi => h.ow hi ha)
theorem HF.rS {S : St} {f : Nat} {F : Fl} (h : HF S f F) {a : Nat} (ha : a < F.n) : sm (fun x => S.1 14 f (5 * a + x)) F.n = nI (oS F a) := sm_nI (fun i hi => h.ow ha hi)
theorem nm_c {S : St} {f : Nat} {F : Fl} (h : HF S f F) {a o : Nat} (ha : a < F.n) : nmF S f F.n a (nI o) = nmN F a o := by
  funext k
  rcases k with _ | _ | _ | _ | _ | k
  · rfl
  · exact h.rT ha
  · exact h.nu ha
  · exact h.2.1
  · exact h.dn ha
  · exact h.2.2.1
theorem vl_c {tv : TV} {S : St} {f : Nat} {F : Fl} (h : HF S f F) {p a o : Nat} (ha : a < F.n) : vlF tv S f F.n F.ru p a (nI o) = vN tv F p a o := by
  unfold vlF vN
  rw [nm_c h ha]
theorem py_c {tv : TV} {S : St} {f nT : Nat} {F : Fl} (h : HF S f F) (hW : WF nT F) {a o : Nat} (ha : a < F.n) : pyF tv S f F.n F.ru a (nI o) = nI (pyN tv F a o) := by
  unfold pyF pyN
  rw [← wI_nI, vl_c h ha, h.ki ha, h.2.1, h.nu ha]
  have hk := (hW.2.2.2 a ha).1
  rcases (show F.ki a = 0 ∨ F.ki a = 1 ∨ F.ki a = 2 ∨ F.ki a = 3 ∨ F.ki a = 4 ∨ F.ki a = 5 by omega) with e | e | e | e | e | e <;> rw [e]
  · rfl
  · rfl
  · rfl
  · rw [if_neg (by decide), if_neg (by decide), if_pos (by decide)]
    by_cases hr : nI F.rd - nI F.rd / 2 * 2 = 0
    · rw [if_pos hr]
      simp [evR, hr]
    · rw [if_neg hr]
      simp [evR, hr]
  · rfl
  · rfl
theorem brN_c {tv : TV} {S : St} {f nT : Nat} {F : Fl} (h : HF S f F) (hW : WF nT F) {a : Nat} (ha : a < F.n) : brF tv S f F.n F.ru a = nI (brN tv F a) := by
  unfold brF brN
  rw [← wI_nI, show (0 : Int32) = nI 0 from rfl, vl_c h ha, h.ki ha, h.nu ha]
  have hk := (hW.2.2.2 a ha).1
  rcases (show F.ki a = 0 ∨ F.ki a = 1 ∨ F.ki a = 2 ∨ F.ki a = 3 ∨ F.ki a = 4 ∨ F.ki a = 5 by omega) with e | e | e | e | e | e <;> rw [e] <;> rfl
theorem d0lt {x : Nat} (h : x < 2 ^ 31) : (decide (0 < nI x)) = decide (0 < x) := by
  have := nI_ltI (a := 0) (b := x) (by decide) h
  exact decide_eq_decide.mpr this
theorem wl_c {tv : TV} {S : St} {f nT : Nat} {F : Fl} (h : HF S f F) (hW : WF nT F) {a b : Nat} (ha : a < F.n) (hb : b < F.n) : wlF tv S f F.n F.ru a b = wlN tv F a b := by
  unfold wlF wlN vYes
  have hk := (hW.2.2.2 a ha).1
  have h9 := (hW.2.2.2 a ha).2.1
  have h1 := hW.ow hb ha
  have h2 := hW.dn ha
  have h3 := hW.bT ha
  rw [h.ow ha hb, h.ow hb ha, vl_c h ha, h.ki ha, h.dn ha, h.nu ha, h.rT ha, d0lt (by omega)]
  rw [show decide (¬ nI (F.dn a) = nI (F.nu a)) = decide (¬ F.dn a = F.nu a) from decide_eq_decide.mpr (not_congr (nI_eq (by omega) (by omega)))]
  rw [show decide (nI (oT F a) = 0) = decide (oT F a = 0) from decide_eq_decide.mpr (nI_eq (b := 0) (by omega) (by omega))]
  rcases (show F.ki a = 0 ∨ F.ki a = 1 ∨ F.ki a = 2 ∨ F.ki a = 3 ∨ F.ki a = 4 ∨ F.ki a = 5 by omega) with e | e | e | e | e | e <;> rw [e] <;> rfl
theorem my_c {tv : TV} {S : St} {f nT : Nat} {F : Fl} (h : HF S f F) (hW : WF nT F) {a b : Nat} (ha : a < F.n) (hb : b < F.n) : myF tv S f F.n F.ru a b = myN tv F a b := by
  unfold myF myN
  have h1 := hW.ow hb ha
  have h1' := hW.ow ha hb
  have h2 := hW.dn ha
  have h3 := hW.dn hb
  have h4 : brN tv F a ≤ 99 := wN_le _ (by decide)
  have h5 : brN tv F b ≤ 99 := wN_le _ (by decide)
  rw [h.ow ha hb, h.ow hb ha, wl_c h hW ha hb, wl_c h hW hb ha, brN_c h hW ha, brN_c h hW hb, h.dn ha, h.dn hb, d0lt (by omega), d0lt (by omega)]
  rw [show decide (nI (F.dn a) < nI (brN tv F a)) = decide (F.dn a < brN tv F a) from decide_eq_decide.mpr (nI_ltI (by omega) (by omega))]
  rw [show decide (nI (F.dn b) < nI (brN tv F b)) = decide (F.dn b < brN tv F b) from decide_eq_decide.mpr (nI_ltI (by omega) (by omega))]
/-- the methods of a floor, by its numbers -/
def FX (tv : TV) (nT : Nat) (S : St) (f : Nat) (F : Fl) : Prop := CC tv nT S ∧ HF S f F ∧ WF nT F
theorem FX.up {W : WW} {tv : TV} {nT : Nat} {S S' : St} {f : Nat} {F : Fl} (h : FX tv nT S f F) (h1 : Ag W S S') (hw : okW W) (hf : okF W f) : FX tv nT S' f F := ⟨h.1.up h1 hw, h.2.1.up h1 hf, h.2.2⟩
theorem FX.sc {tv : TV} {nT : Nat} {S S' : St} {f : Nat} {F : Fl} (h : FX tv nT S f F) (h1 : Ag w0 S S') : FX tv nT S' f F := h.up h1 w0_ok (w0_F f)
theorem q_owing {tv : TV} {nT d : Nat} {S : St} {K : KT} {f a b : Nat} {F : Fl} (hd : 1 ≤ d) (hX : FX tv nT S f F) (ha : a < F.n) (hb : b < F.n) (h : K (some (aI (nI (F.ow a b)))) S) : Call d m_X0_owing [aR 10 f, aI (nI a), aI (nI b)] S K := by
  have hn := hX.2.2.1
  refine sp_owing hd hX.1.1 (by omega) (by omega) ?_
  rw [hX.2.1.ow ha hb]
  exact h
theorem q_owes {tv : TV} {nT d : Nat} {S : St} {K : KT} {f a : Nat} {F : Fl} (hd : 1 ≤ d) (hX : FX tv nT S f F) (ha : a < F.n) (h : K (some (aI (nI (oS F a)))) S) : Call d m_X0_owes [aR 10 f, aI (nI a)] S K := by
  have hn := hX.2.2.1
  refine sp_owes hd hX.1.1 hn hX.2.1.1 (by omega) ?_
  rw [hX.2.1.rS ha]
  exact h
theorem q_owedTo {tv : TV} {nT d : Nat} {S : St} {K : KT} {f a : Nat} {F : Fl} (hd : 1 ≤ d) (hX : FX tv nT S f F) (ha : a < F.n) (h : K (some (aI (nI (oT F a)))) S) : Call d m_X0_owedTo [aR 10 f, aI (nI a)] S K := by
  have hn := hX.2.2.1
  refine sp_owedTo hd hX.1.1 hn hX.2.1.1 (by omega) ?_
  rw [hX.2.1.rT ha]
  exact h
theorem q_all {tv : TV} {nT d : Nat} {S : St} {K : KT} {f : Nat} {F : Fl} (hd : 2 ≤ d) (hX : FX tv nT S f F) (h : K (some (aI (nI (oA F)))) S) : Call d m_X0_all [aR 10 f] S K := by
  have hn := hX.2.2.1
  refine sp_all hd hX.1.1 hn hX.2.1.1 ?_
  rw [sm_nI (f := fun a => oS F a) (fun i hi => hX.2.1.rS hi)]
  exact h
theorem q_pays {tv : TV} {nT d : Nat} {S : St} {K : KT} {f a o : Nat} {F : Fl} (hd : 3 ≤ d) (hX : FX tv nT S f F) (ha : a < F.n) (h : ∀ S', Ag w0 S S' → K (some (aI (nI (pyN tv F a o)))) S') : Call d m_X0_pays [aR 10 f, aI (nI a), aI (nI o)] S K := by
  refine sp_pays hd (hX.2.1.fo hX.1 hX.2.2) ha (fun S' hS => ?_)
  rw [py_c hX.2.1 hX.2.2 ha]
  exact h S' hS.ag
theorem q_breath {tv : TV} {nT d : Nat} {S : St} {K : KT} {f a : Nat} {F : Fl} (hd : 3 ≤ d) (hX : FX tv nT S f F) (ha : a < F.n) (h : ∀ S', Ag w0 S S' → K (some (aI (nI (brN tv F a)))) S') : Call d m_X0_breath [aR 10 f, aI (nI a)] S K := by
  refine sp_breath hd (hX.2.1.fo hX.1 hX.2.2) ha (fun S' hS => ?_)
  rw [brN_c hX.2.1 hX.2.2 ha]
  exact h S' hS.ag
theorem q_will {tv : TV} {nT d : Nat} {S : St} {K : KT} {f a b : Nat} {F : Fl} (hd : 3 ≤ d) (hX : FX tv nT S f F) (ha : a < F.n) (hb : b < F.n) (h : ∀ S', Ag w0 S S' → K (some (aI (b2 (wlN tv F a b)))) S') : Call d m_X0_will [aR 10 f, aI (nI a), aI (nI b)] S K := by
  refine sp_will hd (hX.2.1.fo hX.1 hX.2.2) ha hb (fun S' hS => ?_)
  rw [wl_c hX.2.1 hX.2.2 ha hb]
  exact h S' hS.ag
theorem q_may {tv : TV} {nT d : Nat} {S : St} {K : KT} {f a b : Nat} {F : Fl} (hd : 4 ≤ d) (hX : FX tv nT S f F) (ha : a < F.n) (hb : b < F.n) (h : ∀ S', Ag w0 S S' → K (some (aI (b2 (myN tv F a b)))) S') : Call d m_X0_may [aR 10 f, aI (nI a), aI (nI b)] S K := by
  refine sp_may hd (hX.2.1.fo hX.1 hX.2.2) ha hb (fun S' hS => ?_)
  rw [my_c hX.2.1 hX.2.2 ha hb]
  exact h S' hS.ag

