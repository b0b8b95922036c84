/-! Floor: debts that are drawn -/
def zn (z : Int32) : Int32 := z * 1103515245 + 12345
def dv (z : Int32) : Nat := z.toBitVec.toNat / 2 ^ 9 % 4
theorem dv_eq (z : Int32) : (z.toUInt32 >>> ((9 : Int32).toUInt32 &&& Int32.toUInt32 31)).toInt32 - (z.toUInt32 >>> ((9 : Int32).toUInt32 &&& Int32.toUInt32 31)).toInt32 / 4 * 4 = nI (dv z) := by
  have hz : z.toBitVec.toNat < 2 ^ 32 := z.toBitVec.isLt
  have hb : z.toBitVec.toNat / 2 ^ 9 < 2 ^ 23 := by
    apply Nat.div_lt_of_lt_mul
    exact hz
  have e : (z.toUInt32 >>> ((9 : Int32).toUInt32 &&& Int32.toUInt32 31)).toInt32 = nI (z.toBitVec.toNat / 2 ^ 9) := by
    apply Int32.toBitVec_inj.mp
    apply BitVec.eq_of_toNat_eq
    rw [pk_ushr z 9 9 (by decide), pk_tn (by omega)]
  rw [e]
  exact pk_rem (d := 4) (by omega) (by decide) (by decide)
theorem dv_le (z : Int32) : dv z ≤ 3 := by
  unfold dv
  omega
def drB (a : Nat) : Nat → Int32 × Fl → Int32 × Fl
  | 0, A => A
  | b + 1, A => if a = b then drB a b A else (zn (drB a b A).1, (drB a b A).2.sO a b (dv (zn (drB a b A).1)))
def drA (n : Nat) : Nat → Int32 × Fl → Int32 × Fl
  | 0, A => A
  | a + 1, A => drB a n (drA n a A)
def drF (F : Fl) (seed : Int32) : Fl := (drA F.n F.n (seed, F)).2
theorem drB_n (a : Nat) (A : Int32 × Fl) : ∀ b, (drB a b A).2.n = A.2.n
  | 0 => rfl
  | b + 1 => by
    simp only [drB]
    split
    · exact drB_n a A b
    · exact drB_n a A b
theorem drA_n (n : Nat) (A : Int32 × Fl) : ∀ a, (drA n a A).2.n = A.2.n
  | 0 => rfl
  | a + 1 => by
    simp only [drA]
    rw [drB_n, drA_n n A a]
theorem drA_m (n : Nat) (s : Int32) (F : Fl) (a : Nat) : (drA n a (s, F)).2.n = F.n := drA_n n (s, F) a
def wDr (f : Nat) : WW := fun j g k => g = f ∧ j = 14 ∧ k < 25
theorem wDr_ok (f : Nat) : okW (wDr f) := by
  intro j g k hj
  simp only [wDr] at hj
  omega
theorem FX.sO {tv : TV} {nT : Nat} {S : St} {f : Nat} {F : Fl} (h : FX tv nT S f F) (a b : Nat) {v : Nat} (ha : a < F.n) (hb : b < F.n) (hv : v ≤ 99) : FX tv nT (ivSet S 14 f (5 * a + b) (nI v)) f (F.sO a b v) ∧ Ag (wDr f) S (ivSet S 14 f (5 * a + b) (nI v)) := by
  have hn := h.2.2.1
  have g : Ag (wDr f) S (ivSet S 14 f (5 * a + b) (nI v)) := Ag.iv ⟨rfl, rfl, by omega⟩
  exact ⟨⟨h.1.up g (wDr_ok f), h.2.1.sO hn a b v hb, h.2.2.sO a b hv⟩, g⟩
theorem q_draw {tv : TV} {nT d : Nat} {S : St} {K : KT} {f : Nat} {F : Fl} {seed : Int32} (hd : 1 ≤ d) (hX : FX tv nT S f F) (h : ∀ S', Ag (wDr f) S S' → FX tv nT S' f (drF F seed) → K none S') : Call d m_X0_draw [aR 10 f, aI seed] S K := by
  refine Call.of (k := 0) hd (fun e he P hP => ?_)
  have hN := hX.1.1
  have hn5 := hX.2.2.1
  have outer : ∀ a, a ≤ F.n → ∀ S1 x4, Ag (wDr f) S S1 → FX tv nT S1 f (drA F.n a (seed, F)).2 → P 9 [some (aR 10 f), some (aI seed), some (aI (drA F.n a (seed, F)).1), some (aI (nI a)), x4] [aI (S1.1 10 f 1), aI (nI a)] S1 0 0 := by
    refine dn ?_ ?_
    · intro S1 x4 g1 hX1
      rw [hX1.2.1.1, drA_m]
      refine hP _ _ _ _ _ _ (And.intro (fun _ => ?_) (fun hc => absurd (nI_le (Nat.le_refl _) (by omega)) hc))
      repeat (first | (refine hP _ _ _ _ _ _ ?_; show P _ _ _ _ _ _) | (refine hP _ _ _ _ _ _ (And.intro (hN _ _ _ rfl) ?_); show P _ _ (aR _ _ :: _) _ _ _))
      exact hP _ _ _ _ _ _ (h S1 g1 hX1)
    · intro a ha ih S1 x4 g1 hX1
      have inner : ∀ b, b ≤ F.n → ∀ S1, Ag (wDr f) S S1 → FX tv nT S1 f (drB a b (drA F.n a (seed, F))).2 → P 21 [some (aR 10 f), some (aI seed), some (aI (drB a b (drA F.n a (seed, F))).1), some (aI (nI a)), some (aI (nI b))] [aI (S1.1 10 f 1), aI (nI b)] S1 0 0 := by
        refine dn ?_ ?_
        · intro S1 g1 hX1
          have hN := hX1.1.1
          have := ih S1 (some (aI (nI F.n))) g1 hX1
          rw [hX1.2.1.1, drB_n, drA_m]
          refine hP _ _ _ _ _ _ (And.intro (fun _ => ?_) (fun hc => absurd (nI_le (Nat.le_refl _) (by omega)) hc))
          repeat (first | (refine hP _ _ _ _ _ _ ?_; show P _ _ _ _ _ _) | (refine hP _ _ _ _ _ _ (And.intro (hN _ _ _ rfl) ?_); show P _ _ (aR _ _ :: _) _ _ _))
          rw [nI_succ] at this
          exact this
        · intro b hb ih2 S1 g1 hX1
          have hN := hX1.1.1
          have nk : (drB a b (drA F.n a (seed, F))).2.n = F.n := by rw [drB_n, drA_m]
          generalize hA : drB a b (drA F.n a (seed, F)) = A at hX1 ih2 nk ⊢
          rw [hX1.2.1.1, nk]
          refine hP _ _ _ _ _ _ (And.intro (fun hc => absurd hc (nI_ge hb (by omega))) (fun _ => ?_))
          repeat (first | (refine hP _ _ _ _ _ _ ?_; show P _ _ _ _ _ _) | (refine hP _ _ _ _ _ _ (And.intro (hN _ _ _ rfl) ?_); show P _ _ (aR _ _ :: _) _ _ _))
          refine hP _ _ _ _ _ _ (And.intro (fun hc => ?_) (fun hc => ?_))
          · have e : a = b := (nI_eq (by omega) (by omega)).mp hc
            have he : drB a (b + 1) (drA F.n a (seed, F)) = A := by rw [← hA]; exact if_pos e
            rw [he, nI_succ] at ih2
            repeat (first | (refine hP _ _ _ _ _ _ ?_; show P _ _ _ _ _ _) | (refine hP _ _ _ _ _ _ (And.intro (hN _ _ _ rfl) ?_); show P _ _ (aR _ _ :: _) _ _ _))
            exact ih2 S1 g1 hX1
          · have e : ¬ a = b := fun z => hc (by rw [z])
            have he : drB a (b + 1) (drA F.n a (seed, F)) = (zn A.1, A.2.sO a b (dv (zn A.1))) := by rw [← hA]; exact if_neg e
            rw [he, nI_succ] at ih2
            repeat (first | (refine hP _ _ _ _ _ _ ?_; show P _ _ _ _ _ _) | (refine hP _ _ _ _ _ _ (And.intro (hN _ _ _ rfl) ?_); show P _ _ (aR _ _ :: _) _ _ _))
            rw [show A.1 * 1103515245 + 12345 = zn A.1 from rfl]
            refine hP _ _ _ _ _ _ (And.intro (by decide) ?_)
            repeat (first | (refine hP _ _ _ _ _ _ ?_; show P _ _ _ _ _ _) | (refine hP _ _ _ _ _ _ (And.intro (hN _ _ _ rfl) ?_); show P _ _ (aR _ _ :: _) _ _ _))
            rw [dv_eq]
            refine hP _ _ _ _ _ _ (Exists.intro (5 * a + b) (And.intro (And.intro (ix5 a b) (by show _ < 25; omega)) ?_))
            show P _ _ _ (ivSet S1 14 f (5 * a + b) (nI (dv (zn A.1)))) _ _
            have hd3 := dv_le (zn A.1)
            obtain ⟨hX2, g2⟩ := hX1.sO a b (v := dv (zn A.1)) (by omega) (by omega) (by omega)
            generalize ivSet S1 14 f (5 * a + b) (nI (dv (zn A.1))) = S2 at hX2 g2 ⊢
            have hN := hX2.1.1
            repeat (first | (refine hP _ _ _ _ _ _ ?_; show P _ _ _ _ _ _) | (refine hP _ _ _ _ _ _ (And.intro (hN _ _ _ rfl) ?_); show P _ _ (aR _ _ :: _) _ _ _))
            exact ih2 S2 (g1.tr g2) hX2
      have hN := hX1.1.1
      rw [hX1.2.1.1, drA_m]
      refine hP _ _ _ _ _ _ (And.intro (fun hc => absurd hc (nI_ge ha (by omega))) (fun _ => ?_))
      repeat (first | (refine hP _ _ _ _ _ _ ?_; show P _ _ _ _ _ _) | (refine hP _ _ _ _ _ _ (And.intro (hN _ _ _ rfl) ?_); show P _ _ (aR _ _ :: _) _ _ _))
      exact inner 0 (by omega) S1 g1 hX1
  repeat (first | (refine hP _ _ _ _ _ _ ?_; show P _ _ _ _ _ _) | (refine hP _ _ _ _ _ _ (And.intro (hN _ _ _ rfl) ?_); show P _ _ (aR _ _ :: _) _ _ _))
  exact outer 0 (by omega) S _ (Ag.rf _ _) hX
