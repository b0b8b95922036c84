/-! THE MODEL: what it pays, will, breath, may -/
/-- the model's floor is F -/
def HM (S : St) (F : Fl) : Prop := S.1 40 0 12 = nI F.n ∧ S.1 40 0 7 = nI F.rd ∧ S.1 40 0 8 = nI F.ni ∧ S.1 40 0 4 = nI F.ru ∧ (∀ a, a < F.n → S.1 44 0 a = nI (F.ki a) ∧ S.1 45 0 (2 * a) = nI (F.nu a) ∧ S.1 45 0 (2 * a + 1) = nI (F.dn a)) ∧ ∀ a b, a < F.n → b < F.n → S.1 46 0 (5 * a + b) = nI (F.ow a b)
/-- the model's scratch: the names, the reader's fields -/
def m0 : WW := fun j _ k => j = 40 ∧ 14 ≤ k ∧ k ≤ 28
def RM (S : St) (nT : Nat) (tv : TV) : Prop :=
  ∀ (d : Nat) (S1 : St) (K : KT) (t p : Nat) (N : Nat → Int32), 100 ≤ d → S1.1 41 = S.1 41 → S1.1 42 = S.1 42 → S1.2.2 = S.2.2 → t < nT → p < 3 → (∀ k, k < 6 → S1.1 40 0 (14 + k) = N k) → (∀ S', Ag m0 S1 S' → K (some (aI (tv t p N))) S') → Call d m_X6_read [aR 40 0, aI (nI t), aI (nI p)] S1 K
def okM (W : WW) : Prop := ∀ j g k, W j g k → ¬ (j = 41 ∨ j = 42 ∨ j = 47)
theorem RM.up {W : WW} {S S' : St} {nT : Nat} {tv : TV} (h : RM S nT tv) (h1 : Ag W S S') (hw : okM W) : RM S' nT tv := by
  intro d S1 K t p N hd e1 e2 e3
  exact h d S1 K t p N hd (e1.trans (h1.row (fun g k z => hw 41 g k z (by omega)))) (e2.trans (h1.row (fun g k z => hw 42 g k z (by omega)))) (e3.trans h1.2)
def CM (tv : TV) (nT : Nat) (S : St) : Prop := NN S ∧ RM S nT tv ∧ (∀ k, k < 26 → S.1 47 0 k = nI (setN k))
theorem CM.up {W : WW} {tv : TV} {nT : Nat} {S S' : St} (h : CM tv nT S) (h1 : Ag W S S') (hw : okM W) : CM tv nT S' := by
  refine ⟨h.1.up h1, h.2.1.up h1 hw, fun k hk => ?_⟩
  rw [h1.1 47 0 k (fun z => hw _ _ _ z (by omega))]
  exact h.2.2 k hk
def okG (W : WW) : Prop := ∀ j g k, W j g k → ¬ (j = 40 ∧ (k = 12 ∨ k = 7 ∨ k = 8 ∨ k = 4) ∨ 44 ≤ j ∧ j ≤ 46)
theorem HM.up {W : WW} {S S' : St} {F : Fl} (h : HM S F) (h1 : Ag W S S') (hw : okG W) : HM S' F := by
  obtain ⟨a1, a2, a3, a4, a5, a6⟩ := h
  refine ⟨?_, ?_, ?_, ?_, fun a ha => ?_, fun a b ha hb => ?_⟩
  · rw [h1.1 40 0 12 (fun z => hw _ _ _ z (by omega))]; exact a1
  · rw [h1.1 40 0 7 (fun z => hw _ _ _ z (by omega))]; exact a2
  · rw [h1.1 40 0 8 (fun z => hw _ _ _ z (by omega))]; exact a3
  · rw [h1.1 40 0 4 (fun z => hw _ _ _ z (by omega))]; exact a4
  · rw [h1.1 44 0 a (fun z => hw _ _ _ z (by omega)), h1.1 45 0 _ (fun z => hw _ _ _ z (by omega)), h1.1 45 0 _ (fun z => hw _ _ _ z (by omega))]
    exact a5 a ha
  · rw [h1.1 46 0 _ (fun z => hw _ _ _ z (by omega))]
    exact a6 a b ha hb
def MX (tv : TV) (nT : Nat) (S : St) (F : Fl) : Prop := CM tv nT S ∧ HM S F ∧ WF nT F
theorem MX.up {W : WW} {tv : TV} {nT : Nat} {S S' : St} {F : Fl} (h : MX tv nT S F) (h1 : Ag W S S') (hw : okM W) (hg : okG W) : MX tv nT S' F := ⟨h.1.up h1 hw, h.2.1.up h1 hg, h.2.2⟩
theorem m0_ok : okM m0 := by
  intro j g k hj
  simp only [m0] at hj
  omega
theorem m0_G : okG m0 := by
  intro j g k hj
  simp only [m0] at hj
  omega
theorem MX.sc {tv : TV} {nT : Nat} {S S' : St} {F : Fl} (h : MX tv nT S F) (h1 : Ag m0 S S') : MX tv nT S' F := h.up h1 m0_ok m0_G
theorem HM.dn {S : St} {F : Fl} (h : HM S F) {a : Nat} (ha : a < F.n) : S.1 45 0 (2 * a + 1) = nI (F.dn a) := (h.2.2.2.2.1 a ha).2.2
theorem HM.nu {S : St} {F : Fl} (h : HM S F) {a : Nat} (ha : a < F.n) : S.1 45 0 (2 * a) = nI (F.nu a) := (h.2.2.2.2.1 a ha).2.1
theorem HM.ki {S : St} {F : Fl} (h : HM S F) {a : Nat} (ha : a < F.n) : S.1 44 0 a = nI (F.ki a) := (h.2.2.2.2.1 a ha).1
theorem HM.ow {S : St} {F : Fl} (h : HM S F) {a b : Nat} (ha : a < F.n) (hb : b < F.n) : S.1 46 0 (5 * a + b) = nI (F.ow a b) := h.2.2.2.2.2 a b ha hb
theorem jx5 (a b : Nat) : (5 : Int32) * nI a + nI b = nI (5 * a + b) := by
  rw [show (5 : Int32) = nI 5 from rfl, pk_mul, nI_add]
theorem jx2 (a : Nat) : (2 : Int32) * nI a = nI (2 * a) := by
  rw [show (2 : Int32) = nI 2 from rfl, pk_mul]
theorem jx3 (a : Nat) : (2 : Int32) * nI a + 1 = nI (2 * a + 1) := by
  rw [jx2, nI_1]
theorem n_debtOf {tv : TV} {nT d : Nat} {S : St} {K : KT} {a b : Nat} {F : Fl} (hd : 1 ≤ d) (hX : MX tv nT S F) (ha : a < F.n) (hb : b < F.n) (h : K (some (aI (nI (F.ow a b)))) S) : Call d m_X6_debtOf [aR 40 0, aI (nI a), aI (nI b)] S K := by
  refine Call.of (k := 0) hd (fun e he P hP => ?_)
  have hn := hX.2.2.1
  have hN := hX.1.1
  repeat (first | (refine hP _ _ _ _ _ _ ?_; show P _ _ _ _ _ _) | (refine hP _ _ _ _ _ _ (And.intro (hN _ _ _ rfl) ?_); show P _ _ (aR _ _ :: _) _ _ _))
  refine hP _ _ _ _ _ _ (Exists.intro (5 * a + b) (And.intro (And.intro (jx5 a b) (by show _ < 25; omega)) ?_))
  rw [hX.2.1.ow ha hb]
  repeat (first | (refine hP _ _ _ _ _ _ ?_; show P _ _ _ _ _ _) | (refine hP _ _ _ _ _ _ (And.intro (hN _ _ _ rfl) ?_); show P _ _ (aR _ _ :: _) _ _ _))
  exact hP _ _ _ _ _ _ (h)
theorem n_owesOf {tv : TV} {nT d : Nat} {S : St} {K : KT} {a : Nat} {F : Fl} (hd : 2 ≤ d) (hX : MX tv nT S F) (ha : a < F.n) (h : K (some (aI (nI (oS F a)))) S) : Call d m_X6_owesOf [aR 40 0, aI (nI a)] S K := by
  refine Call.of (k := 1) hd (fun e he P hP => ?_)
  have hn := hX.2.2.1
  have hN := hX.1.1
  have loop : ∀ k, k ≤ F.n → P 9 [some (aR 40 0), some (aI (nI a)), some (aI (nI (sN (fun x => F.ow a x) k))), some (aI (nI k))] [aI (S.1 40 0 12), aI (nI k)] S 0 0 := by
    refine dn ?_ ?_
    · repeat (first | (refine hP _ _ _ _ _ _ ?_; show P _ _ _ _ _ _) | (refine hP _ _ _ _ _ _ (And.intro (hN _ _ _ rfl) ?_); show P _ _ (aR _ _ :: _) _ _ _))
      rw [hX.2.1.1]
      refine hP _ _ _ _ _ _ (And.intro (fun _ => ?_) (fun hc => absurd (nI_le (Nat.le_refl _) (by omega)) hc))
      repeat (first | (refine hP _ _ _ _ _ _ ?_; show P _ _ _ _ _ _) | (refine hP _ _ _ _ _ _ (And.intro (hN _ _ _ rfl) ?_); show P _ _ (aR _ _ :: _) _ _ _))
      exact hP _ _ _ _ _ _ (h)
    · intro k hk ih
      repeat (first | (refine hP _ _ _ _ _ _ ?_; show P _ _ _ _ _ _) | (refine hP _ _ _ _ _ _ (And.intro (hN _ _ _ rfl) ?_); show P _ _ (aR _ _ :: _) _ _ _))
      rw [hX.2.1.1]
      refine hP _ _ _ _ _ _ (And.intro (fun hc => absurd hc (nI_ge hk (by omega))) (fun _ => ?_))
      repeat (first | (refine hP _ _ _ _ _ _ ?_; show P _ _ _ _ _ _) | (refine hP _ _ _ _ _ _ (And.intro (hN _ _ _ rfl) ?_); show P _ _ (aR _ _ :: _) _ _ _))
      refine hP _ _ _ _ _ _ (n_debtOf (by omega) hX ha hk ?_)
      repeat (first | (refine hP _ _ _ _ _ _ ?_; show P _ _ _ _ _ _) | (refine hP _ _ _ _ _ _ (And.intro (hN _ _ _ rfl) ?_); show P _ _ (aR _ _ :: _) _ _ _))
      rw [nI_add]
      rw [nI_succ] at ih
      exact ih
  repeat (first | (refine hP _ _ _ _ _ _ ?_; show P _ _ _ _ _ _) | (refine hP _ _ _ _ _ _ (And.intro (hN _ _ _ rfl) ?_); show P _ _ (aR _ _ :: _) _ _ _))
  exact loop 0 (Nat.zero_le _)
theorem n_owedTo {tv : TV} {nT d : Nat} {S : St} {K : KT} {a : Nat} {F : Fl} (hd : 2 ≤ d) (hX : MX tv nT S F) (ha : a < F.n) (h : K (some (aI (nI (oT F a)))) S) : Call d m_X6_owedTo [aR 40 0, aI (nI a)] S K := by
  refine Call.of (k := 1) hd (fun e he P hP => ?_)
  have hn := hX.2.2.1
  have hN := hX.1.1
  have loop : ∀ k, k ≤ F.n → P 9 [some (aR 40 0), some (aI (nI a)), some (aI (nI (sN (fun x => F.ow x a) k))), some (aI (nI k))] [aI (S.1 40 0 12), aI (nI k)] S 0 0 := by
    refine dn ?_ ?_
    · repeat (first | (refine hP _ _ _ _ _ _ ?_; show P _ _ _ _ _ _) | (refine hP _ _ _ _ _ _ (And.intro (hN _ _ _ rfl) ?_); show P _ _ (aR _ _ :: _) _ _ _))
      rw [hX.2.1.1]
      refine hP _ _ _ _ _ _ (And.intro (fun _ => ?_) (fun hc => absurd (nI_le (Nat.le_refl _) (by omega)) hc))
      repeat (first | (refine hP _ _ _ _ _ _ ?_; show P _ _ _ _ _ _) | (refine hP _ _ _ _ _ _ (And.intro (hN _ _ _ rfl) ?_); show P _ _ (aR _ _ :: _) _ _ _))
      exact hP _ _ _ _ _ _ (h)
    · intro k hk ih
      repeat (first | (refine hP _ _ _ _ _ _ ?_; show P _ _ _ _ _ _) | (refine hP _ _ _ _ _ _ (And.intro (hN _ _ _ rfl) ?_); show P _ _ (aR _ _ :: _) _ _ _))
      rw [hX.2.1.1]
      refine hP _ _ _ _ _ _ (And.intro (fun hc => absurd hc (nI_ge hk (by omega))) (fun _ => ?_))
      repeat (first | (refine hP _ _ _ _ _ _ ?_; show P _ _ _ _ _ _) | (refine hP _ _ _ _ _ _ (And.intro (hN _ _ _ rfl) ?_); show P _ _ (aR _ _ :: _) _ _ _))
      refine hP _ _ _ _ _ _ (n_debtOf (by omega) hX hk ha ?_)
      repeat (first | (refine hP _ _ _ _ _ _ ?_; show P _ _ _ _ _ _) | (refine hP _ _ _ _ _ _ (And.intro (hN _ _ _ rfl) ?_); show P _ _ (aR _ _ :: _) _ _ _))
      rw [nI_add]
      rw [nI_succ] at ih
      exact ih
  repeat (first | (refine hP _ _ _ _ _ _ ?_; show P _ _ _ _ _ _) | (refine hP _ _ _ _ _ _ (And.intro (hN _ _ _ rfl) ?_); show P _ _ (aR _ _ :: _) _ _ _))
  exact loop 0 (Nat.zero_le _)
theorem n_owedAll {tv : TV} {nT d : Nat} {S : St} {K : KT} {F : Fl} (hd : 3 ≤ d) (hX : MX tv nT S F) (h : K (some (aI (nI (oA F)))) S) : Call d m_X6_owedAll [aR 40 0] S K := by
  refine Call.of (k := 2) hd (fun e he P hP => ?_)
  have hn := hX.2.2.1
  have hN := hX.1.1
  have loop : ∀ k, k ≤ F.n → P 9 [some (aR 40 0), some (aI (nI (sN (fun a => oS F a) k))), some (aI (nI k))] [aI (S.1 40 0 12), aI (nI k)] S 0 0 := by
    refine dn ?_ ?_
    · repeat (first | (refine hP _ _ _ _ _ _ ?_; show P _ _ _ _ _ _) | (refine hP _ _ _ _ _ _ (And.intro (hN _ _ _ rfl) ?_); show P _ _ (aR _ _ :: _) _ _ _))
      rw [hX.2.1.1]
      refine hP _ _ _ _ _ _ (And.intro (fun _ => ?_) (fun hc => absurd (nI_le (Nat.le_refl _) (by omega)) hc))
      repeat (first | (refine hP _ _ _ _ _ _ ?_; show P _ _ _ _ _ _) | (refine hP _ _ _ _ _ _ (And.intro (hN _ _ _ rfl) ?_); show P _ _ (aR _ _ :: _) _ _ _))
      exact hP _ _ _ _ _ _ (h)
    · intro k hk ih
      repeat (first | (refine hP _ _ _ _ _ _ ?_; show P _ _ _ _ _ _) | (refine hP _ _ _ _ _ _ (And.intro (hN _ _ _ rfl) ?_); show P _ _ (aR _ _ :: _) _ _ _))
      rw [hX.2.1.1]
      refine hP _ _ _ _ _ _ (And.intro (fun hc => absurd hc (nI_ge hk (by omega))) (fun _ => ?_))
      repeat (first | (refine hP _ _ _ _ _ _ ?_; show P _ _ _ _ _ _) | (refine hP _ _ _ _ _ _ (And.intro (hN _ _ _ rfl) ?_); show P _ _ (aR _ _ :: _) _ _ _))
      refine hP _ _ _ _ _ _ (n_owesOf (by omega) hX hk ?_)
      repeat (first | (refine hP _ _ _ _ _ _ ?_; show P _ _ _ _ _ _) | (refine hP _ _ _ _ _ _ (And.intro (hN _ _ _ rfl) ?_); show P _ _ (aR _ _ :: _) _ _ _))
      rw [nI_add]
      rw [nI_succ] at ih
      exact ih
  repeat (first | (refine hP _ _ _ _ _ _ ?_; show P _ _ _ _ _ _) | (refine hP _ _ _ _ _ _ (And.intro (hN _ _ _ rfl) ?_); show P _ _ (aR _ _ :: _) _ _ _))
  exact loop 0 (Nat.zero_le _)
theorem n_within {d : Nat} {S : St} {K : KT} {x m : Int32} (hd : 1 ≤ d) (h : K (some (aI (wI x m))) S) : Call d m_X6_within [aI x, aI 0, aI m] S K := by
  refine Call.of (k := 0) hd (fun e he P hP => ?_)
  unfold wI at h
  have hN : True := trivial
  repeat (first | (refine hP _ _ _ _ _ _ ?_; show P _ _ _ _ _ _) | refine hP _ _ _ _ _ _ (And.intro (hN _ _ _ rfl) ?_))
  refine hP _ _ _ _ _ _ (And.intro (fun hc => ?_) (fun hc => ?_))
  · rw [if_neg (Int32.not_lt.mpr hc)] at h
    repeat (first | (refine hP _ _ _ _ _ _ ?_; show P _ _ _ _ _ _) | refine hP _ _ _ _ _ _ (And.intro (hN _ _ _ rfl) ?_))
    refine hP _ _ _ _ _ _ (And.intro (fun hc2 => ?_) (fun hc2 => ?_))
    · rw [if_neg (Int32.not_lt.mpr hc2)] at h
      repeat (first | (refine hP _ _ _ _ _ _ ?_; show P _ _ _ _ _ _) | refine hP _ _ _ _ _ _ (And.intro (hN _ _ _ rfl) ?_))
      exact hP _ _ _ _ _ _ (h)
    · rw [if_pos (Int32.not_le.mp hc2)] at h
      repeat (first | (refine hP _ _ _ _ _ _ ?_; show P _ _ _ _ _ _) | refine hP _ _ _ _ _ _ (And.intro (hN _ _ _ rfl) ?_))
      exact hP _ _ _ _ _ _ (h)
  · rw [if_pos (Int32.not_le.mp hc)] at h
    repeat (first | (refine hP _ _ _ _ _ _ ?_; show P _ _ _ _ _ _) | refine hP _ _ _ _ _ _ (And.intro (hN _ _ _ rfl) ?_))
    exact hP _ _ _ _ _ _ (h)
theorem Ag.m0 {S : St} {k : Nat} {v : Int32} (h1 : 14 ≤ k) (h2 : k ≤ 28) : Ag m0 S (ivSet S 40 0 k v) := Ag.iv ⟨rfl, h1, h2⟩
theorem n_says {tv : TV} {nT d : Nat} {S : St} {K : KT} {a p o : Nat} {F : Fl} (hd : 101 ≤ d) (hX : MX tv nT S F) (hp : p < 3) (ha : a < F.n) (h : ∀ S', Ag m0 S S' → K (some (aI (vN tv F p a o))) S') : Call d m_X6_says [aR 40 0, aI (nI p), aI (nI a), aI (nI o)] S K := by
  refine Call.of (k := 100) hd (fun e he P hP => ?_)
  have hn := hX.2.2.1
  have hN := hX.1.1
  repeat (first | (refine hP _ _ _ _ _ _ ?_; show P _ _ _ _ _ _) | (refine hP _ _ _ _ _ _ (And.intro (hN _ _ _ rfl) ?_); show P _ _ (aR _ _ :: _) _ _ _))
  show P _ _ _ (ivSet S 40 0 14 (nI o)) _ _
  have g1 : Ag m0 S (ivSet S 40 0 14 (nI o)) := Ag.m0 (by omega) (by omega)
  have hX1 := hX.sc g1
  repeat (first | (refine hP _ _ _ _ _ _ ?_; show P _ _ _ _ _ _) | (refine hP _ _ _ _ _ _ (And.intro (hN _ _ _ rfl) ?_); show P _ _ (aR _ _ :: _) _ _ _))
  refine hP _ _ _ _ _ _ (n_owedTo (by omega) hX1 ha ?_)
  repeat (first | (refine hP _ _ _ _ _ _ ?_; show P _ _ _ _ _ _) | (refine hP _ _ _ _ _ _ (And.intro (hN _ _ _ rfl) ?_); show P _ _ (aR _ _ :: _) _ _ _))
  refine hP _ _ _ _ _ _ (Exists.intro (2 * a) (And.intro (And.intro (jx2 a) (by show _ < 10; omega)) ?_))
  repeat (first | (refine hP _ _ _ _ _ _ ?_; show P _ _ _ _ _ _) | (refine hP _ _ _ _ _ _ (And.intro (hN _ _ _ rfl) ?_); show P _ _ (aR _ _ :: _) _ _ _))
  refine hP _ _ _ _ _ _ (Exists.intro (2 * a + 1) (And.intro (And.intro (jx3 a) (by show _ < 10; omega)) ?_))
  repeat (first | (refine hP _ _ _ _ _ _ ?_; show P _ _ _ _ _ _) | (refine hP _ _ _ _ _ _ (And.intro (hN _ _ _ rfl) ?_); show P _ _ (aR _ _ :: _) _ _ _))
  show P 62 [some (aR 40 0), some (aI (nI p)), some (aI (nI a)), some (aI (nI o)), none] [aI (nI p), aI (S.1 40 0 4), aR 40 0] (ivSet (ivSet (ivSet (ivSet (ivSet (ivSet S 40 0 14 (nI o)) 40 0 15 (nI (oT F a))) 40 0 16 (S.1 45 0 (2 * a))) 40 0 17 (S.1 40 0 7)) 40 0 18 (S.1 45 0 (2 * a + 1))) 40 0 19 (S.1 40 0 8)) 0 0
  rw [hX.2.1.nu ha, hX.2.1.dn ha, hX.2.1.2.1, hX.2.1.2.2.1, hX.2.1.2.2.2.1]
  generalize hS1 : ivSet (ivSet (ivSet (ivSet (ivSet (ivSet S 40 0 14 (nI o)) 40 0 15 (nI (oT F a))) 40 0 16 (nI (F.nu a))) 40 0 17 (nI F.rd)) 40 0 18 (nI (F.dn a))) 40 0 19 (nI F.ni) = S1
  have g2 : Ag m0 S S1 := by
    rw [← hS1]
    exact ((((g1.tr (Ag.m0 (by omega) (by omega))).tr (Ag.m0 (by omega) (by omega))).tr (Ag.m0 (by omega) (by omega))).tr (Ag.m0 (by omega) (by omega))).tr (Ag.m0 (by omega) (by omega))
  have hX2 := hX.sc g2
  have hnm : ∀ k, k < 6 → S1.1 40 0 (14 + k) = nmN F a o k := by
    intro k hk
    rw [← hS1]
    rcases (show k = 0 ∨ k = 1 ∨ k = 2 ∨ k = 3 ∨ k = 4 ∨ k = 5 by omega) with rfl | rfl | rfl | rfl | rfl | rfl <;> rfl
  refine hP _ _ _ _ _ _ (hX2.1.2.1 e S1 _ F.ru p (nmN F a o) (by omega) rfl rfl rfl hX2.2.2.2.1 hp hnm (fun S2 h2 => ?_))
  have h := h S2 (g2.tr h2)
  repeat (first | (refine hP _ _ _ _ _ _ ?_; show P _ _ _ _ _ _) | (refine hP _ _ _ _ _ _ (And.intro (hN _ _ _ rfl) ?_); show P _ _ (aR _ _ :: _) _ _ _))
  refine hP _ _ _ _ _ _ (And.intro (fun hc => ?_) (fun hc => ?_))
  · have hp1 : ¬ p = 1 := fun z => hc (by rw [z]; rfl)
    simp only [vN, if_neg hp1] at h
    repeat (first | (refine hP _ _ _ _ _ _ ?_; show P _ _ _ _ _ _) | (refine hP _ _ _ _ _ _ (And.intro (hN _ _ _ rfl) ?_); show P _ _ (aR _ _ :: _) _ _ _))
    refine hP _ _ _ _ _ _ (n_within (by omega) ?_)
    exact hP _ _ _ _ _ _ (h)
  · have hp1 : p = 1 := (nI_eq (a := p) (b := 1) (by omega) (by omega)).mp hc
    simp only [vN, if_pos hp1] at h
    repeat (first | (refine hP _ _ _ _ _ _ ?_; show P _ _ _ _ _ _) | (refine hP _ _ _ _ _ _ (And.intro (hN _ _ _ rfl) ?_); show P _ _ (aR _ _ :: _) _ _ _))
    exact hP _ _ _ _ _ _ (h)
