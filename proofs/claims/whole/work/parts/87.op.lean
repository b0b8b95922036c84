/-! room -/
def dnF (F : Fl) (x y : Int32) : Option Fl := if isD 6 x = true ∧ isD 10 y = true ∧ F.n < 5 then some (jnF F x.toNatClampNeg y.toNatClampNeg) else none
theorem dnF_bad {F : Fl} {x y : Int32} (h : isD 6 x = false ∨ (isD 6 x = true ∧ isD 10 y = false)) : dnF F x y = none := by
  refine if_neg (fun z => ?_)
  rcases h with h | ⟨_, h⟩
  · rw [z.1] at h
    cases h
  · rw [z.2.1] at h
    cases h
theorem dnF_full {F : Fl} {x y : Int32} (h : F.n = 5) : dnF F x y = none := if_neg (fun z => by omega)
theorem dnF_ok {F : Fl} {k u : Nat} (hk : k ≤ 5) (hu : u ≤ 9) (h : F.n < 5) : dnF F (nI k) (nI u) = some (jnF F k u) := by
  have e1 : isD 6 (nI k) = true := by
    rw [isD_N (by omega) (by omega)]
    exact decide_eq_true (by omega)
  have e2 : isD 10 (nI u) = true := by
    rw [isD_N (by omega) (by omega)]
    exact decide_eq_true (by omega)
  unfold dnF
  rw [if_pos ⟨e1, e2, h⟩, nI_clamp (by omega), nI_clamp (by omega)]
/-- the ways one may come, or not -/
theorem dnF_cs {F : Fl} (hn5 : F.n ≤ 5) (x y : Int32) : ((isD 6 x = false ∨ (isD 6 x = true ∧ isD 10 y = false)) ∧ dnF F x y = none) ∨ ∃ k u, k ≤ 5 ∧ u ≤ 9 ∧ x = nI k ∧ y = nI u ∧ ((F.n = 5 ∧ dnF F x y = none) ∨ (F.n < 5 ∧ dnF F x y = some (jnF F k u))) := by
  cases h1 : isD 6 x with
  | false => exact Or.inl ⟨Or.inl rfl, dnF_bad (Or.inl h1)⟩
  | true =>
    cases h2 : isD 10 y with
    | false => exact Or.inl ⟨Or.inr ⟨rfl, rfl⟩, dnF_bad (Or.inr ⟨h1, h2⟩)⟩
    | true =>
      obtain ⟨k, hk, -, rfl⟩ := isD_of h1
      obtain ⟨u, hu, -, rfl⟩ := isD_of h2
      refine Or.inr ⟨k, u, by omega, by omega, rfl, rfl, ?_⟩
      by_cases h5 : F.n = 5
      · exact Or.inl ⟨h5, dnF_full h5⟩
      · exact Or.inr ⟨by omega, dnF_ok (by omega) (by omega) (by omega)⟩
def rmX (v : Nat → Int32) (sz a : Nat) : Nat → Nat → Nat → Fl → Int32 × Fl
  | 0, _, c, F => (nI c, F)
  | r + 1, k, c, F => if a + 2 * k + 2 ≤ sz then (match dnF F (v (a + 2 * k)) (v (a + 2 * k + 1)) with
    | some G => rmX v sz a r (k + 1) (c + 1) G
    | none => rmX v sz a r (k + 1) c F) else (-12, F)
theorem rmX_no {v : Nat → Int32} {sz a r k c : Nat} {F : Fl} (h : a + 2 * k + 2 ≤ sz) (hd : dnF F (v (a + 2 * k)) (v (a + 2 * k + 1)) = none) : rmX v sz a (r + 1) k c F = rmX v sz a r (k + 1) c F := by
  rw [rmX, if_pos h, hd]
theorem rmX_yes {v : Nat → Int32} {sz a r k c : Nat} {F G : Fl} (h : a + 2 * k + 2 ≤ sz) (hd : dnF F (v (a + 2 * k)) (v (a + 2 * k + 1)) = some G) : rmX v sz a (r + 1) k c F = rmX v sz a r (k + 1) (c + 1) G := by
  rw [rmX, if_pos h, hd]
theorem rmX_out {v : Nat → Int32} {sz a r k c : Nat} {F : Fl} (h : ¬ a + 2 * k + 2 ≤ sz) : rmX v sz a (r + 1) k c F = (-12, F) := by
  rw [rmX, if_neg h]
theorem WF.jn {nT k u : Nat} {F : Fl} (h : WF nT F) (hn : F.n < 5) (hk : k ≤ 5) (hu : u ≤ 9) : WF nT (jnF F k u) := by
  obtain ⟨w1, w2, w3, w4⟩ := h
  refine ⟨hn, w2, w3, fun a ha => ?_⟩
  have ha : a < F.n + 1 := ha
  show uN F.ki F.n k a ≤ 5 ∧ uN F.nu F.n u a ≤ 9 ∧ uN F.dn F.n 0 a ≤ 99 ∧ ∀ b, b < F.n + 1 → (if a = F.n ∨ b = F.n then 0 else F.ow a b) ≤ 99
  unfold uN
  by_cases e : a = F.n
  · simp only [if_pos e, e, true_or, if_true]
    exact ⟨hk, hu, by omega, fun _ _ => by omega⟩
  · simp only [if_neg e]
    have := w4 a (by omega)
    refine ⟨this.1, this.2.1, this.2.2.1, fun b hb => ?_⟩
    by_cases e2 : a = F.n ∨ b = F.n
    · rw [if_pos e2]; omega
    · rw [if_neg e2]
      exact this.2.2.2 b (by omega)
theorem hoB_2 {sz p : Nat} (hs : sz ≤ 40) (hp : p ≤ 100) : hoB sz (nI p) 2 = decide (p + 2 ≤ sz) := by
  unfold hoB
  apply decide_eq_decide.mpr
  have e1 : (nI p).toInt = p := nI_toInt (by omega)
  have e3 : (nI sz).toInt = sz := nI_toInt (by omega)
  have e2 : (2 : Int32).toInt = 2 := by decide
  have e0 : (0 : Int32).toInt = 0 := by decide
  have e4 : (nI sz - 2).toInt = (sz : Int) - 2 := by
    rw [Int32.toInt_sub, e2, e3, Int.bmod_eq_of_le (by omega) (by omega)]
  rw [Int32.le_iff_toInt_le, Int32.le_iff_toInt_le, Int32.le_iff_toInt_le, Int32.le_iff_toInt_le, e0, e1, e2, e3, e4]
  omega
theorem szle {sz a k : Nat} (hs : sz ≤ 40) (ha : a ≤ 40) (hk : k ≤ 5) : (nI a ≤ nI sz - nI (2 * k) - 2) ↔ a + 2 * k + 2 ≤ sz := by
  have e1 : (nI a).toInt = a := nI_toInt (by omega)
  have e3 : (nI sz).toInt = sz := nI_toInt (by omega)
  have e5 : (nI (2 * k)).toInt = (2 * k : Nat) := nI_toInt (by omega)
  have e2 : (2 : Int32).toInt = 2 := by decide
  have e4 : (nI sz - nI (2 * k)).toInt = (sz : Int) - (2 * k : Nat) := by
    rw [Int32.toInt_sub, e5, e3, Int.bmod_eq_of_le (by omega) (by omega)]
  have e6 : (nI sz - nI (2 * k) - 2).toInt = (sz : Int) - (2 * k : Nat) - 2 := by
    rw [Int32.toInt_sub, e4, e2, Int.bmod_eq_of_le (by omega) (by omega)]
  rw [Int32.le_iff_toInt_le, e1, e6]
  omega
/-- the class's loop -/
theorem c_roomL {tv : TV} {nT n g a sz : Nat} {S : St} {K : KT} {P : PT} {e : Nat} {I : Option Fl} {v : Nat → Int32} {x y : Int32} {res : Int32 × Fl} (he : 2 ≤ e) (hP : ∀ pc L st S fc fs, F m_X5_room (Call e) K P pc L st S fc fs → P pc L st S fc fs) (hn : n ≤ 5) (hg : g < 4) (ha : a ≤ 40) (hs : sz ≤ 40) (hsz : S.1 20 g 1 = nI sz) (hv : ∀ k, k < sz → S.1 21 g k = v k)
    (hK : ∀ S', Ag wFl S S' → FX tv nT S' 0 res.2 → zB S' 0 res.2.n → PV res.2 I nT → K (some (aI res.1)) S') : ∀ r k c F1 S1 x8, k + r = n → c ≤ k → Ag wFl S S1 → FX tv nT S1 0 F1 → zB S1 0 F1.n → PV F1 I nT → rmX v sz a r k c F1 = res → P 70 [some (aR 0 0), some (aI x), some (aI y), some (aI (nI a)), some (aI (nI n)), some (aR 20 g), some (aI (nI c)), some (aI (nI k)), x8] [aI (nI n), aI (nI k)] S1 0 0 := by
  intro r
  induction r with
  | zero =>
    intro k c F1 S1 x8 hk hc g1 hX1 hz1 hp1 hr
    obtain rfl : k = n := by omega
    have fin : K (some (aI (nI c))) S1 := by
      have e : res = (nI c, F1) := hr.symm
      rw [e] at hK
      exact hK S1 g1 hX1 hz1 hp1
    refine hP _ _ _ _ _ _ (And.intro (fun _ => ?_) (fun hc => absurd (nI_le (Nat.le_refl k) (by omega)) hc))
    repeat (first | (refine hP _ _ _ _ _ _ ?_; show P _ _ _ _ _ _) | (refine hP _ _ _ _ _ _ (And.intro (hN _ _ _ rfl) ?_); show P _ _ (aR _ _ :: _) _ _ _))
    exact hP _ _ _ _ _ _ (fin)
  | succ r ih =>
    intro k c F1 S1 x8 hk hc g1 hX1 hz1 hp1 hr
    have hN := hX1.1.1
    have hn5 := hX1.2.2.1
    have hsz1 : S1.1 20 g 1 = nI sz := by rw [g1.1 20 g 1 (by simp [wFl])]; exact hsz
    refine hP _ _ _ _ _ _ (And.intro (fun hc => absurd hc (nI_ge (a := k) (b := n) (by omega) (by omega))) (fun _ => ?_))
    repeat (first | (refine hP _ _ _ _ _ _ ?_; show P _ _ _ _ _ _) | (refine hP _ _ _ _ _ _ (And.intro (hN _ _ _ rfl) ?_); show P _ _ (aR _ _ :: _) _ _ _))
    rw [jx2, nI_add]
    refine hP _ _ _ _ _ _ (c_holds (by omega) hN hsz1 ?_)
    rw [hoB_2 hs (by omega)]
    by_cases hc2 : a + 2 * k + 2 ≤ sz
    · rw [decide_eq_true hc2]
      repeat (first | (refine hP _ _ _ _ _ _ ?_; show P _ _ _ _ _ _) | (refine hP _ _ _ _ _ _ (And.intro (hN _ _ _ rfl) ?_); show P _ _ (aR _ _ :: _) _ _ _) | refine hP _ _ _ _ _ _ (And.intro (fun _ => ?_) (fun hc => absurd hc (by decide))) | refine hP _ _ _ _ _ _ (And.intro (fun hc => absurd hc (by decide)) (fun _ => ?_)))
      refine hP _ _ _ _ _ _ (Exists.intro (a + 2 * k) (And.intro (And.intro (rfl) (by show a + 2 * k < 40; omega)) ?_))
      rw [show S1.1 21 g (a + 2 * k) = v (a + 2 * k) by rw [g1.1 21 g _ (by simp [wFl])]; exact hv _ (by omega)]
      repeat (first | (refine hP _ _ _ _ _ _ ?_; show P _ _ _ _ _ _) | (refine hP _ _ _ _ _ _ (And.intro (hN _ _ _ rfl) ?_); show P _ _ (aR _ _ :: _) _ _ _))
      refine hP _ _ _ _ _ _ (Exists.intro (a + 2 * k + 1) (And.intro (And.intro (nI_1 _) (by show a + 2 * k + 1 < 40; omega)) ?_))
      rw [show S1.1 21 g (a + 2 * k + 1) = v (a + 2 * k + 1) by rw [g1.1 21 g _ (by simp [wFl])]; exact hv _ (by omega)]
      repeat (first | (refine hP _ _ _ _ _ _ ?_; show P _ _ _ _ _ _) | (refine hP _ _ _ _ _ _ (And.intro (hN _ _ _ rfl) ?_); show P _ _ (aR _ _ :: _) _ _ _))
      refine hP _ _ _ _ _ _ (c_dancer (by omega) hX1 hz1 (fun hb => ?_) (fun k' u hk' hu ex ey h5 => ?_) (fun k' u hk' hu ex ey h5 S2 g2 hX2 hz2 => ?_))
      · have := ih (k + 1) c F1 S1 (some (aI (nI (a + 2 * k)))) (by omega) (by omega) g1 hX1 hz1 hp1 (by rw [← hr, rmX_no hc2 (dnF_bad hb)])
        rw [nI_succ k] at this
        repeat (first | (refine hP _ _ _ _ _ _ ?_; show P _ _ _ _ _ _) | (refine hP _ _ _ _ _ _ (And.intro (hN _ _ _ rfl) ?_); show P _ _ (aR _ _ :: _) _ _ _) | refine hP _ _ _ _ _ _ (And.intro (fun _ => ?_) (fun hc => absurd hc (by decide))) | refine hP _ _ _ _ _ _ (And.intro (fun hc => absurd hc (by decide)) (fun _ => ?_)))
        exact this
      · have := ih (k + 1) c F1 S1 (some (aI (nI (a + 2 * k)))) (by omega) (by omega) g1 hX1 hz1 hp1 (by rw [← hr, rmX_no hc2 (dnF_full h5)])
        rw [nI_succ k] at this
        repeat (first | (refine hP _ _ _ _ _ _ ?_; show P _ _ _ _ _ _) | (refine hP _ _ _ _ _ _ (And.intro (hN _ _ _ rfl) ?_); show P _ _ (aR _ _ :: _) _ _ _) | refine hP _ _ _ _ _ _ (And.intro (fun _ => ?_) (fun hc => absurd hc (by decide))) | refine hP _ _ _ _ _ _ (And.intro (fun hc => absurd hc (by decide)) (fun _ => ?_)))
        exact this
      · have := ih (k + 1) (c + 1) (jnF F1 k' u) S2 (some (aI (nI (a + 2 * k)))) (by omega) (by omega) (g1.tr g2) hX2 hz2 (hp1.jn hX2.2.2) (by rw [← hr, rmX_yes hc2 (by rw [ex, ey]; exact dnF_ok hk' hu h5)])
        rw [nI_succ k, nI_succ c] at this
        repeat (first | (refine hP _ _ _ _ _ _ ?_; show P _ _ _ _ _ _) | (refine hP _ _ _ _ _ _ (And.intro (hN _ _ _ rfl) ?_); show P _ _ (aR _ _ :: _) _ _ _))
        refine hP _ _ _ _ _ _ (And.intro (fun hc => absurd hc (nI_pos (by omega))) (fun _ => ?_))
        repeat (first | (refine hP _ _ _ _ _ _ ?_; show P _ _ _ _ _ _) | (refine hP _ _ _ _ _ _ (And.intro (hN _ _ _ rfl) ?_); show P _ _ (aR _ _ :: _) _ _ _))
        exact this
    · have fin : K (some (aI (-12))) S1 := by
        have e : res = (-12, F1) := by rw [← hr]; exact rmX_out hc2
        rw [e] at hK
        exact hK S1 g1 hX1 hz1 hp1
      rw [decide_eq_false hc2]
      repeat (first | (refine hP _ _ _ _ _ _ ?_; show P _ _ _ _ _ _) | (refine hP _ _ _ _ _ _ (And.intro (hN _ _ _ rfl) ?_); show P _ _ (aR _ _ :: _) _ _ _) | refine hP _ _ _ _ _ _ (And.intro (fun _ => ?_) (fun hc => absurd hc (by decide))) | refine hP _ _ _ _ _ _ (And.intro (fun hc => absurd hc (by decide)) (fun _ => ?_)))
      exact hP _ _ _ _ _ _ (fin)
/-- the model's loop -/
theorem n_roomL {tv : TV} {nT n g a sz : Nat} {S : St} {K : KT} {P : PT} {e : Nat} {v : Nat → Int32} {y : Int32} {res : Int32 × Fl} (he : 2 ≤ e) (hP : ∀ pc L st S fc fs, F m_X6_room (Call e) K P pc L st S fc fs → P pc L st S fc fs) (hn : n ≤ 5) (hg : g < 4) (ha : a ≤ 40) (hs : sz ≤ 40) (hsz : S.1 57 0 g = nI sz) (hv : ∀ k, k < sz → S.1 58 0 (40 * g + k) = v k)
    (hK : ∀ S', Ag mFl S S' → HM S' res.2 → K (some (aI res.1)) S') : ∀ r k c F1 S1 x7, k + r = n → c ≤ k → Ag mFl S S1 → MX tv nT S1 F1 → rmX v sz a r k c F1 = res → P 79 [some (aR 40 0), some (aI (nI g)), some (aI y), some (aI (nI a)), some (aI (nI n)), some (aI (nI c)), some (aI (nI k)), x7] [aI (nI n), aI (nI k)] S1 0 0 := by
  intro r
  induction r with
  | zero =>
    intro k c F1 S1 x7 hk hc g1 hX1 hr
    obtain rfl : k = n := by omega
    have fin : K (some (aI (nI c))) S1 := by
      have e : res = (nI c, F1) := hr.symm
      rw [e] at hK
      exact hK S1 g1 hX1.2.1
    refine hP _ _ _ _ _ _ (And.intro (fun _ => ?_) (fun hc => absurd (nI_le (Nat.le_refl k) (by omega)) hc))
    repeat (first | (refine hP _ _ _ _ _ _ ?_; show P _ _ _ _ _ _) | (refine hP _ _ _ _ _ _ (And.intro (hN _ _ _ rfl) ?_); show P _ _ (aR _ _ :: _) _ _ _))
    exact hP _ _ _ _ _ _ (fin)
  | succ r ih =>
    intro k c F1 S1 x7 hk hc g1 hX1 hr
    have hN := hX1.1.1
    have hn5 := hX1.2.2.1
    have okm : ∀ j g k, mFl j g k → ¬ (j = 41 ∨ j = 42 ∨ j = 47) := fun j g k z => by
      simp only [mFl] at z
      omega
    refine hP _ _ _ _ _ _ (And.intro (fun hc => absurd hc (nI_ge (a := k) (b := n) (by omega) (by omega))) (fun _ => ?_))
    repeat (first | (refine hP _ _ _ _ _ _ ?_; show P _ _ _ _ _ _) | (refine hP _ _ _ _ _ _ (And.intro (hN _ _ _ rfl) ?_); show P _ _ (aR _ _ :: _) _ _ _))
    refine hP _ _ _ _ _ _ (And.intro (fun hc => absurd hc (nI_pos (by omega))) (fun _ => ?_))
    repeat (first | (refine hP _ _ _ _ _ _ ?_; show P _ _ _ _ _ _) | (refine hP _ _ _ _ _ _ (And.intro (hN _ _ _ rfl) ?_); show P _ _ (aR _ _ :: _) _ _ _))
    refine hP _ _ _ _ _ _ (Exists.intro (g) (And.intro (And.intro (rfl) (show g < 4 from hg)) ?_))
    rw [show S1.1 57 0 g = nI sz by rw [g1.1 57 0 g (by simp [mFl])]; exact hsz]
    repeat (first | (refine hP _ _ _ _ _ _ ?_; show P _ _ _ _ _ _) | (refine hP _ _ _ _ _ _ (And.intro (hN _ _ _ rfl) ?_); show P _ _ (aR _ _ :: _) _ _ _))
    rw [jx2]
    by_cases hc2 : a + 2 * k + 2 ≤ sz
    · refine hP _ _ _ _ _ _ (And.intro (fun _ => ?_) (fun hc => absurd ((szle hs ha (by omega)).mpr hc2) hc))
      repeat (first | (refine hP _ _ _ _ _ _ ?_; show P _ _ _ _ _ _) | (refine hP _ _ _ _ _ _ (And.intro (hN _ _ _ rfl) ?_); show P _ _ (aR _ _ :: _) _ _ _))
      rw [jx40, jx2, nI_add]
      refine hP _ _ _ _ _ _ (Exists.intro (40 * g + a + 2 * k) (And.intro (And.intro (rfl) (by show 40 * g + a + 2 * k < 160; omega)) ?_))
      rw [show S1.1 58 0 (40 * g + a + 2 * k) = v (a + 2 * k) by rw [g1.1 58 0 _ (by simp [mFl]), Nat.add_assoc]; exact hv _ (by omega)]
      repeat (first | (refine hP _ _ _ _ _ _ ?_; show P _ _ _ _ _ _) | (refine hP _ _ _ _ _ _ (And.intro (hN _ _ _ rfl) ?_); show P _ _ (aR _ _ :: _) _ _ _))
      refine hP _ _ _ _ _ _ (Exists.intro (40 * g + a + 2 * k + 1) (And.intro (And.intro (nI_1 _) (by show 40 * g + a + 2 * k + 1 < 160; omega)) ?_))
      rw [show S1.1 58 0 (40 * g + a + 2 * k + 1) = v (a + 2 * k + 1) by rw [g1.1 58 0 _ (by simp [mFl]), Nat.add_assoc, Nat.add_assoc, ← Nat.add_assoc a]; exact hv _ (by omega)]
      repeat (first | (refine hP _ _ _ _ _ _ ?_; show P _ _ _ _ _ _) | (refine hP _ _ _ _ _ _ (And.intro (hN _ _ _ rfl) ?_); show P _ _ (aR _ _ :: _) _ _ _))
      have no : dnF F1 (v (a + 2 * k)) (v (a + 2 * k + 1)) = none → P 79 [some (aR 40 0), some (aI (nI g)), some (aI y), some (aI (nI a)), some (aI (nI n)), some (aI (nI c)), some (aI (nI k + 1)), some (aI (nI (40 * g + a + 2 * k)))] [aI (nI n), aI (nI k + 1)] S1 0 0 := by
        intro hd
        have := ih (k + 1) c F1 S1 (some (aI (nI (40 * g + a + 2 * k)))) (by omega) (by omega) g1 hX1 (by rw [← hr, rmX_no hc2 hd])
        rw [nI_succ k] at this
        exact this
      rcases dnF_cs hn5 (v (a + 2 * k)) (v (a + 2 * k + 1)) with ⟨hb, hd⟩ | ⟨k', u, hk', hu, ex, ey, ⟨h5, hd⟩ | ⟨h5, hd⟩⟩
      · have no := no hd
        refine hP _ _ _ _ _ _ (n_dancer_bad (by omega) hb ?_)
        repeat (first | (refine hP _ _ _ _ _ _ ?_; show P _ _ _ _ _ _) | (refine hP _ _ _ _ _ _ (And.intro (hN _ _ _ rfl) ?_); show P _ _ (aR _ _ :: _) _ _ _) | refine hP _ _ _ _ _ _ (And.intro (fun _ => ?_) (fun hc => absurd hc (by decide))) | refine hP _ _ _ _ _ _ (And.intro (fun hc => absurd hc (by decide)) (fun _ => ?_)))
        rw [Int32.add_zero]
        exact no
      · have no := no hd
        rw [ex, ey]
        refine hP _ _ _ _ _ _ (n_dancerx (by omega) hX1 hk' hu (fun _ => ?_) (fun z => by omega))
        repeat (first | (refine hP _ _ _ _ _ _ ?_; show P _ _ _ _ _ _) | (refine hP _ _ _ _ _ _ (And.intro (hN _ _ _ rfl) ?_); show P _ _ (aR _ _ :: _) _ _ _) | refine hP _ _ _ _ _ _ (And.intro (fun _ => ?_) (fun hc => absurd hc (by decide))) | refine hP _ _ _ _ _ _ (And.intro (fun hc => absurd hc (by decide)) (fun _ => ?_)))
        rw [Int32.add_zero]
        exact no
      · have yes : ∀ S2, Ag mFl S1 S2 → HM S2 (jnF F1 k' u) → P 79 [some (aR 40 0), some (aI (nI g)), some (aI y), some (aI (nI a)), some (aI (nI n)), some (aI (nI c + 1)), some (aI (nI k + 1)), some (aI (nI (40 * g + a + 2 * k)))] [aI (nI n), aI (nI k + 1)] S2 0 0 := by
          intro S2 g2 hM2
          have := ih (k + 1) (c + 1) (jnF F1 k' u) S2 (some (aI (nI (40 * g + a + 2 * k)))) (by omega) (by omega) (g1.tr g2) ⟨hX1.1.up g2 okm, hM2, hX1.2.2.jn h5 hk' hu⟩ (by rw [← hr, rmX_yes hc2 hd])
          rw [nI_succ k, nI_succ c] at this
          exact this
        rw [ex, ey]
        refine hP _ _ _ _ _ _ (n_dancerx (by omega) hX1 hk' hu (fun z => by omega) (fun _ S2 g2 hM2 => ?_))
        have yes := yes S2 g2 hM2
        repeat (first | (refine hP _ _ _ _ _ _ ?_; show P _ _ _ _ _ _) | (refine hP _ _ _ _ _ _ (And.intro (hN _ _ _ rfl) ?_); show P _ _ (aR _ _ :: _) _ _ _))
        refine hP _ _ _ _ _ _ (And.intro (fun hc => absurd hc (nI_pos (by omega))) (fun _ => ?_))
        repeat (first | (refine hP _ _ _ _ _ _ ?_; show P _ _ _ _ _ _) | (refine hP _ _ _ _ _ _ (And.intro (hN _ _ _ rfl) ?_); show P _ _ (aR _ _ :: _) _ _ _))
        exact yes
    · have fin : K (some (aI (-12))) S1 := by
        have e : res = (-12, F1) := by rw [← hr]; exact rmX_out hc2
        rw [e] at hK
        exact hK S1 g1 hX1.2.1
      refine hP _ _ _ _ _ _ (And.intro (fun hc => absurd hc (fun z => hc2 ((szle hs ha (by omega)).mp z))) (fun _ => ?_))
      repeat (first | (refine hP _ _ _ _ _ _ ?_; show P _ _ _ _ _ _) | (refine hP _ _ _ _ _ _ (And.intro (hN _ _ _ rfl) ?_); show P _ _ (aR _ _ :: _) _ _ _))
      exact hP _ _ _ _ _ _ (fin)
