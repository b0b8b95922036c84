/-! The model: pays, will, breath, may, both dance, a round -/
theorem k6 {k : Nat} (h : k ≤ 5) : k = 0 ∨ k = 1 ∨ k = 2 ∨ k = 3 ∨ k = 4 ∨ k = 5 := by omega
theorem n_paysOf {tv : TV} {nT d : Nat} {S : St} {K : KT} {a o : Nat} {F : Fl} (hd : 102 ≤ d) (hX : MX tv nT S F) (ha : a < F.n) (ho : o < 2 ^ 30) (h : ∀ S', Ag m0 S S' → K (some (aI (nI (pyN tv F a o)))) S') : Call d m_X6_paysOf [aR 40 0, aI (nI a), aI (nI o)] S K := by
  refine Call.of (k := 101) hd (fun e he P hP => ?_)
  have hn := hX.2.2.1
  have hN := hX.1.1
  have hk := (hX.2.2.2.2.2 a ha).1
  have fin : ∀ (S' : St) (x : Int32) (x3 x4 : Option AV), Ag m0 S S' → pyN tv F a o = wN x o → P 94 [some (aR 40 0), some (aI (nI a)), some (aI (nI o)), x3, x4] [aI (nI o), aI 0, aI x] S' 0 0 := by
    intro S' x x3 x4 hS hx
    repeat (first | (refine hP _ _ _ _ _ _ ?_; show P _ _ _ _ _ _) | (refine hP _ _ _ _ _ _ (And.intro (hN _ _ _ rfl) ?_); show P _ _ (aR _ _ :: _) _ _ _))
    refine hP _ _ _ _ _ _ (n_within (by omega) ?_)
    rw [wI_nI, ← hx]
    exact hP _ _ _ _ _ _ (h S' hS)
  repeat (first | (refine hP _ _ _ _ _ _ ?_; show P _ _ _ _ _ _) | (refine hP _ _ _ _ _ _ (And.intro (hN _ _ _ rfl) ?_); show P _ _ (aR _ _ :: _) _ _ _))
  refine hP _ _ _ _ _ _ (Exists.intro (a) (And.intro (And.intro (rfl) (by show _ < 5; omega)) ?_))
  rw [hX.2.1.ki ha]
  unfold pyN at fin h
  rcases k6 hk with e | e | e | e | e | e <;> rw [e] at fin h ⊢
  · repeat (first | (refine hP _ _ _ _ _ _ ?_; show P _ _ _ _ _ _) | (refine hP _ _ _ _ _ _ (And.intro (hN _ _ _ rfl) ?_); show P _ _ (aR _ _ :: _) _ _ _) | refine hP _ _ _ _ _ _ (And.intro (fun _ => ?_) (fun hc => absurd hc (by decide))) | refine hP _ _ _ _ _ _ (And.intro (fun hc => absurd hc (by decide)) (fun _ => ?_)))
    refine hP _ _ _ _ _ _ (n_says (by omega) hX (p := 0) (by omega) ha (fun S1 h1 => ?_))
    repeat (first | (refine hP _ _ _ _ _ _ ?_; show P _ _ _ _ _ _) | (refine hP _ _ _ _ _ _ (And.intro (hN _ _ _ rfl) ?_); show P _ _ (aR _ _ :: _) _ _ _) | refine hP _ _ _ _ _ _ (And.intro (fun _ => ?_) (fun hc => absurd hc (by decide))) | refine hP _ _ _ _ _ _ (And.intro (fun hc => absurd hc (by decide)) (fun _ => ?_)))
    exact fin S1 _ _ _ h1 rfl
  · repeat (first | (refine hP _ _ _ _ _ _ ?_; show P _ _ _ _ _ _) | (refine hP _ _ _ _ _ _ (And.intro (hN _ _ _ rfl) ?_); show P _ _ (aR _ _ :: _) _ _ _) | refine hP _ _ _ _ _ _ (And.intro (fun _ => ?_) (fun hc => absurd hc (by decide))) | refine hP _ _ _ _ _ _ (And.intro (fun hc => absurd hc (by decide)) (fun _ => ?_)))
    refine hP _ _ _ _ _ _ (n_says (by omega) hX (p := 0) (by omega) ha (fun S1 h1 => ?_))
    repeat (first | (refine hP _ _ _ _ _ _ ?_; show P _ _ _ _ _ _) | (refine hP _ _ _ _ _ _ (And.intro (hN _ _ _ rfl) ?_); show P _ _ (aR _ _ :: _) _ _ _) | refine hP _ _ _ _ _ _ (And.intro (fun _ => ?_) (fun hc => absurd hc (by decide))) | refine hP _ _ _ _ _ _ (And.intro (fun hc => absurd hc (by decide)) (fun _ => ?_)))
    exact fin S1 _ _ _ h1 rfl
  · repeat (first | (refine hP _ _ _ _ _ _ ?_; show P _ _ _ _ _ _) | (refine hP _ _ _ _ _ _ (And.intro (hN _ _ _ rfl) ?_); show P _ _ (aR _ _ :: _) _ _ _) | refine hP _ _ _ _ _ _ (And.intro (fun _ => ?_) (fun hc => absurd hc (by decide))) | refine hP _ _ _ _ _ _ (And.intro (fun hc => absurd hc (by decide)) (fun _ => ?_)))
    refine hP _ _ _ _ _ _ (n_within (by omega) ?_)
    rw [wI_nI]
    exact hP _ _ _ _ _ _ (h S (Ag.rf _ S))
  · repeat (first | (refine hP _ _ _ _ _ _ ?_; show P _ _ _ _ _ _) | (refine hP _ _ _ _ _ _ (And.intro (hN _ _ _ rfl) ?_); show P _ _ (aR _ _ :: _) _ _ _) | refine hP _ _ _ _ _ _ (And.intro (fun _ => ?_) (fun hc => absurd hc (by decide))) | refine hP _ _ _ _ _ _ (And.intro (fun hc => absurd hc (by decide)) (fun _ => ?_)))
    refine hP _ _ _ _ _ _ (n_says (by omega) hX (p := 0) (by omega) ha (fun S1 h1 => ?_))
    have hX1 := hX.sc h1
    have hN := hX1.1.1
    repeat (first | (refine hP _ _ _ _ _ _ ?_; show P _ _ _ _ _ _) | (refine hP _ _ _ _ _ _ (And.intro (hN _ _ _ rfl) ?_); show P _ _ (aR _ _ :: _) _ _ _) | refine hP _ _ _ _ _ _ (And.intro (fun _ => ?_) (fun hc => absurd hc (by decide))) | refine hP _ _ _ _ _ _ (And.intro (fun hc => absurd hc (by decide)) (fun _ => ?_)))
    rw [hX1.2.1.2.1]
    refine hP _ _ _ _ _ _ (And.intro (by decide) ?_)
    repeat (first | (refine hP _ _ _ _ _ _ ?_; show P _ _ _ _ _ _) | (refine hP _ _ _ _ _ _ (And.intro (hN _ _ _ rfl) ?_); show P _ _ (aR _ _ :: _) _ _ _) | refine hP _ _ _ _ _ _ (And.intro (fun _ => ?_) (fun hc => absurd hc (by decide))) | refine hP _ _ _ _ _ _ (And.intro (fun hc => absurd hc (by decide)) (fun _ => ?_)))
    refine hP _ _ _ _ _ _ (And.intro (fun hc => ?_) (fun hc => ?_))
    · repeat (first | (refine hP _ _ _ _ _ _ ?_; show P _ _ _ _ _ _) | (refine hP _ _ _ _ _ _ (And.intro (hN _ _ _ rfl) ?_); show P _ _ (aR _ _ :: _) _ _ _) | refine hP _ _ _ _ _ _ (And.intro (fun _ => ?_) (fun hc => absurd hc (by decide))) | refine hP _ _ _ _ _ _ (And.intro (fun hc => absurd hc (by decide)) (fun _ => ?_)))
      refine fin S1 _ _ _ h1 ?_
      have : evR F = false := decide_eq_false hc
      simp [this]
    · repeat (first | (refine hP _ _ _ _ _ _ ?_; show P _ _ _ _ _ _) | (refine hP _ _ _ _ _ _ (And.intro (hN _ _ _ rfl) ?_); show P _ _ (aR _ _ :: _) _ _ _) | refine hP _ _ _ _ _ _ (And.intro (fun _ => ?_) (fun hc => absurd hc (by decide))) | refine hP _ _ _ _ _ _ (And.intro (fun hc => absurd hc (by decide)) (fun _ => ?_)))
      refine hP _ _ _ _ _ _ (Exists.intro (2 * a) (And.intro (And.intro (jx2 a) (by show _ < 10; omega)) ?_))
      rw [hX1.2.1.nu ha]
      repeat (first | (refine hP _ _ _ _ _ _ ?_; show P _ _ _ _ _ _) | (refine hP _ _ _ _ _ _ (And.intro (hN _ _ _ rfl) ?_); show P _ _ (aR _ _ :: _) _ _ _) | refine hP _ _ _ _ _ _ (And.intro (fun _ => ?_) (fun hc => absurd hc (by decide))) | refine hP _ _ _ _ _ _ (And.intro (fun hc => absurd hc (by decide)) (fun _ => ?_)))
      refine fin S1 _ _ _ h1 ?_
      have : evR F = true := decide_eq_true hc
      simp [this]
  · repeat (first | (refine hP _ _ _ _ _ _ ?_; show P _ _ _ _ _ _) | (refine hP _ _ _ _ _ _ (And.intro (hN _ _ _ rfl) ?_); show P _ _ (aR _ _ :: _) _ _ _) | refine hP _ _ _ _ _ _ (And.intro (fun _ => ?_) (fun hc => absurd hc (by decide))) | refine hP _ _ _ _ _ _ (And.intro (fun hc => absurd hc (by decide)) (fun _ => ?_)))
    have : wN (nI o) o = o := by
      unfold wN
      rw [if_neg (nI_pos (by omega)), if_neg (nI_nlt (Nat.le_refl _) (by omega)), nI_clamp (by omega)]
    have h := h S (Ag.rf _ S)
    change K (some (aI (nI (wN (nI o) o)))) S at h
    rw [this] at h
    exact hP _ _ _ _ _ _ (h)
  · repeat (first | (refine hP _ _ _ _ _ _ ?_; show P _ _ _ _ _ _) | (refine hP _ _ _ _ _ _ (And.intro (hN _ _ _ rfl) ?_); show P _ _ (aR _ _ :: _) _ _ _) | refine hP _ _ _ _ _ _ (And.intro (fun _ => ?_) (fun hc => absurd hc (by decide))) | refine hP _ _ _ _ _ _ (And.intro (fun hc => absurd hc (by decide)) (fun _ => ?_)))
    have : wN 0 o = 0 := by
      unfold wN
      rw [if_neg (by decide)]
      split
      · rename_i hc
        exact absurd hc (nI_nlt (b := 0) (by omega) (by omega))
      · rfl
    have h := h S (Ag.rf _ S)
    change K (some (aI (nI (wN 0 o)))) S at h
    rw [this] at h
    exact hP _ _ _ _ _ _ (h)
theorem n_breathOf {tv : TV} {nT d : Nat} {S : St} {K : KT} {a : Nat} {F : Fl} (hd : 102 ≤ d) (hX : MX tv nT S F) (ha : a < F.n) (h : ∀ S', Ag m0 S S' → K (some (aI (nI (brN tv F a)))) S') : Call d m_X6_breathOf [aR 40 0, aI (nI a)] S K := by
  refine Call.of (k := 101) hd (fun e he P hP => ?_)
  have hn := hX.2.2.1
  have hN := hX.1.1
  have hk := (hX.2.2.2.2.2 a ha).1
  have hu := (hX.2.2.2.2.2 a ha).2.1
  have fin : ∀ (S' : St) (x : Int32) (x3 x4 : Option AV), Ag m0 S S' → brN tv F a = wN x 99 → P 69 [some (aR 40 0), some (aI (nI a)), x3, x4] [aI 99, aI 0, aI x] S' 0 0 := by
    intro S' x x3 x4 hS hx
    repeat (first | (refine hP _ _ _ _ _ _ ?_; show P _ _ _ _ _ _) | (refine hP _ _ _ _ _ _ (And.intro (hN _ _ _ rfl) ?_); show P _ _ (aR _ _ :: _) _ _ _))
    refine hP _ _ _ _ _ _ (n_within (by omega) ?_)
    have := wI_nI x 99
    rw [show (99 : Int32) = nI 99 from rfl, this, ← hx]
    exact hP _ _ _ _ _ _ (h S' hS)
  repeat (first | (refine hP _ _ _ _ _ _ ?_; show P _ _ _ _ _ _) | (refine hP _ _ _ _ _ _ (And.intro (hN _ _ _ rfl) ?_); show P _ _ (aR _ _ :: _) _ _ _))
  refine hP _ _ _ _ _ _ (Exists.intro (a) (And.intro (And.intro (rfl) (by show _ < 5; omega)) ?_))
  rw [hX.2.1.ki ha]
  unfold brN at fin h
  rcases k6 hk with e | e | e | e | e | e <;> rw [e] at fin h ⊢
  · repeat (first | (refine hP _ _ _ _ _ _ ?_; show P _ _ _ _ _ _) | (refine hP _ _ _ _ _ _ (And.intro (hN _ _ _ rfl) ?_); show P _ _ (aR _ _ :: _) _ _ _) | refine hP _ _ _ _ _ _ (And.intro (fun _ => ?_) (fun hc => absurd hc (by decide))) | refine hP _ _ _ _ _ _ (And.intro (fun hc => absurd hc (by decide)) (fun _ => ?_)))
    refine hP _ _ _ _ _ _ (n_says (by omega) hX (p := 2) (o := 0) (by omega) ha (fun S1 h1 => ?_))
    repeat (first | (refine hP _ _ _ _ _ _ ?_; show P _ _ _ _ _ _) | (refine hP _ _ _ _ _ _ (And.intro (hN _ _ _ rfl) ?_); show P _ _ (aR _ _ :: _) _ _ _) | refine hP _ _ _ _ _ _ (And.intro (fun _ => ?_) (fun hc => absurd hc (by decide))) | refine hP _ _ _ _ _ _ (And.intro (fun hc => absurd hc (by decide)) (fun _ => ?_)))
    exact fin S1 _ _ _ h1 rfl
  · repeat (first | (refine hP _ _ _ _ _ _ ?_; show P _ _ _ _ _ _) | (refine hP _ _ _ _ _ _ (And.intro (hN _ _ _ rfl) ?_); show P _ _ (aR _ _ :: _) _ _ _) | refine hP _ _ _ _ _ _ (And.intro (fun _ => ?_) (fun hc => absurd hc (by decide))) | refine hP _ _ _ _ _ _ (And.intro (fun hc => absurd hc (by decide)) (fun _ => ?_)))
    refine hP _ _ _ _ _ _ (n_says (by omega) hX (p := 2) (o := 0) (by omega) ha (fun S1 h1 => ?_))
    repeat (first | (refine hP _ _ _ _ _ _ ?_; show P _ _ _ _ _ _) | (refine hP _ _ _ _ _ _ (And.intro (hN _ _ _ rfl) ?_); show P _ _ (aR _ _ :: _) _ _ _) | refine hP _ _ _ _ _ _ (And.intro (fun _ => ?_) (fun hc => absurd hc (by decide))) | refine hP _ _ _ _ _ _ (And.intro (fun hc => absurd hc (by decide)) (fun _ => ?_)))
    exact fin S1 _ _ _ h1 rfl
  · repeat (first | (refine hP _ _ _ _ _ _ ?_; show P _ _ _ _ _ _) | (refine hP _ _ _ _ _ _ (And.intro (hN _ _ _ rfl) ?_); show P _ _ (aR _ _ :: _) _ _ _) | refine hP _ _ _ _ _ _ (And.intro (fun _ => ?_) (fun hc => absurd hc (by decide))) | refine hP _ _ _ _ _ _ (And.intro (fun hc => absurd hc (by decide)) (fun _ => ?_)))
    refine hP _ _ _ _ _ _ (n_says (by omega) hX (p := 2) (o := 0) (by omega) ha (fun S1 h1 => ?_))
    repeat (first | (refine hP _ _ _ _ _ _ ?_; show P _ _ _ _ _ _) | (refine hP _ _ _ _ _ _ (And.intro (hN _ _ _ rfl) ?_); show P _ _ (aR _ _ :: _) _ _ _) | refine hP _ _ _ _ _ _ (And.intro (fun _ => ?_) (fun hc => absurd hc (by decide))) | refine hP _ _ _ _ _ _ (And.intro (fun hc => absurd hc (by decide)) (fun _ => ?_)))
    refine hP _ _ _ _ _ _ (And.intro (by decide) ?_)
    repeat (first | (refine hP _ _ _ _ _ _ ?_; show P _ _ _ _ _ _) | (refine hP _ _ _ _ _ _ (And.intro (hN _ _ _ rfl) ?_); show P _ _ (aR _ _ :: _) _ _ _) | refine hP _ _ _ _ _ _ (And.intro (fun _ => ?_) (fun hc => absurd hc (by decide))) | refine hP _ _ _ _ _ _ (And.intro (fun hc => absurd hc (by decide)) (fun _ => ?_)))
    exact fin S1 _ _ _ h1 rfl
  · repeat (first | (refine hP _ _ _ _ _ _ ?_; show P _ _ _ _ _ _) | (refine hP _ _ _ _ _ _ (And.intro (hN _ _ _ rfl) ?_); show P _ _ (aR _ _ :: _) _ _ _) | refine hP _ _ _ _ _ _ (And.intro (fun _ => ?_) (fun hc => absurd hc (by decide))) | refine hP _ _ _ _ _ _ (And.intro (fun hc => absurd hc (by decide)) (fun _ => ?_)))
    refine hP _ _ _ _ _ _ (n_says (by omega) hX (p := 2) (o := 0) (by omega) ha (fun S1 h1 => ?_))
    repeat (first | (refine hP _ _ _ _ _ _ ?_; show P _ _ _ _ _ _) | (refine hP _ _ _ _ _ _ (And.intro (hN _ _ _ rfl) ?_); show P _ _ (aR _ _ :: _) _ _ _) | refine hP _ _ _ _ _ _ (And.intro (fun _ => ?_) (fun hc => absurd hc (by decide))) | refine hP _ _ _ _ _ _ (And.intro (fun hc => absurd hc (by decide)) (fun _ => ?_)))
    exact fin S1 _ _ _ h1 rfl
  · repeat (first | (refine hP _ _ _ _ _ _ ?_; show P _ _ _ _ _ _) | (refine hP _ _ _ _ _ _ (And.intro (hN _ _ _ rfl) ?_); show P _ _ (aR _ _ :: _) _ _ _) | refine hP _ _ _ _ _ _ (And.intro (fun _ => ?_) (fun hc => absurd hc (by decide))) | refine hP _ _ _ _ _ _ (And.intro (fun hc => absurd hc (by decide)) (fun _ => ?_)))
    exact hP _ _ _ _ _ _ (h S (Ag.rf _ S))
  · repeat (first | (refine hP _ _ _ _ _ _ ?_; show P _ _ _ _ _ _) | (refine hP _ _ _ _ _ _ (And.intro (hN _ _ _ rfl) ?_); show P _ _ (aR _ _ :: _) _ _ _) | refine hP _ _ _ _ _ _ (And.intro (fun _ => ?_) (fun hc => absurd hc (by decide))) | refine hP _ _ _ _ _ _ (And.intro (fun hc => absurd hc (by decide)) (fun _ => ?_)))
    refine hP _ _ _ _ _ _ (Exists.intro (2 * a) (And.intro (And.intro (jx2 a) (by show _ < 10; omega)) ?_))
    rw [hX.2.1.nu ha]
    repeat (first | (refine hP _ _ _ _ _ _ ?_; show P _ _ _ _ _ _) | (refine hP _ _ _ _ _ _ (And.intro (hN _ _ _ rfl) ?_); show P _ _ (aR _ _ :: _) _ _ _) | refine hP _ _ _ _ _ _ (And.intro (fun _ => ?_) (fun hc => absurd hc (by decide))) | refine hP _ _ _ _ _ _ (And.intro (fun hc => absurd hc (by decide)) (fun _ => ?_)))
    have : wN (nI (F.nu a)) 99 = F.nu a := by
      unfold wN
      rw [if_neg (nI_pos (by omega)), if_neg (nI_nlt (by omega) (by omega)), nI_clamp (by omega)]
    have h := h S (Ag.rf _ S)
    change K (some (aI (nI (wN (nI (F.nu a)) 99)))) S at h
    rw [this] at h
    exact hP _ _ _ _ _ _ (h)
theorem gt0 {x : Nat} (hx : x < 2 ^ 31) {A B : Prop} (h1 : 0 < x → A) (h2 : ¬ 0 < x → B) : (0 < nI x → A) ∧ (¬ 0 < nI x → B) :=
  ⟨fun hc => h1 ((nI_ltI (a := 0) (by decide) hx).mp hc), fun hc => h2 (fun z => hc ((nI_ltI (a := 0) (by decide) hx).mpr z))⟩
theorem le0 {x : Nat} (hx : x < 2 ^ 31) {A B : Prop} (h1 : ¬ 0 < x → A) (h2 : 0 < x → B) : (nI x ≤ 0 → A) ∧ (¬ nI x ≤ 0 → B) :=
  ⟨fun hc => h1 (fun z => nI_nle z hx hc), fun hc => h2 ((nI_ltI (a := 0) (by decide) hx).mp (Int32.not_le.mp hc))⟩
theorem n_willOf {tv : TV} {nT d : Nat} {S : St} {K : KT} {a b : Nat} {F : Fl} (hd : 102 ≤ d) (hX : MX tv nT S F) (ha : a < F.n) (hb : b < F.n) (h : ∀ S', Ag m0 S S' → K (some (aI (b2 (wlN tv F a b)))) S') : Call d m_X6_willOf [aR 40 0, aI (nI a), aI (nI b)] S K := by
  refine Call.of (k := 101) hd (fun e he P hP => ?_)
  have hn := hX.2.2.1
  have hN := hX.1.1
  have hk := (hX.2.2.2.2.2 a ha).1
  have hu := (hX.2.2.2.2.2 a ha).2.1
  have hdn := hX.2.2.dn ha
  have ho := hX.2.2.ow hb ha
  have hT := hX.2.2.bT ha
  have fin : ∀ (S' : St) (w : Bool), Ag m0 S S' → wlN tv F a b = w → K (some (aI (b2 w))) S' := by
    intro S' w hS hx
    rw [← hx]
    exact h S' hS
  repeat (first | (refine hP _ _ _ _ _ _ ?_; show P _ _ _ _ _ _) | (refine hP _ _ _ _ _ _ (And.intro (hN _ _ _ rfl) ?_); show P _ _ (aR _ _ :: _) _ _ _))
  refine hP _ _ _ _ _ _ (Exists.intro (a) (And.intro (And.intro (rfl) (by show _ < 5; omega)) ?_))
  rw [hX.2.1.ki ha]
  unfold wlN at fin
  rcases k6 hk with e | e | e | e | e | e <;> rw [e] at fin ⊢
  · repeat (first | (refine hP _ _ _ _ _ _ ?_; show P _ _ _ _ _ _) | (refine hP _ _ _ _ _ _ (And.intro (hN _ _ _ rfl) ?_); show P _ _ (aR _ _ :: _) _ _ _) | refine hP _ _ _ _ _ _ (And.intro (fun _ => ?_) (fun hc => absurd hc (by decide))) | refine hP _ _ _ _ _ _ (And.intro (fun hc => absurd hc (by decide)) (fun _ => ?_)))
    refine hP _ _ _ _ _ _ (n_debtOf (by omega) hX ha hb ?_)
    repeat (first | (refine hP _ _ _ _ _ _ ?_; show P _ _ _ _ _ _) | (refine hP _ _ _ _ _ _ (And.intro (hN _ _ _ rfl) ?_); show P _ _ (aR _ _ :: _) _ _ _) | refine hP _ _ _ _ _ _ (And.intro (fun _ => ?_) (fun hc => absurd hc (by decide))) | refine hP _ _ _ _ _ _ (And.intro (fun hc => absurd hc (by decide)) (fun _ => ?_)))
    refine hP _ _ _ _ _ _ (n_says (by omega) hX (p := 1) (by omega) ha (fun S1 h1 => ?_))
    repeat (first | (refine hP _ _ _ _ _ _ ?_; show P _ _ _ _ _ _) | (refine hP _ _ _ _ _ _ (And.intro (hN _ _ _ rfl) ?_); show P _ _ (aR _ _ :: _) _ _ _) | refine hP _ _ _ _ _ _ (And.intro (fun _ => ?_) (fun hc => absurd hc (by decide))) | refine hP _ _ _ _ _ _ (And.intro (fun hc => absurd hc (by decide)) (fun _ => ?_)))
    refine hP _ _ _ _ _ _ (And.intro (fun hc => ?_) (fun hc => ?_))
    · repeat (first | (refine hP _ _ _ _ _ _ ?_; show P _ _ _ _ _ _) | (refine hP _ _ _ _ _ _ (And.intro (hN _ _ _ rfl) ?_); show P _ _ (aR _ _ :: _) _ _ _) | refine hP _ _ _ _ _ _ (And.intro (fun _ => ?_) (fun hc => absurd hc (by decide))) | refine hP _ _ _ _ _ _ (And.intro (fun hc => absurd hc (by decide)) (fun _ => ?_)))
      refine hP _ _ _ _ _ _ (And.intro (Or.inl rfl) (fin S1 false h1 (by simp [vYes, hc])))
    · repeat (first | (refine hP _ _ _ _ _ _ ?_; show P _ _ _ _ _ _) | (refine hP _ _ _ _ _ _ (And.intro (hN _ _ _ rfl) ?_); show P _ _ (aR _ _ :: _) _ _ _) | refine hP _ _ _ _ _ _ (And.intro (fun _ => ?_) (fun hc => absurd hc (by decide))) | refine hP _ _ _ _ _ _ (And.intro (fun hc => absurd hc (by decide)) (fun _ => ?_)))
      refine hP _ _ _ _ _ _ (And.intro (Or.inr rfl) (fin S1 true h1 (by simp [vYes, hc])))
  · repeat (first | (refine hP _ _ _ _ _ _ ?_; show P _ _ _ _ _ _) | (refine hP _ _ _ _ _ _ (And.intro (hN _ _ _ rfl) ?_); show P _ _ (aR _ _ :: _) _ _ _) | refine hP _ _ _ _ _ _ (And.intro (fun _ => ?_) (fun hc => absurd hc (by decide))) | refine hP _ _ _ _ _ _ (And.intro (fun hc => absurd hc (by decide)) (fun _ => ?_)))
    refine hP _ _ _ _ _ _ (And.intro (Or.inr rfl) (fin S true (Ag.rf _ S) rfl))
  · repeat (first | (refine hP _ _ _ _ _ _ ?_; show P _ _ _ _ _ _) | (refine hP _ _ _ _ _ _ (And.intro (hN _ _ _ rfl) ?_); show P _ _ (aR _ _ :: _) _ _ _) | refine hP _ _ _ _ _ _ (And.intro (fun _ => ?_) (fun hc => absurd hc (by decide))) | refine hP _ _ _ _ _ _ (And.intro (fun hc => absurd hc (by decide)) (fun _ => ?_)))
    refine hP _ _ _ _ _ _ (n_debtOf (by omega) hX ha hb ?_)
    repeat (first | (refine hP _ _ _ _ _ _ ?_; show P _ _ _ _ _ _) | (refine hP _ _ _ _ _ _ (And.intro (hN _ _ _ rfl) ?_); show P _ _ (aR _ _ :: _) _ _ _) | refine hP _ _ _ _ _ _ (And.intro (fun _ => ?_) (fun hc => absurd hc (by decide))) | refine hP _ _ _ _ _ _ (And.intro (fun hc => absurd hc (by decide)) (fun _ => ?_)))
    refine hP _ _ _ _ _ _ (n_says (by omega) hX (p := 1) (by omega) ha (fun S1 h1 => ?_))
    have hX1 := hX.sc h1
    have hN := hX1.1.1
    repeat (first | (refine hP _ _ _ _ _ _ ?_; show P _ _ _ _ _ _) | (refine hP _ _ _ _ _ _ (And.intro (hN _ _ _ rfl) ?_); show P _ _ (aR _ _ :: _) _ _ _) | refine hP _ _ _ _ _ _ (And.intro (fun _ => ?_) (fun hc => absurd hc (by decide))) | refine hP _ _ _ _ _ _ (And.intro (fun hc => absurd hc (by decide)) (fun _ => ?_)))
    refine hP _ _ _ _ _ _ (And.intro (fun hc => ?_) (fun hc => ?_))
    · repeat (first | (refine hP _ _ _ _ _ _ ?_; show P _ _ _ _ _ _) | (refine hP _ _ _ _ _ _ (And.intro (hN _ _ _ rfl) ?_); show P _ _ (aR _ _ :: _) _ _ _) | refine hP _ _ _ _ _ _ (And.intro (fun _ => ?_) (fun hc => absurd hc (by decide))) | refine hP _ _ _ _ _ _ (And.intro (fun hc => absurd hc (by decide)) (fun _ => ?_)))
      refine hP _ _ _ _ _ _ (And.intro (Or.inl rfl) (fin S1 false h1 (by simp [vYes, hc])))
    · repeat (first | (refine hP _ _ _ _ _ _ ?_; show P _ _ _ _ _ _) | (refine hP _ _ _ _ _ _ (And.intro (hN _ _ _ rfl) ?_); show P _ _ (aR _ _ :: _) _ _ _) | refine hP _ _ _ _ _ _ (And.intro (fun _ => ?_) (fun hc => absurd hc (by decide))) | refine hP _ _ _ _ _ _ (And.intro (fun hc => absurd hc (by decide)) (fun _ => ?_)))
      refine hP _ _ _ _ _ _ (n_debtOf (by omega) hX1 hb ha ?_)
      repeat (first | (refine hP _ _ _ _ _ _ ?_; show P _ _ _ _ _ _) | (refine hP _ _ _ _ _ _ (And.intro (hN _ _ _ rfl) ?_); show P _ _ (aR _ _ :: _) _ _ _) | refine hP _ _ _ _ _ _ (And.intro (fun _ => ?_) (fun hc => absurd hc (by decide))) | refine hP _ _ _ _ _ _ (And.intro (fun hc => absurd hc (by decide)) (fun _ => ?_)))
      refine hP _ _ _ _ _ _ (le0 (by omega) (fun hc2 => ?_) (fun hc2 => ?_))
      · repeat (first | (refine hP _ _ _ _ _ _ ?_; show P _ _ _ _ _ _) | (refine hP _ _ _ _ _ _ (And.intro (hN _ _ _ rfl) ?_); show P _ _ (aR _ _ :: _) _ _ _) | refine hP _ _ _ _ _ _ (And.intro (fun _ => ?_) (fun hc => absurd hc (by decide))) | refine hP _ _ _ _ _ _ (And.intro (fun hc => absurd hc (by decide)) (fun _ => ?_)))
        refine hP _ _ _ _ _ _ (And.intro (Or.inl rfl) (fin S1 false h1 (by simp [hc2])))
      · repeat (first | (refine hP _ _ _ _ _ _ ?_; show P _ _ _ _ _ _) | (refine hP _ _ _ _ _ _ (And.intro (hN _ _ _ rfl) ?_); show P _ _ (aR _ _ :: _) _ _ _) | refine hP _ _ _ _ _ _ (And.intro (fun _ => ?_) (fun hc => absurd hc (by decide))) | refine hP _ _ _ _ _ _ (And.intro (fun hc => absurd hc (by decide)) (fun _ => ?_)))
        refine hP _ _ _ _ _ _ (And.intro (Or.inr rfl) (fin S1 true h1 (by simp [vYes, hc, hc2])))
  · repeat (first | (refine hP _ _ _ _ _ _ ?_; show P _ _ _ _ _ _) | (refine hP _ _ _ _ _ _ (And.intro (hN _ _ _ rfl) ?_); show P _ _ (aR _ _ :: _) _ _ _) | refine hP _ _ _ _ _ _ (And.intro (fun _ => ?_) (fun hc => absurd hc (by decide))) | refine hP _ _ _ _ _ _ (And.intro (fun hc => absurd hc (by decide)) (fun _ => ?_)))
    refine hP _ _ _ _ _ _ (Exists.intro (2 * a + 1) (And.intro (And.intro (jx3 a) (by show _ < 10; omega)) ?_))
    rw [hX.2.1.dn ha]
    repeat (first | (refine hP _ _ _ _ _ _ ?_; show P _ _ _ _ _ _) | (refine hP _ _ _ _ _ _ (And.intro (hN _ _ _ rfl) ?_); show P _ _ (aR _ _ :: _) _ _ _) | refine hP _ _ _ _ _ _ (And.intro (fun _ => ?_) (fun hc => absurd hc (by decide))) | refine hP _ _ _ _ _ _ (And.intro (fun hc => absurd hc (by decide)) (fun _ => ?_)))
    refine hP _ _ _ _ _ _ (Exists.intro (2 * a) (And.intro (And.intro (jx2 a) (by show _ < 10; omega)) ?_))
    rw [hX.2.1.nu ha]
    repeat (first | (refine hP _ _ _ _ _ _ ?_; show P _ _ _ _ _ _) | (refine hP _ _ _ _ _ _ (And.intro (hN _ _ _ rfl) ?_); show P _ _ (aR _ _ :: _) _ _ _) | refine hP _ _ _ _ _ _ (And.intro (fun _ => ?_) (fun hc => absurd hc (by decide))) | refine hP _ _ _ _ _ _ (And.intro (fun hc => absurd hc (by decide)) (fun _ => ?_)))
    refine hP _ _ _ _ _ _ (And.intro (fun hc => ?_) (fun hc => ?_))
    · have hc' := (nI_eq (by omega) (by omega)).mp hc
      repeat (first | (refine hP _ _ _ _ _ _ ?_; show P _ _ _ _ _ _) | (refine hP _ _ _ _ _ _ (And.intro (hN _ _ _ rfl) ?_); show P _ _ (aR _ _ :: _) _ _ _) | refine hP _ _ _ _ _ _ (And.intro (fun _ => ?_) (fun hc => absurd hc (by decide))) | refine hP _ _ _ _ _ _ (And.intro (fun hc => absurd hc (by decide)) (fun _ => ?_)))
      refine hP _ _ _ _ _ _ (And.intro (Or.inl rfl) (fin S false (Ag.rf _ S) (by simp [hc'])))
    · have hc' : ¬ F.dn a = F.nu a := fun z => hc (by rw [z])
      repeat (first | (refine hP _ _ _ _ _ _ ?_; show P _ _ _ _ _ _) | (refine hP _ _ _ _ _ _ (And.intro (hN _ _ _ rfl) ?_); show P _ _ (aR _ _ :: _) _ _ _) | refine hP _ _ _ _ _ _ (And.intro (fun _ => ?_) (fun hc => absurd hc (by decide))) | refine hP _ _ _ _ _ _ (And.intro (fun hc => absurd hc (by decide)) (fun _ => ?_)))
      refine hP _ _ _ _ _ _ (And.intro (Or.inr rfl) (fin S true (Ag.rf _ S) (by simp [hc'])))
  · repeat (first | (refine hP _ _ _ _ _ _ ?_; show P _ _ _ _ _ _) | (refine hP _ _ _ _ _ _ (And.intro (hN _ _ _ rfl) ?_); show P _ _ (aR _ _ :: _) _ _ _) | refine hP _ _ _ _ _ _ (And.intro (fun _ => ?_) (fun hc => absurd hc (by decide))) | refine hP _ _ _ _ _ _ (And.intro (fun hc => absurd hc (by decide)) (fun _ => ?_)))
    refine hP _ _ _ _ _ _ (n_owedTo (by omega) hX ha ?_)
    repeat (first | (refine hP _ _ _ _ _ _ ?_; show P _ _ _ _ _ _) | (refine hP _ _ _ _ _ _ (And.intro (hN _ _ _ rfl) ?_); show P _ _ (aR _ _ :: _) _ _ _) | refine hP _ _ _ _ _ _ (And.intro (fun _ => ?_) (fun hc => absurd hc (by decide))) | refine hP _ _ _ _ _ _ (And.intro (fun hc => absurd hc (by decide)) (fun _ => ?_)))
    refine hP _ _ _ _ _ _ (And.intro (fun hc => ?_) (fun hc => ?_))
    · have hc' : ¬ oT F a = 0 := fun z => hc (by rw [z]; rfl)
      repeat (first | (refine hP _ _ _ _ _ _ ?_; show P _ _ _ _ _ _) | (refine hP _ _ _ _ _ _ (And.intro (hN _ _ _ rfl) ?_); show P _ _ (aR _ _ :: _) _ _ _) | refine hP _ _ _ _ _ _ (And.intro (fun _ => ?_) (fun hc => absurd hc (by decide))) | refine hP _ _ _ _ _ _ (And.intro (fun hc => absurd hc (by decide)) (fun _ => ?_)))
      refine hP _ _ _ _ _ _ (n_debtOf (by omega) hX ha hb ?_)
      repeat (first | (refine hP _ _ _ _ _ _ ?_; show P _ _ _ _ _ _) | (refine hP _ _ _ _ _ _ (And.intro (hN _ _ _ rfl) ?_); show P _ _ (aR _ _ :: _) _ _ _) | refine hP _ _ _ _ _ _ (And.intro (fun _ => ?_) (fun hc => absurd hc (by decide))) | refine hP _ _ _ _ _ _ (And.intro (fun hc => absurd hc (by decide)) (fun _ => ?_)))
      refine hP _ _ _ _ _ _ (n_says (by omega) hX (p := 1) (by omega) ha (fun S1 h1 => ?_))
      have hX1 := hX.sc h1
      have hN := hX1.1.1
      repeat (first | (refine hP _ _ _ _ _ _ ?_; show P _ _ _ _ _ _) | (refine hP _ _ _ _ _ _ (And.intro (hN _ _ _ rfl) ?_); show P _ _ (aR _ _ :: _) _ _ _) | refine hP _ _ _ _ _ _ (And.intro (fun _ => ?_) (fun hc => absurd hc (by decide))) | refine hP _ _ _ _ _ _ (And.intro (fun hc => absurd hc (by decide)) (fun _ => ?_)))
      refine hP _ _ _ _ _ _ (And.intro (fun hc1 => ?_) (fun hc1 => ?_))
      · repeat (first | (refine hP _ _ _ _ _ _ ?_; show P _ _ _ _ _ _) | (refine hP _ _ _ _ _ _ (And.intro (hN _ _ _ rfl) ?_); show P _ _ (aR _ _ :: _) _ _ _) | refine hP _ _ _ _ _ _ (And.intro (fun _ => ?_) (fun hc => absurd hc (by decide))) | refine hP _ _ _ _ _ _ (And.intro (fun hc => absurd hc (by decide)) (fun _ => ?_)))
        refine hP _ _ _ _ _ _ (And.intro (Or.inl rfl) (fin S1 false h1 (by simp [vYes, hc1, hc'])))
      · repeat (first | (refine hP _ _ _ _ _ _ ?_; show P _ _ _ _ _ _) | (refine hP _ _ _ _ _ _ (And.intro (hN _ _ _ rfl) ?_); show P _ _ (aR _ _ :: _) _ _ _) | refine hP _ _ _ _ _ _ (And.intro (fun _ => ?_) (fun hc => absurd hc (by decide))) | refine hP _ _ _ _ _ _ (And.intro (fun hc => absurd hc (by decide)) (fun _ => ?_)))
        refine hP _ _ _ _ _ _ (n_debtOf (by omega) hX1 hb ha ?_)
        repeat (first | (refine hP _ _ _ _ _ _ ?_; show P _ _ _ _ _ _) | (refine hP _ _ _ _ _ _ (And.intro (hN _ _ _ rfl) ?_); show P _ _ (aR _ _ :: _) _ _ _) | refine hP _ _ _ _ _ _ (And.intro (fun _ => ?_) (fun hc => absurd hc (by decide))) | refine hP _ _ _ _ _ _ (And.intro (fun hc => absurd hc (by decide)) (fun _ => ?_)))
        refine hP _ _ _ _ _ _ (le0 (by omega) (fun hc2 => ?_) (fun hc2 => ?_))
        · repeat (first | (refine hP _ _ _ _ _ _ ?_; show P _ _ _ _ _ _) | (refine hP _ _ _ _ _ _ (And.intro (hN _ _ _ rfl) ?_); show P _ _ (aR _ _ :: _) _ _ _) | refine hP _ _ _ _ _ _ (And.intro (fun _ => ?_) (fun hc => absurd hc (by decide))) | refine hP _ _ _ _ _ _ (And.intro (fun hc => absurd hc (by decide)) (fun _ => ?_)))
          refine hP _ _ _ _ _ _ (And.intro (Or.inl rfl) (fin S1 false h1 (by simp [hc2, hc'])))
        · repeat (first | (refine hP _ _ _ _ _ _ ?_; show P _ _ _ _ _ _) | (refine hP _ _ _ _ _ _ (And.intro (hN _ _ _ rfl) ?_); show P _ _ (aR _ _ :: _) _ _ _) | refine hP _ _ _ _ _ _ (And.intro (fun _ => ?_) (fun hc => absurd hc (by decide))) | refine hP _ _ _ _ _ _ (And.intro (fun hc => absurd hc (by decide)) (fun _ => ?_)))
          refine hP _ _ _ _ _ _ (And.intro (Or.inr rfl) (fin S1 true h1 (by simp [vYes, hc1, hc2])))
    · have hc' : oT F a = 0 := (nI_eq (b := 0) (by omega) (by omega)).mp hc
      repeat (first | (refine hP _ _ _ _ _ _ ?_; show P _ _ _ _ _ _) | (refine hP _ _ _ _ _ _ (And.intro (hN _ _ _ rfl) ?_); show P _ _ (aR _ _ :: _) _ _ _) | refine hP _ _ _ _ _ _ (And.intro (fun _ => ?_) (fun hc => absurd hc (by decide))) | refine hP _ _ _ _ _ _ (And.intro (fun hc => absurd hc (by decide)) (fun _ => ?_)))
      refine hP _ _ _ _ _ _ (And.intro (Or.inr rfl) (fin S true (Ag.rf _ S) (by simp [hc'])))
  · repeat (first | (refine hP _ _ _ _ _ _ ?_; show P _ _ _ _ _ _) | (refine hP _ _ _ _ _ _ (And.intro (hN _ _ _ rfl) ?_); show P _ _ (aR _ _ :: _) _ _ _) | refine hP _ _ _ _ _ _ (And.intro (fun _ => ?_) (fun hc => absurd hc (by decide))) | refine hP _ _ _ _ _ _ (And.intro (fun hc => absurd hc (by decide)) (fun _ => ?_)))
    refine hP _ _ _ _ _ _ (And.intro (Or.inl rfl) (fin S false (Ag.rf _ S) rfl))
theorem n_hasBreath {tv : TV} {nT d : Nat} {S : St} {K : KT} {a : Nat} {F : Fl} (hd : 103 ≤ d) (hX : MX tv nT S F) (ha : a < F.n) (h : ∀ S', Ag m0 S S' → K (some (aI (b2 (decide (F.dn a < brN tv F a))))) S') : Call d m_X6_hasBreath [aR 40 0, aI (nI a)] S K := by
  refine Call.of (k := 102) hd (fun e he P hP => ?_)
  have hn := hX.2.2.1
  have hN := hX.1.1
  have hdn := hX.2.2.dn ha
  have hbr : brN tv F a ≤ 99 := wN_le _ (by decide)
  repeat (first | (refine hP _ _ _ _ _ _ ?_; show P _ _ _ _ _ _) | (refine hP _ _ _ _ _ _ (And.intro (hN _ _ _ rfl) ?_); show P _ _ (aR _ _ :: _) _ _ _))
  refine hP _ _ _ _ _ _ (Exists.intro (2 * a + 1) (And.intro (And.intro (jx3 a) (by show _ < 10; omega)) ?_))
  rw [hX.2.1.dn ha]
  repeat (first | (refine hP _ _ _ _ _ _ ?_; show P _ _ _ _ _ _) | (refine hP _ _ _ _ _ _ (And.intro (hN _ _ _ rfl) ?_); show P _ _ (aR _ _ :: _) _ _ _))
  refine hP _ _ _ _ _ _ (n_breathOf (by omega) hX ha (fun S1 h1 => ?_))
  have h := h S1 h1
  repeat (first | (refine hP _ _ _ _ _ _ ?_; show P _ _ _ _ _ _) | (refine hP _ _ _ _ _ _ (And.intro (hN _ _ _ rfl) ?_); show P _ _ (aR _ _ :: _) _ _ _))
  refine hP _ _ _ _ _ _ (And.intro (fun hc => ?_) (fun hc => ?_))
  · have hc' : ¬ F.dn a < brN tv F a := fun z => absurd hc (nI_ge z (by omega))
    rw [decide_eq_false hc'] at h
    repeat (first | (refine hP _ _ _ _ _ _ ?_; show P _ _ _ _ _ _) | (refine hP _ _ _ _ _ _ (And.intro (hN _ _ _ rfl) ?_); show P _ _ (aR _ _ :: _) _ _ _))
    refine hP _ _ _ _ _ _ (And.intro (Or.inl rfl) h)
  · have hc' : F.dn a < brN tv F a := (nI_ltI (by omega) (by omega)).mp (Int32.not_le.mp hc)
    rw [decide_eq_true hc'] at h
    repeat (first | (refine hP _ _ _ _ _ _ ?_; show P _ _ _ _ _ _) | (refine hP _ _ _ _ _ _ (And.intro (hN _ _ _ rfl) ?_); show P _ _ (aR _ _ :: _) _ _ _))
    refine hP _ _ _ _ _ _ (And.intro (Or.inr rfl) h)
theorem n_mayDance {tv : TV} {nT d : Nat} {S : St} {K : KT} {a b : Nat} {F : Fl} (hd : 104 ≤ d) (hX : MX tv nT S F) (ha : a < F.n) (hb : b < F.n) (h : ∀ S', Ag m0 S S' → K (some (aI (b2 (myN tv F a b)))) S') : Call d m_X6_mayDance [aR 40 0, aI (nI a), aI (nI b)] S K := by
  refine Call.of (k := 103) hd (fun e he P hP => ?_)
  have hn := hX.2.2.1
  have hN := hX.1.1
  have o1 := hX.2.2.ow ha hb
  have o2 := hX.2.2.ow hb ha
  have out0 : ∀ (S' : St), Ag m0 S S' → myN tv F a b = false → P 56 [some (aR 40 0), some (aI (nI a)), some (aI (nI b))] [] S' 0 0 := by
    intro S' hS hx
    repeat (first | (refine hP _ _ _ _ _ _ ?_; show P _ _ _ _ _ _) | (refine hP _ _ _ _ _ _ (And.intro (hN _ _ _ rfl) ?_); show P _ _ (aR _ _ :: _) _ _ _))
    have h := h S' hS
    rw [hx] at h
    refine hP _ _ _ _ _ _ (And.intro (Or.inl rfl) h)
  have mid : (0 < F.ow a b ∨ 0 < F.ow b a) → P 18 [some (aR 40 0), some (aI (nI a)), some (aI (nI b))] [] S 0 0 := by
    intro hor
    have hor' : (decide (0 < F.ow a b) || decide (0 < F.ow b a)) = true := by simpa using hor
    repeat (first | (refine hP _ _ _ _ _ _ ?_; show P _ _ _ _ _ _) | (refine hP _ _ _ _ _ _ (And.intro (hN _ _ _ rfl) ?_); show P _ _ (aR _ _ :: _) _ _ _))
    refine hP _ _ _ _ _ _ (n_willOf (by omega) hX ha hb (fun S1 h1 => ?_))
    repeat (first | (refine hP _ _ _ _ _ _ ?_; show P _ _ _ _ _ _) | (refine hP _ _ _ _ _ _ (And.intro (hN _ _ _ rfl) ?_); show P _ _ (aR _ _ :: _) _ _ _))
    refine hP _ _ _ _ _ _ (And.intro (fun hc => ?_) (fun hc => ?_))
    · exact out0 S1 h1 (by simp [myN, b2_0 hc])
    · have w1 := b2_1 hc
      have hX1 := hX.sc h1
      have hN := hX1.1.1
      repeat (first | (refine hP _ _ _ _ _ _ ?_; show P _ _ _ _ _ _) | (refine hP _ _ _ _ _ _ (And.intro (hN _ _ _ rfl) ?_); show P _ _ (aR _ _ :: _) _ _ _))
      refine hP _ _ _ _ _ _ (n_willOf (by omega) hX1 hb ha (fun S2 h2 => ?_))
      repeat (first | (refine hP _ _ _ _ _ _ ?_; show P _ _ _ _ _ _) | (refine hP _ _ _ _ _ _ (And.intro (hN _ _ _ rfl) ?_); show P _ _ (aR _ _ :: _) _ _ _))
      refine hP _ _ _ _ _ _ (And.intro (fun hc2 => ?_) (fun hc2 => ?_))
      · exact out0 S2 (h1.tr h2) (by simp [myN, b2_0 hc2])
      · have w2 := b2_1 hc2
        have h12 := h1.tr h2
        have hX2 := hX.sc h12
        have hN := hX2.1.1
        repeat (first | (refine hP _ _ _ _ _ _ ?_; show P _ _ _ _ _ _) | (refine hP _ _ _ _ _ _ (And.intro (hN _ _ _ rfl) ?_); show P _ _ (aR _ _ :: _) _ _ _))
        refine hP _ _ _ _ _ _ (n_hasBreath (by omega) hX2 ha (fun S3 h3 => ?_))
        have h13 := h12.tr h3
        have hX3 := hX.sc h13
        have hN := hX3.1.1
        repeat (first | (refine hP _ _ _ _ _ _ ?_; show P _ _ _ _ _ _) | (refine hP _ _ _ _ _ _ (And.intro (hN _ _ _ rfl) ?_); show P _ _ (aR _ _ :: _) _ _ _))
        refine hP _ _ _ _ _ _ (And.intro (fun hc3 => ?_) (fun hc3 => ?_))
        · exact out0 S3 h13 (by simp [myN, b2_0 hc3])
        · have w3 := b2_1 hc3
          repeat (first | (refine hP _ _ _ _ _ _ ?_; show P _ _ _ _ _ _) | (refine hP _ _ _ _ _ _ (And.intro (hN _ _ _ rfl) ?_); show P _ _ (aR _ _ :: _) _ _ _))
          refine hP _ _ _ _ _ _ (n_hasBreath (by omega) hX3 hb (fun S4 h4 => ?_))
          have h14 := h13.tr h4
          repeat (first | (refine hP _ _ _ _ _ _ ?_; show P _ _ _ _ _ _) | (refine hP _ _ _ _ _ _ (And.intro (hN _ _ _ rfl) ?_); show P _ _ (aR _ _ :: _) _ _ _))
          refine hP _ _ _ _ _ _ (And.intro (fun hc4 => ?_) (fun hc4 => ?_))
          · exact out0 S4 h14 (by simp [myN, b2_0 hc4])
          · have w4 := b2_1 hc4
            repeat (first | (refine hP _ _ _ _ _ _ ?_; show P _ _ _ _ _ _) | (refine hP _ _ _ _ _ _ (And.intro (hN _ _ _ rfl) ?_); show P _ _ (aR _ _ :: _) _ _ _))
            have h := h S4 h14
            have hx : myN tv F a b = true := by simp only [myN, hor', w1, w2, w3, w4]; rfl
            rw [hx] at h
            refine hP _ _ _ _ _ _ (And.intro (Or.inr rfl) h)
  repeat (first | (refine hP _ _ _ _ _ _ ?_; show P _ _ _ _ _ _) | (refine hP _ _ _ _ _ _ (And.intro (hN _ _ _ rfl) ?_); show P _ _ (aR _ _ :: _) _ _ _))
  refine hP _ _ _ _ _ _ (n_debtOf (by omega) hX ha hb ?_)
  repeat (first | (refine hP _ _ _ _ _ _ ?_; show P _ _ _ _ _ _) | (refine hP _ _ _ _ _ _ (And.intro (hN _ _ _ rfl) ?_); show P _ _ (aR _ _ :: _) _ _ _))
  refine hP _ _ _ _ _ _ (gt0 (by omega) (fun hc => ?_) (fun hc => ?_))
  · exact mid (Or.inl hc)
  · repeat (first | (refine hP _ _ _ _ _ _ ?_; show P _ _ _ _ _ _) | (refine hP _ _ _ _ _ _ (And.intro (hN _ _ _ rfl) ?_); show P _ _ (aR _ _ :: _) _ _ _))
    refine hP _ _ _ _ _ _ (n_debtOf (by omega) hX hb ha ?_)
    repeat (first | (refine hP _ _ _ _ _ _ ?_; show P _ _ _ _ _ _) | (refine hP _ _ _ _ _ _ (And.intro (hN _ _ _ rfl) ?_); show P _ _ (aR _ _ :: _) _ _ _))
    refine hP _ _ _ _ _ _ (le0 (by omega) (fun hc2 => ?_) (fun hc2 => ?_))
    · exact out0 S (Ag.rf _ S) (by simp only [myN, decide_eq_false hc, decide_eq_false hc2]; rfl)
    · exact mid (Or.inr hc2)
