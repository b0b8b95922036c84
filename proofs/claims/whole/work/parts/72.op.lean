/-! share, chance: in lowest terms -/
theorem hlf {b r : Nat} (h0 : 0 < r) (h : r < b) : b % r ≤ b / 2 := by
  by_cases c : 2 * r ≤ b
  · have := Nat.mod_lt b h0
    omega
  · rw [Nat.mod_eq_sub_mod (by omega), Nat.mod_eq_of_lt (by omega)]
    omega
theorem gcS (d r : Nat) : Nat.gcd r (d % r) = Nat.gcd d r := by
  rw [Nat.gcd_comm d r, Nat.gcd_rec r d, Nat.gcd_comm]
def loL (a b p : Nat) : Int64 := lN ((if p = 0 then a else b) / Nat.gcd a b)
theorem nI_nz {a : Nat} (h : a < 2 ^ 31) (h0 : 0 < a) : ¬ nI a = 0 := fun z => by
  have := (nI_eq (b := 0) h (by decide)).mp z
  omega
theorem c_lowest {d a b p : Nat} {S : St} {K : KT} (hd : 1 ≤ d) (ha : a < 2 ^ 12) (hb : b < 2 ^ 12) (hb0 : 0 < b) (hp : p ≤ 1) (h : K (some (aL (loL a b p))) S) : Call d m_X5_lowest [aI (nI a), aI (nI b), aI (nI p)] S K := by
  refine Call.of (k := 0) hd (fun e he P hP => ?_)
  have hN : True := trivial
  have hG : 0 < Nat.gcd a b := Nat.gcd_pos_of_pos_right a hb0
  have hGb : Nat.gcd a b ≤ b := Nat.gcd_le_right a hb0
  have fin : ∀ t x, P 40 [some (aI (nI a)), some (aI (nI b)), some (aI (nI p)), some (aI (nI (Nat.gcd a b))), some (aI (nI 0)), some (aI (nI t)), x] [aI (nI p)] S 0 0 := by
    intro t x
    have eL : ∀ m, m < 2 ^ 12 → (nI m / nI (Nat.gcd a b)).toInt64 = lN (m / Nat.gcd a b) := by
      intro m hm
      have := Nat.div_le_self m (Nat.gcd a b)
      rw [pk_div (by omega) hG (by omega), nI_l (by omega)]
    have nz := nI_nz (a := Nat.gcd a b) (by omega) hG
    rcases (show p = 0 ∨ p = 1 by omega) with rfl | rfl
    · have e1 : loL a b 0 = lN (a / Nat.gcd a b) := by simp [loL]
      rw [e1] at h
      repeat (first | (refine hP _ _ _ _ _ _ ?_; show P _ _ _ _ _ _) | (refine hP _ _ _ _ _ _ (And.intro (hN _ _ _ rfl) ?_); show P _ _ (aR _ _ :: _) _ _ _) | refine hP _ _ _ _ _ _ (And.intro (fun _ => ?_) (fun hc => absurd hc (by decide))) | refine hP _ _ _ _ _ _ (And.intro (fun hc => absurd hc (by decide)) (fun _ => ?_)))
      refine hP _ _ _ _ _ _ (And.intro (fun _ => ?_) (fun hc => absurd hc nz))
      repeat (first | (refine hP _ _ _ _ _ _ ?_; show P _ _ _ _ _ _) | (refine hP _ _ _ _ _ _ (And.intro (hN _ _ _ rfl) ?_); show P _ _ (aR _ _ :: _) _ _ _))
      refine hP _ _ _ _ _ _ (And.intro nz ?_)
      repeat (first | (refine hP _ _ _ _ _ _ ?_; show P _ _ _ _ _ _) | (refine hP _ _ _ _ _ _ (And.intro (hN _ _ _ rfl) ?_); show P _ _ (aR _ _ :: _) _ _ _))
      rw [eL a ha]
      exact hP _ _ _ _ _ _ (h)
    · have e1 : loL a b 1 = lN (b / Nat.gcd a b) := by simp [loL]
      rw [e1] at h
      repeat (first | (refine hP _ _ _ _ _ _ ?_; show P _ _ _ _ _ _) | (refine hP _ _ _ _ _ _ (And.intro (hN _ _ _ rfl) ?_); show P _ _ (aR _ _ :: _) _ _ _) | refine hP _ _ _ _ _ _ (And.intro (fun _ => ?_) (fun hc => absurd hc (by decide))) | refine hP _ _ _ _ _ _ (And.intro (fun hc => absurd hc (by decide)) (fun _ => ?_)))
      refine hP _ _ _ _ _ _ (And.intro (fun _ => ?_) (fun hc => absurd hc nz))
      repeat (first | (refine hP _ _ _ _ _ _ ?_; show P _ _ _ _ _ _) | (refine hP _ _ _ _ _ _ (And.intro (hN _ _ _ rfl) ?_); show P _ _ (aR _ _ :: _) _ _ _))
      refine hP _ _ _ _ _ _ (And.intro nz ?_)
      repeat (first | (refine hP _ _ _ _ _ _ ?_; show P _ _ _ _ _ _) | (refine hP _ _ _ _ _ _ (And.intro (hN _ _ _ rfl) ?_); show P _ _ (aR _ _ :: _) _ _ _))
      rw [eL b hb]
      exact hP _ _ _ _ _ _ (h)
  have step : ∀ t dv r x, t < 64 → dv < 2 ^ 12 → r < 2 ^ 12 → Nat.gcd dv r = Nat.gcd a b → (0 < r → ∀ x', P 12 [some (aI (nI a)), some (aI (nI b)), some (aI (nI p)), some (aI (nI r)), some (aI (nI (dv % r))), some (aI (nI (t + 1))), x'] [aI 64, aI (nI (t + 1))] S 0 0) → P 12 [some (aI (nI a)), some (aI (nI b)), some (aI (nI p)), some (aI (nI dv)), some (aI (nI r)), some (aI (nI t)), x] [aI 64, aI (nI t)] S 0 0 := by
    intro t dv r x ht hdv hr hg hnext
    refine hP _ _ _ _ _ _ (And.intro (fun hc => absurd hc (nI_ge (b := 64) ht (by decide))) (fun _ => ?_))
    repeat (first | (refine hP _ _ _ _ _ _ ?_; show P _ _ _ _ _ _) | (refine hP _ _ _ _ _ _ (And.intro (hN _ _ _ rfl) ?_); show P _ _ (aR _ _ :: _) _ _ _))
    by_cases h0 : r = 0
    · subst h0
      rw [Nat.gcd_zero_right] at hg
      have fin := fin t x
      rw [← hg] at fin
      refine hP _ _ _ _ _ _ (And.intro (fun _ => ?_) (fun hc => absurd rfl hc))
      repeat (first | (refine hP _ _ _ _ _ _ ?_; show P _ _ _ _ _ _) | (refine hP _ _ _ _ _ _ (And.intro (hN _ _ _ rfl) ?_); show P _ _ (aR _ _ :: _) _ _ _))
      exact fin
    · have nz := nI_nz (a := r) (by omega) (by omega)
      have := hnext (by omega) (some (aI (nI (dv % r))))
      rw [nI_succ t] at this
      refine hP _ _ _ _ _ _ (And.intro (fun hc => absurd hc nz) (fun _ => ?_))
      repeat (first | (refine hP _ _ _ _ _ _ ?_; show P _ _ _ _ _ _) | (refine hP _ _ _ _ _ _ (And.intro (hN _ _ _ rfl) ?_); show P _ _ (aR _ _ :: _) _ _ _))
      refine hP _ _ _ _ _ _ (And.intro nz ?_)
      rw [pk_rem (by omega) (by omega) (by omega)]
      repeat (first | (refine hP _ _ _ _ _ _ ?_; show P _ _ _ _ _ _) | (refine hP _ _ _ _ _ _ (And.intro (hN _ _ _ rfl) ?_); show P _ _ (aR _ _ :: _) _ _ _))
      exact this
  have main : ∀ k t dv r x, 2 * k + t ≤ 62 → r < 2 ^ k → dv < 2 ^ 12 → r < 2 ^ 12 → Nat.gcd dv r = Nat.gcd a b → P 12 [some (aI (nI a)), some (aI (nI b)), some (aI (nI p)), some (aI (nI dv)), some (aI (nI r)), some (aI (nI t)), x] [aI 64, aI (nI t)] S 0 0 := by
    intro k
    induction k with
    | zero =>
      intro t dv r x ht hk hdv hr hg
      exact step t dv r x (by omega) hdv hr hg (fun z => absurd z (by omega))
    | succ k ih =>
      intro t dv r x ht hk hdv hr hg
      refine step t dv r x (by omega) hdv hr hg (fun h0 x' => ?_)
      have m1 := Nat.mod_lt dv h0
      refine step (t + 1) r (dv % r) x' (by omega) hr (by omega) (by rw [gcS]; exact hg) (fun h1 x'' => ?_)
      have m2 := hlf h1 m1
      have e2 : 2 ^ (k + 1) = 2 * 2 ^ k := by rw [Nat.pow_succ]; omega
      exact ih (t + 1 + 1) (dv % r) (r % (dv % r)) x'' (by omega) (by omega) (by omega) (by omega) (by rw [gcS, gcS]; exact hg)
  repeat (first | (refine hP _ _ _ _ _ _ ?_; show P _ _ _ _ _ _) | (refine hP _ _ _ _ _ _ (And.intro (hN _ _ _ rfl) ?_); show P _ _ (aR _ _ :: _) _ _ _))
  exact main 12 0 b a none (by omega) ha hb ha (Nat.gcd_comm b a)
theorem n_lowest {d a b p : Nat} {S : St} {K : KT} (hd : 1 ≤ d) (ha : a < 2 ^ 12) (hb : b < 2 ^ 12) (hb0 : 0 < b) (hp : p ≤ 1) (h : K (some (aL (loL a b p))) S) : Call d m_X6_lowest [aL (lN a), aL (lN b), aI (nI p)] S K := by
  refine Call.of (k := 0) hd (fun e he P hP => ?_)
  have hN : True := trivial
  have hG : 0 < Nat.gcd a b := Nat.gcd_pos_of_pos_right a hb0
  have hGb : Nat.gcd a b ≤ b := Nat.gcd_le_right a hb0
  have lz : ∀ m, m < 2 ^ 12 → 0 < m → ¬ lN m = 0 := fun m hm h0 z => by
    have := (lN_eq (b := 0) (by omega) (by decide)).mp z
    omega
  have fin : ∀ x, P 33 [some (aL (lN a)), none, some (aL (lN b)), none, some (aI (nI p)), some (aL (lN (Nat.gcd a b))), none, some (aL (lN 0)), none, x, none] [aI (nI p)] S 0 0 := by
    intro x
    have nz := lz (Nat.gcd a b) (by omega) hG
    rcases (show p = 0 ∨ p = 1 by omega) with rfl | rfl
    · have e1 : loL a b 0 = lN (a / Nat.gcd a b) := by simp [loL]
      rw [e1] at h
      repeat (first | (refine hP _ _ _ _ _ _ ?_; show P _ _ _ _ _ _) | (refine hP _ _ _ _ _ _ (And.intro (hN _ _ _ rfl) ?_); show P _ _ (aR _ _ :: _) _ _ _) | refine hP _ _ _ _ _ _ (And.intro (fun _ => ?_) (fun hc => absurd hc (by decide))) | refine hP _ _ _ _ _ _ (And.intro (fun hc => absurd hc (by decide)) (fun _ => ?_)))
      refine hP _ _ _ _ _ _ (And.intro nz ?_)
      rw [pk_lDiv (by omega) hG (by omega)]
      repeat (first | (refine hP _ _ _ _ _ _ ?_; show P _ _ _ _ _ _) | (refine hP _ _ _ _ _ _ (And.intro (hN _ _ _ rfl) ?_); show P _ _ (aR _ _ :: _) _ _ _))
      exact hP _ _ _ _ _ _ (h)
    · have e1 : loL a b 1 = lN (b / Nat.gcd a b) := by simp [loL]
      rw [e1] at h
      repeat (first | (refine hP _ _ _ _ _ _ ?_; show P _ _ _ _ _ _) | (refine hP _ _ _ _ _ _ (And.intro (hN _ _ _ rfl) ?_); show P _ _ (aR _ _ :: _) _ _ _) | refine hP _ _ _ _ _ _ (And.intro (fun _ => ?_) (fun hc => absurd hc (by decide))) | refine hP _ _ _ _ _ _ (And.intro (fun hc => absurd hc (by decide)) (fun _ => ?_)))
      refine hP _ _ _ _ _ _ (And.intro nz ?_)
      rw [pk_lDiv (by omega) hG (by omega)]
      repeat (first | (refine hP _ _ _ _ _ _ ?_; show P _ _ _ _ _ _) | (refine hP _ _ _ _ _ _ (And.intro (hN _ _ _ rfl) ?_); show P _ _ (aR _ _ :: _) _ _ _))
      exact hP _ _ _ _ _ _ (h)
  have main : ∀ r, r < 2 ^ 12 → ∀ dv x, dv < 2 ^ 12 → Nat.gcd dv r = Nat.gcd a b → P 10 [some (aL (lN a)), none, some (aL (lN b)), none, some (aI (nI p)), some (aL (lN dv)), none, some (aL (lN r)), none, x, none] [aI (lg_cmp (lN r) (Int64.ofNat 0))] S 0 0 := by
    intro r
    induction r using Nat.strongRecOn with
    | _ r ih =>
      intro hr dv x hdv hg
      by_cases h0 : r = 0
      · subst h0
        rw [Nat.gcd_zero_right] at hg
        have fin := fin x
        rw [← hg] at fin
        refine hP _ _ _ _ _ _ (And.intro (fun _ => ?_) (fun hc => absurd ((lg_cmp_eq _ _).mpr rfl) hc))
        repeat (first | (refine hP _ _ _ _ _ _ ?_; show P _ _ _ _ _ _) | (refine hP _ _ _ _ _ _ (And.intro (hN _ _ _ rfl) ?_); show P _ _ (aR _ _ :: _) _ _ _))
        exact fin
      · have nz := lz r hr (by omega)
        have m1 := Nat.mod_lt dv (show 0 < r by omega)
        have := ih (dv % r) m1 (by omega) r (some (aL (lN (dv % r)))) hr (by rw [gcS]; exact hg)
        refine hP _ _ _ _ _ _ (And.intro (fun hc => absurd ((lg_cmp_eq _ _).mp hc) nz) (fun _ => ?_))
        repeat (first | (refine hP _ _ _ _ _ _ ?_; show P _ _ _ _ _ _) | (refine hP _ _ _ _ _ _ (And.intro (hN _ _ _ rfl) ?_); show P _ _ (aR _ _ :: _) _ _ _))
        refine hP _ _ _ _ _ _ (And.intro nz ?_)
        rw [pk_lRem (by omega) (by omega) (by omega)]
        repeat (first | (refine hP _ _ _ _ _ _ ?_; show P _ _ _ _ _ _) | (refine hP _ _ _ _ _ _ (And.intro (hN _ _ _ rfl) ?_); show P _ _ (aR _ _ :: _) _ _ _))
        exact this
  repeat (first | (refine hP _ _ _ _ _ _ ?_; show P _ _ _ _ _ _) | (refine hP _ _ _ _ _ _ (And.intro (hN _ _ _ rfl) ?_); show P _ _ (aR _ _ :: _) _ _ _))
  exact main b hb a none ha rfl
def NOv : Int64 := -4611686018427387904
theorem op_share (x y : Int32) : OpA m_X5_share m_X6_share [aI x, aI y] isLo := by
  intro d S K hd hT hK
  obtain ⟨F, I, sh, T, nT, tb, hT⟩ := hT
  have hX := hT.fx
  have hM := hT.m1 (Ag.rf wTH S)
  have hn5 := hX.2.2.1
  have hA := hX.2.2.bA
  have bad : (isD F.n x = false ∨ (isD F.n x = true ∧ isD 2 y = false) ∨ (isD F.n x = true ∧ isD 2 y = true ∧ oA F = 0)) → ∀ K' d', 200 ≤ d' → K' (some (aL NOv)) S → Call d' m_X6_share [aR 40 0, aI x, aI y] S K' := by
    intro hb K' d' hd' hK'
    refine Call.of (k := 199) hd' (fun e he P hP => ?_)
    have hN := hM.1.1
    repeat (first | (refine hP _ _ _ _ _ _ ?_; show P _ _ _ _ _ _) | (refine hP _ _ _ _ _ _ (And.intro (hN _ _ _ rfl) ?_); show P _ _ (aR _ _ :: _) _ _ _))
    refine hP _ _ _ _ _ _ (n_isOne (by omega) hM.2.1.1 hn5 ?_)
    rcases hb with z | ⟨z1, z⟩ | ⟨z1, z2, z⟩
    · rw [z]
      repeat (first | (refine hP _ _ _ _ _ _ ?_; show P _ _ _ _ _ _) | (refine hP _ _ _ _ _ _ (And.intro (hN _ _ _ rfl) ?_); show P _ _ (aR _ _ :: _) _ _ _) | refine hP _ _ _ _ _ _ (And.intro (fun _ => ?_) (fun hc => absurd hc (by decide))) | refine hP _ _ _ _ _ _ (And.intro (fun hc => absurd hc (by decide)) (fun _ => ?_)))
      exact hP _ _ _ _ _ _ (hK')
    · rw [z1]
      repeat (first | (refine hP _ _ _ _ _ _ ?_; show P _ _ _ _ _ _) | (refine hP _ _ _ _ _ _ (And.intro (hN _ _ _ rfl) ?_); show P _ _ (aR _ _ :: _) _ _ _) | refine hP _ _ _ _ _ _ (And.intro (fun _ => ?_) (fun hc => absurd hc (by decide))) | refine hP _ _ _ _ _ _ (And.intro (fun hc => absurd hc (by decide)) (fun _ => ?_)))
      refine hP _ _ _ _ _ _ (n_in0 (m := 1) (by omega) (by omega) ?_)
      rw [z]
      repeat (first | (refine hP _ _ _ _ _ _ ?_; show P _ _ _ _ _ _) | (refine hP _ _ _ _ _ _ (And.intro (hN _ _ _ rfl) ?_); show P _ _ (aR _ _ :: _) _ _ _) | refine hP _ _ _ _ _ _ (And.intro (fun _ => ?_) (fun hc => absurd hc (by decide))) | refine hP _ _ _ _ _ _ (And.intro (fun hc => absurd hc (by decide)) (fun _ => ?_)))
      exact hP _ _ _ _ _ _ (hK')
    · rw [z1]
      repeat (first | (refine hP _ _ _ _ _ _ ?_; show P _ _ _ _ _ _) | (refine hP _ _ _ _ _ _ (And.intro (hN _ _ _ rfl) ?_); show P _ _ (aR _ _ :: _) _ _ _) | refine hP _ _ _ _ _ _ (And.intro (fun _ => ?_) (fun hc => absurd hc (by decide))) | refine hP _ _ _ _ _ _ (And.intro (fun hc => absurd hc (by decide)) (fun _ => ?_)))
      refine hP _ _ _ _ _ _ (n_in0 (m := 1) (by omega) (by omega) ?_)
      rw [z2]
      repeat (first | (refine hP _ _ _ _ _ _ ?_; show P _ _ _ _ _ _) | (refine hP _ _ _ _ _ _ (And.intro (hN _ _ _ rfl) ?_); show P _ _ (aR _ _ :: _) _ _ _) | refine hP _ _ _ _ _ _ (And.intro (fun _ => ?_) (fun hc => absurd hc (by decide))) | refine hP _ _ _ _ _ _ (And.intro (fun hc => absurd hc (by decide)) (fun _ => ?_)))
      refine hP _ _ _ _ _ _ (n_owedAll (by omega) hM ?_)
      repeat (first | (refine hP _ _ _ _ _ _ ?_; show P _ _ _ _ _ _) | (refine hP _ _ _ _ _ _ (And.intro (hN _ _ _ rfl) ?_); show P _ _ (aR _ _ :: _) _ _ _))
      rw [z]
      refine hP _ _ _ _ _ _ (And.intro (fun _ => ?_) (fun hc => absurd (by decide) hc))
      repeat (first | (refine hP _ _ _ _ _ _ ?_; show P _ _ _ _ _ _) | (refine hP _ _ _ _ _ _ (And.intro (hN _ _ _ rfl) ?_); show P _ _ (aR _ _ :: _) _ _ _))
      exact hP _ _ _ _ _ _ (hK')
  have fin : (isD F.n x = false ∨ (isD F.n x = true ∧ isD 2 y = false) ∨ (isD F.n x = true ∧ isD 2 y = true ∧ oA F = 0)) → K (some (aL NOv)) S := fun hb =>
    hK S _ ⟨_, rfl⟩ (by omega) (fun d' K' hd' hK' => bad hb K' d' hd' (hK' S ⟨F, I, sh, T, nT, tb, hT⟩))
  refine Call.of (k := 199) hd (fun e he P hP => ?_)
  have hN := hX.1.1
  repeat (first | (refine hP _ _ _ _ _ _ ?_; show P _ _ _ _ _ _) | (refine hP _ _ _ _ _ _ (And.intro (hN _ _ _ rfl) ?_); show P _ _ (aR _ _ :: _) _ _ _))
  refine hP _ _ _ _ _ _ (q_all (by omega) hX ?_)
  repeat (first | (refine hP _ _ _ _ _ _ ?_; show P _ _ _ _ _ _) | (refine hP _ _ _ _ _ _ (And.intro (hN _ _ _ rfl) ?_); show P _ _ (aR _ _ :: _) _ _ _))
  refine hP _ _ _ _ _ _ (c_isDancer (by omega) hN hX.2.1.1 hn5 ?_)
  cases h1 : isD F.n x with
  | false =>
    have fin := fin (Or.inl h1)
    repeat (first | (refine hP _ _ _ _ _ _ ?_; show P _ _ _ _ _ _) | (refine hP _ _ _ _ _ _ (And.intro (hN _ _ _ rfl) ?_); show P _ _ (aR _ _ :: _) _ _ _) | refine hP _ _ _ _ _ _ (And.intro (fun _ => ?_) (fun hc => absurd hc (by decide))) | refine hP _ _ _ _ _ _ (And.intro (fun hc => absurd hc (by decide)) (fun _ => ?_)))
    exact hP _ _ _ _ _ _ (fin)
  | true =>
    obtain ⟨a, ha, -, rfl⟩ := isD_of h1
    have hS := hX.2.2.bS ha
    repeat (first | (refine hP _ _ _ _ _ _ ?_; show P _ _ _ _ _ _) | (refine hP _ _ _ _ _ _ (And.intro (hN _ _ _ rfl) ?_); show P _ _ (aR _ _ :: _) _ _ _) | refine hP _ _ _ _ _ _ (And.intro (fun _ => ?_) (fun hc => absurd hc (by decide))) | refine hP _ _ _ _ _ _ (And.intro (fun hc => absurd hc (by decide)) (fun _ => ?_)))
    rcases rng (x := y) (n := 2) (by omega) with ⟨hf, h0 | ⟨h0, h2⟩⟩ | ⟨k, hk, hf, rfl⟩
    · have fin := fin (Or.inr (Or.inl ⟨h1, hf⟩))
      refine hP _ _ _ _ _ _ (And.intro (fun _ => ?_) (fun hc => absurd h0 hc))
      repeat (first | (refine hP _ _ _ _ _ _ ?_; show P _ _ _ _ _ _) | (refine hP _ _ _ _ _ _ (And.intro (hN _ _ _ rfl) ?_); show P _ _ (aR _ _ :: _) _ _ _))
      exact hP _ _ _ _ _ _ (fin)
    · have fin := fin (Or.inr (Or.inl ⟨h1, hf⟩))
      refine hP _ _ _ _ _ _ (And.intro (fun hc => absurd hc h0) (fun _ => ?_))
      repeat (first | (refine hP _ _ _ _ _ _ ?_; show P _ _ _ _ _ _) | (refine hP _ _ _ _ _ _ (And.intro (hN _ _ _ rfl) ?_); show P _ _ (aR _ _ :: _) _ _ _))
      refine hP _ _ _ _ _ _ (And.intro (fun _ => ?_) (fun hc => absurd (gtK h2 (by decide)) hc))
      repeat (first | (refine hP _ _ _ _ _ _ ?_; show P _ _ _ _ _ _) | (refine hP _ _ _ _ _ _ (And.intro (hN _ _ _ rfl) ?_); show P _ _ (aR _ _ :: _) _ _ _))
      exact hP _ _ _ _ _ _ (fin)
    · refine hP _ _ _ _ _ _ (And.intro (fun hc => absurd hc (nI_pos (by omega))) (fun _ => ?_))
      repeat (first | (refine hP _ _ _ _ _ _ ?_; show P _ _ _ _ _ _) | (refine hP _ _ _ _ _ _ (And.intro (hN _ _ _ rfl) ?_); show P _ _ (aR _ _ :: _) _ _ _))
      refine hP _ _ _ _ _ _ (And.intro (fun hc => absurd hc (nI_nlt (a := 1) (b := k) (by omega) (by decide))) (fun _ => ?_))
      repeat (first | (refine hP _ _ _ _ _ _ ?_; show P _ _ _ _ _ _) | (refine hP _ _ _ _ _ _ (And.intro (hN _ _ _ rfl) ?_); show P _ _ (aR _ _ :: _) _ _ _))
      refine hP _ _ _ _ _ _ (And.intro (fun hc => ?_) (fun hc => ?_))
      · have hA0 : ¬ oA F = 0 := fun z => hc (by rw [z]; rfl)
        repeat (first | (refine hP _ _ _ _ _ _ ?_; show P _ _ _ _ _ _) | (refine hP _ _ _ _ _ _ (And.intro (hN _ _ _ rfl) ?_); show P _ _ (aR _ _ :: _) _ _ _))
        refine hP _ _ _ _ _ _ (q_owes (by omega) hX ha ?_)
        repeat (first | (refine hP _ _ _ _ _ _ ?_; show P _ _ _ _ _ _) | (refine hP _ _ _ _ _ _ (And.intro (hN _ _ _ rfl) ?_); show P _ _ (aR _ _ :: _) _ _ _))
        refine hP _ _ _ _ _ _ (c_lowest (by omega) (a := oS F a) (b := oA F) (by omega) (by omega) (by omega) (by omega) ?_)
        repeat (first | (refine hP _ _ _ _ _ _ ?_; show P _ _ _ _ _ _) | (refine hP _ _ _ _ _ _ (And.intro (hN _ _ _ rfl) ?_); show P _ _ (aR _ _ :: _) _ _ _))
        refine hP _ _ _ _ _ _ (hK S _ ⟨_, rfl⟩ (by omega) (fun d' K' hd' hK' => ?_))
        have hK' := hK' S ⟨F, I, sh, T, nT, tb, hT⟩
        refine Call.of (k := 199) hd' (fun e he P hP => ?_)
        have hN := hM.1.1
        repeat (first | (refine hP _ _ _ _ _ _ ?_; show P _ _ _ _ _ _) | (refine hP _ _ _ _ _ _ (And.intro (hN _ _ _ rfl) ?_); show P _ _ (aR _ _ :: _) _ _ _))
        refine hP _ _ _ _ _ _ (n_isOne (by omega) hM.2.1.1 hn5 ?_)
        rw [h1]
        repeat (first | (refine hP _ _ _ _ _ _ ?_; show P _ _ _ _ _ _) | (refine hP _ _ _ _ _ _ (And.intro (hN _ _ _ rfl) ?_); show P _ _ (aR _ _ :: _) _ _ _) | refine hP _ _ _ _ _ _ (And.intro (fun _ => ?_) (fun hc => absurd hc (by decide))) | refine hP _ _ _ _ _ _ (And.intro (fun hc => absurd hc (by decide)) (fun _ => ?_)))
        refine hP _ _ _ _ _ _ (n_in0 (m := 1) (by omega) (by omega) ?_)
        rw [hf]
        repeat (first | (refine hP _ _ _ _ _ _ ?_; show P _ _ _ _ _ _) | (refine hP _ _ _ _ _ _ (And.intro (hN _ _ _ rfl) ?_); show P _ _ (aR _ _ :: _) _ _ _) | refine hP _ _ _ _ _ _ (And.intro (fun _ => ?_) (fun hc => absurd hc (by decide))) | refine hP _ _ _ _ _ _ (And.intro (fun hc => absurd hc (by decide)) (fun _ => ?_)))
        refine hP _ _ _ _ _ _ (n_owedAll (by omega) hM ?_)
        repeat (first | (refine hP _ _ _ _ _ _ ?_; show P _ _ _ _ _ _) | (refine hP _ _ _ _ _ _ (And.intro (hN _ _ _ rfl) ?_); show P _ _ (aR _ _ :: _) _ _ _))
        refine hP _ _ _ _ _ _ (And.intro (fun hc => absurd hc (nI_nle (show 0 < oA F by omega) (by omega))) (fun _ => ?_))
        repeat (first | (refine hP _ _ _ _ _ _ ?_; show P _ _ _ _ _ _) | (refine hP _ _ _ _ _ _ (And.intro (hN _ _ _ rfl) ?_); show P _ _ (aR _ _ :: _) _ _ _))
        refine hP _ _ _ _ _ _ (n_owesOf (by omega) hM ha ?_)
        repeat (first | (refine hP _ _ _ _ _ _ ?_; show P _ _ _ _ _ _) | (refine hP _ _ _ _ _ _ (And.intro (hN _ _ _ rfl) ?_); show P _ _ (aR _ _ :: _) _ _ _))
        refine hP _ _ _ _ _ _ (n_owedAll (by omega) hM ?_)
        repeat (first | (refine hP _ _ _ _ _ _ ?_; show P _ _ _ _ _ _) | (refine hP _ _ _ _ _ _ (And.intro (hN _ _ _ rfl) ?_); show P _ _ (aR _ _ :: _) _ _ _))
        rw [nI_l (by omega), nI_l (by omega)]
        refine hP _ _ _ _ _ _ (n_lowest (by omega) (a := oS F a) (b := oA F) (by omega) (by omega) (by omega) (by omega) ?_)
        repeat (first | (refine hP _ _ _ _ _ _ ?_; show P _ _ _ _ _ _) | (refine hP _ _ _ _ _ _ (And.intro (hN _ _ _ rfl) ?_); show P _ _ (aR _ _ :: _) _ _ _))
        exact hP _ _ _ _ _ _ (hK')
      · have hA0 : oA F = 0 := (nI_eq (b := 0) (by omega) (by decide)).mp hc
        have fin := fin (Or.inr (Or.inr ⟨h1, hf, hA0⟩))
        repeat (first | (refine hP _ _ _ _ _ _ ?_; show P _ _ _ _ _ _) | (refine hP _ _ _ _ _ _ (And.intro (hN _ _ _ rfl) ?_); show P _ _ (aR _ _ :: _) _ _ _))
        exact hP _ _ _ _ _ _ (fin)
theorem n_in1 {d m : Nat} {S : St} {K : KT} {x : Int32} (hd : 1 ≤ d) (hm : m < 2 ^ 30) (h : K (some (aI (b2 (isD (m + 1) x && decide (¬ x = 0))))) S) : Call d m_X6_in [aL x.toInt64, aL (Int64.ofNat 1), aL (lN m)] S K := by
  refine n_in hd ?_
  have e : (decide (Int64.ofNat 1 ≤ x.toInt64) && decide (x.toInt64 ≤ lN m)) = (isD (m + 1) x && decide (¬ x = 0)) := by
    have h1 : (Int64.ofNat 1 ≤ x.toInt64) ↔ 1 ≤ x.toInt := by
      rw [Int64.le_iff_toInt_le, Int32.toInt_toInt64]
      rfl
    have h2 : (x.toInt64 ≤ lN m) ↔ x.toInt ≤ (m : Int) := by
      rw [Int64.le_iff_toInt_le, Int32.toInt_toInt64, lN_toInt (by omega)]
    have h3 : (0 ≤ x) ↔ 0 ≤ x.toInt := by
      rw [Int32.le_iff_toInt_le]
      rfl
    have h4 : (x < nI (m + 1)) ↔ x.toInt < ((m + 1 : Nat) : Int) := by
      rw [Int32.lt_iff_toInt_lt, nI_toInt (by omega)]
    have h5 : (x = 0) ↔ x.toInt = 0 := by
      rw [← Int32.toInt_inj]
      rfl
    rw [Bool.eq_iff_iff]
    simp only [Bool.and_eq_true, decide_eq_true_eq, isD, h1, h2, h3, h4, h5]
    omega
  rw [e]
  exact h
def chB (tv : TV) (F : Fl) (seed : Int32) (kk t : Nat) : Bool := decide ((if enN tv (drF F (seed + nI t)) = -1 then 61 else enN tv (drF F (seed + nI t))) ≤ nI kk)
def chN (tv : TV) (F : Fl) (seed : Int32) (kk : Nat) : Nat → Nat := sN (fun t => if chB tv F seed kk t = true then 1 else 0)
theorem chN_le (tv : TV) (F : Fl) (seed : Int32) (kk : Nat) : ∀ t, chN tv F seed kk t ≤ t := fun t => by
  have := sN_le (f := fun t => if chB tv F seed kk t = true then 1 else 0) (m := 1) (n := t) (fun i _ => by split <;> omega)
  unfold chN
  omega
theorem wTH_ok : okW wTH := by
  intro j g k hj
  simp only [wTH] at hj
  omega
theorem wTH_F : okF wTH 0 := by
  intro j k hj
  simp only [wTH] at hj
  omega
theorem c_chance {tv : TV} {nT d m kk p : Nat} {S : St} {K : KT} {F : Fl} {seed : Int32} (hd : 100 ≤ d) (hX : FX tv nT S 0 F) (hm1 : 1 ≤ m) (hm : m ≤ 10) (hk : kk ≤ 61) (hp : p ≤ 1) (h : ∀ S', Ag wTH S S' → K (some (aL (loL (chN tv F seed kk m) m p))) S') : Call d m_X5_chance [aR 0 0, aI seed, aI (nI m), aI (nI kk), aI (nI p)] S K := by
  refine Call.of (k := 99) hd (fun e he P hP => ?_)
  have hN := hX.1.1
  repeat (first | (refine hP _ _ _ _ _ _ ?_; show P _ _ _ _ _ _) | (refine hP _ _ _ _ _ _ (And.intro (hN _ _ _ rfl) ?_); show P _ _ (aR _ _ :: _) _ _ _))
  refine hP _ _ _ _ _ _ (And.intro (fun hc => absurd hc (nI_nlt (a := m) (b := 1) hm1 (by omega))) (fun _ => ?_))
  repeat (first | (refine hP _ _ _ _ _ _ ?_; show P _ _ _ _ _ _) | (refine hP _ _ _ _ _ _ (And.intro (hN _ _ _ rfl) ?_); show P _ _ (aR _ _ :: _) _ _ _))
  refine hP _ _ _ _ _ _ (And.intro (fun hc => absurd hc (nI_nlt (a := 10) (b := m) hm (by omega))) (fun _ => ?_))
  repeat (first | (refine hP _ _ _ _ _ _ ?_; show P _ _ _ _ _ _) | (refine hP _ _ _ _ _ _ (And.intro (hN _ _ _ rfl) ?_); show P _ _ (aR _ _ :: _) _ _ _))
  refine hP _ _ _ _ _ _ (And.intro (fun hc => absurd hc (nI_pos (by omega))) (fun _ => ?_))
  repeat (first | (refine hP _ _ _ _ _ _ ?_; show P _ _ _ _ _ _) | (refine hP _ _ _ _ _ _ (And.intro (hN _ _ _ rfl) ?_); show P _ _ (aR _ _ :: _) _ _ _))
  refine hP _ _ _ _ _ _ (And.intro (fun hc => absurd hc (nI_nlt (a := 61) (b := kk) hk (by omega))) (fun _ => ?_))
  repeat (first | (refine hP _ _ _ _ _ _ ?_; show P _ _ _ _ _ _) | (refine hP _ _ _ _ _ _ (And.intro (hN _ _ _ rfl) ?_); show P _ _ (aR _ _ :: _) _ _ _))
  refine hP _ _ _ _ _ _ (And.intro (fun hc => absurd hc (nI_pos (by omega))) (fun _ => ?_))
  repeat (first | (refine hP _ _ _ _ _ _ ?_; show P _ _ _ _ _ _) | (refine hP _ _ _ _ _ _ (And.intro (hN _ _ _ rfl) ?_); show P _ _ (aR _ _ :: _) _ _ _))
  refine hP _ _ _ _ _ _ (And.intro (fun _ => ?_) (fun hc => absurd (nI_le (a := p) (b := 1) hp (by omega)) hc))
  have loop : ∀ t, t ≤ m → ∀ S1 x7 x8, Ag wTH S S1 → P 45 [some (aR 0 0), some (aI seed), some (aI (nI m)), some (aI (nI kk)), some (aI (nI p)), some (aI (nI (chN tv F seed kk t))), some (aI (nI t)), x7, x8] [aI (nI m), aI (nI t)] S1 0 0 := by
    refine dn ?_ ?_
    · intro S1 x7 x8 g1
      have h := h S1 g1
      have hc := chN_le tv F seed kk m
      refine hP _ _ _ _ _ _ (And.intro (fun _ => ?_) (fun hc => absurd (nI_le (Nat.le_refl m) (by omega)) hc))
      repeat (first | (refine hP _ _ _ _ _ _ ?_; show P _ _ _ _ _ _) | (refine hP _ _ _ _ _ _ (And.intro (hN _ _ _ rfl) ?_); show P _ _ (aR _ _ :: _) _ _ _))
      refine hP _ _ _ _ _ _ (c_lowest (by omega) (by omega) (by omega) (by omega) hp ?_)
      repeat (first | (refine hP _ _ _ _ _ _ ?_; show P _ _ _ _ _ _) | (refine hP _ _ _ _ _ _ (And.intro (hN _ _ _ rfl) ?_); show P _ _ (aR _ _ :: _) _ _ _))
      exact hP _ _ _ _ _ _ (h)
    · intro t ht ih S1 x7 x8 g1
      have hX1 := hX.up g1 wTH_ok wTH_F
      have hN := hX1.1.1
      rw [nI_succ t] at ih
      refine hP _ _ _ _ _ _ (And.intro (fun hc => absurd hc (nI_ge ht (by omega))) (fun _ => ?_))
      repeat (first | (refine hP _ _ _ _ _ _ ?_; show P _ _ _ _ _ _) | (refine hP _ _ _ _ _ _ (And.intro (hN _ _ _ rfl) ?_); show P _ _ (aR _ _ :: _) _ _ _))
      refine hP _ _ _ _ _ _ (q_think (by omega) hX1 (fun S2 g2 hX2 => ?_))
      have hN := hX2.1.1
      repeat (first | (refine hP _ _ _ _ _ _ ?_; show P _ _ _ _ _ _) | (refine hP _ _ _ _ _ _ (And.intro (hN _ _ _ rfl) ?_); show P _ _ (aR _ _ :: _) _ _ _))
      refine hP _ _ _ _ _ _ (q_draw (by omega) hX2 (fun S3 g3 hX3 => ?_))
      have hN := hX3.1.1
      repeat (first | (refine hP _ _ _ _ _ _ ?_; show P _ _ _ _ _ _) | (refine hP _ _ _ _ _ _ (And.intro (hN _ _ _ rfl) ?_); show P _ _ (aR _ _ :: _) _ _ _))
      refine hP _ _ _ _ _ _ (q_ends (by omega) hX3 (fun S4 g4 => ?_))
      have hN := hX3.1.1.up g4
      have g14 := g1.tr (((g2.mono (wTk_th (by omega))).tr (g3.mono (wDr_th (by omega)))).tr (g4.mono (wR_th (by omega))))
      have yes : chB tv F seed kk t = true → ∀ x7 x8, P 45 [some (aR 0 0), some (aI seed), some (aI (nI m)), some (aI (nI kk)), some (aI (nI p)), some (aI (nI (chN tv F seed kk t) + 1)), some (aI (nI t + 1)), x7, x8] [aI (nI m), aI (nI t + 1)] S4 0 0 := by
        intro hb x7 x8
        have := ih S4 x7 x8 g14
        rw [show chN tv F seed kk (t + 1) = chN tv F seed kk t + 1 from by simp [chN, sN, hb], nI_succ] at this
        exact this
      have no : chB tv F seed kk t = false → ∀ x7 x8, P 45 [some (aR 0 0), some (aI seed), some (aI (nI m)), some (aI (nI kk)), some (aI (nI p)), some (aI (nI (chN tv F seed kk t))), some (aI (nI t + 1)), x7, x8] [aI (nI m), aI (nI t + 1)] S4 0 0 := by
        intro hb x7 x8
        have := ih S4 x7 x8 g14
        rw [show chN tv F seed kk (t + 1) = chN tv F seed kk t from by simp [chN, sN, hb]] at this
        exact this
      repeat (first | (refine hP _ _ _ _ _ _ ?_; show P _ _ _ _ _ _) | (refine hP _ _ _ _ _ _ (And.intro (hN _ _ _ rfl) ?_); show P _ _ (aR _ _ :: _) _ _ _))
      refine hP _ _ _ _ _ _ (And.intro (fun hc => ?_) (fun hc => ?_))
      · repeat (first | (refine hP _ _ _ _ _ _ ?_; show P _ _ _ _ _ _) | (refine hP _ _ _ _ _ _ (And.intro (hN _ _ _ rfl) ?_); show P _ _ (aR _ _ :: _) _ _ _))
        refine hP _ _ _ _ _ _ (And.intro (fun hg => ?_) (fun hg => ?_))
        · have hb : chB tv F seed kk t = false := by
            unfold chB
            rw [if_neg hc]
            exact decide_eq_false (Int32.not_le.mpr hg)
          repeat (first | (refine hP _ _ _ _ _ _ ?_; show P _ _ _ _ _ _) | (refine hP _ _ _ _ _ _ (And.intro (hN _ _ _ rfl) ?_); show P _ _ (aR _ _ :: _) _ _ _))
          exact no hb _ _
        · have hb : chB tv F seed kk t = true := by
            unfold chB
            rw [if_neg hc]
            exact decide_eq_true (Int32.not_lt.mp hg)
          repeat (first | (refine hP _ _ _ _ _ _ ?_; show P _ _ _ _ _ _) | (refine hP _ _ _ _ _ _ (And.intro (hN _ _ _ rfl) ?_); show P _ _ (aR _ _ :: _) _ _ _))
          exact yes hb _ _
      · repeat (first | (refine hP _ _ _ _ _ _ ?_; show P _ _ _ _ _ _) | (refine hP _ _ _ _ _ _ (And.intro (hN _ _ _ rfl) ?_); show P _ _ (aR _ _ :: _) _ _ _))
        refine hP _ _ _ _ _ _ (And.intro (fun hg => ?_) (fun hg => ?_))
        · have hb : chB tv F seed kk t = false := by
            unfold chB
            rw [if_pos hc]
            exact decide_eq_false (Int32.not_le.mpr hg)
          repeat (first | (refine hP _ _ _ _ _ _ ?_; show P _ _ _ _ _ _) | (refine hP _ _ _ _ _ _ (And.intro (hN _ _ _ rfl) ?_); show P _ _ (aR _ _ :: _) _ _ _))
          exact no hb _ _
        · have hb : chB tv F seed kk t = true := by
            unfold chB
            rw [if_pos hc]
            exact decide_eq_true (Int32.not_lt.mp hg)
          repeat (first | (refine hP _ _ _ _ _ _ ?_; show P _ _ _ _ _ _) | (refine hP _ _ _ _ _ _ (And.intro (hN _ _ _ rfl) ?_); show P _ _ (aR _ _ :: _) _ _ _))
          exact yes hb _ _
  repeat (first | (refine hP _ _ _ _ _ _ ?_; show P _ _ _ _ _ _) | (refine hP _ _ _ _ _ _ (And.intro (hN _ _ _ rfl) ?_); show P _ _ (aR _ _ :: _) _ _ _))
  exact loop 0 (by omega) S none none (Ag.rf _ _)
theorem n_chance {tv : TV} {nT d m kk p : Nat} {S : St} {K : KT} {F : Fl} {seed : Int32} (hd : 150 ≤ d) (hX : MX tv nT S F) (hm1 : 1 ≤ m) (hm : m ≤ 10) (hk : kk ≤ 61) (hp : p ≤ 1) (h : ∀ S', Ag mTh S S' → K (some (aL (loL (chN tv F seed kk m) m p))) S') : Call d m_X6_chance [aR 40 0, aI seed, aI (nI m), aI (nI kk), aI (nI p)] S K := by
  refine Call.of (k := 149) hd (fun e he P hP => ?_)
  have hN := hX.1.1
  have m0' : ¬ nI m = 0 := nI_nz (by omega) (by omega)
  have loop : ∀ t, t ≤ m → ∀ S1 x8, Ag mTh S S1 → P 48 [some (aR 40 0), some (aI seed), some (aI (nI m)), some (aI (nI kk)), some (aI (nI p)), some (aL (lN (chN tv F seed kk t))), none, some (aI (nI t)), x8] [aI (nI m), aI (nI t)] S1 0 0 := by
    refine dn ?_ ?_
    · intro S1 x8 g1
      have h := h S1 g1
      have hc := chN_le tv F seed kk m
      refine hP _ _ _ _ _ _ (And.intro (fun _ => ?_) (fun hc => absurd (nI_le (Nat.le_refl m) (by omega)) hc))
      repeat (first | (refine hP _ _ _ _ _ _ ?_; show P _ _ _ _ _ _) | (refine hP _ _ _ _ _ _ (And.intro (hN _ _ _ rfl) ?_); show P _ _ (aR _ _ :: _) _ _ _))
      rw [nI_l (by omega)]
      refine hP _ _ _ _ _ _ (n_lowest (by omega) (by omega) (by omega) (by omega) hp ?_)
      repeat (first | (refine hP _ _ _ _ _ _ ?_; show P _ _ _ _ _ _) | (refine hP _ _ _ _ _ _ (And.intro (hN _ _ _ rfl) ?_); show P _ _ (aR _ _ :: _) _ _ _))
      exact hP _ _ _ _ _ _ (h)
    · intro t ht ih S1 x8 g1
      have hX1 := hX.th g1
      have hN := hX1.1.1
      rw [nI_succ t] at ih
      refine hP _ _ _ _ _ _ (And.intro (fun hc => absurd hc (nI_ge ht (by omega))) (fun _ => ?_))
      repeat (first | (refine hP _ _ _ _ _ _ ?_; show P _ _ _ _ _ _) | (refine hP _ _ _ _ _ _ (And.intro (hN _ _ _ rfl) ?_); show P _ _ (aR _ _ :: _) _ _ _))
      refine hP _ _ _ _ _ _ (n_endsDrawn (by omega) hX1 (fun S2 g2 => ?_))
      have hN := hX1.1.1.up g2
      have g12 := g1.tr g2
      have yes : chB tv F seed kk t = true → ∀ x8, P 48 [some (aR 40 0), some (aI seed), some (aI (nI m)), some (aI (nI kk)), some (aI (nI p)), some (aL (lN (chN tv F seed kk t) + Int64.ofNat 1)), none, some (aI (nI t + 1)), x8] [aI (nI m), aI (nI t + 1)] S2 0 0 := by
        intro hb x8
        have := ih S2 x8 g12
        rw [show chN tv F seed kk (t + 1) = chN tv F seed kk t + 1 from by simp [chN, sN, hb], ← lN_add] at this
        exact this
      have no : chB tv F seed kk t = false → ∀ x8, P 48 [some (aR 40 0), some (aI seed), some (aI (nI m)), some (aI (nI kk)), some (aI (nI p)), some (aL (lN (chN tv F seed kk t) + Int64.ofNat 0)), none, some (aI (nI t + 1)), x8] [aI (nI m), aI (nI t + 1)] S2 0 0 := by
        intro hb x8
        have := ih S2 x8 g12
        rw [show chN tv F seed kk (t + 1) = chN tv F seed kk t + 0 from by simp [chN, sN, hb], ← lN_add] at this
        exact this
      repeat (first | (refine hP _ _ _ _ _ _ ?_; show P _ _ _ _ _ _) | (refine hP _ _ _ _ _ _ (And.intro (hN _ _ _ rfl) ?_); show P _ _ (aR _ _ :: _) _ _ _))
      refine hP _ _ _ _ _ _ (And.intro (fun hc => ?_) (fun hc => ?_))
      · repeat (first | (refine hP _ _ _ _ _ _ ?_; show P _ _ _ _ _ _) | (refine hP _ _ _ _ _ _ (And.intro (hN _ _ _ rfl) ?_); show P _ _ (aR _ _ :: _) _ _ _))
        refine hP _ _ _ _ _ _ (And.intro (fun hg => ?_) (fun hg => ?_))
        · have hb : chB tv F seed kk t = false := by
            unfold chB
            rw [if_neg hc]
            exact decide_eq_false (Int32.not_le.mpr hg)
          repeat (first | (refine hP _ _ _ _ _ _ ?_; show P _ _ _ _ _ _) | (refine hP _ _ _ _ _ _ (And.intro (hN _ _ _ rfl) ?_); show P _ _ (aR _ _ :: _) _ _ _))
          exact no hb _
        · have hb : chB tv F seed kk t = true := by
            unfold chB
            rw [if_neg hc]
            exact decide_eq_true (Int32.not_lt.mp hg)
          repeat (first | (refine hP _ _ _ _ _ _ ?_; show P _ _ _ _ _ _) | (refine hP _ _ _ _ _ _ (And.intro (hN _ _ _ rfl) ?_); show P _ _ (aR _ _ :: _) _ _ _))
          exact yes hb _
      · repeat (first | (refine hP _ _ _ _ _ _ ?_; show P _ _ _ _ _ _) | (refine hP _ _ _ _ _ _ (And.intro (hN _ _ _ rfl) ?_); show P _ _ (aR _ _ :: _) _ _ _))
        refine hP _ _ _ _ _ _ (And.intro (fun hg => ?_) (fun hg => ?_))
        · have hb : chB tv F seed kk t = false := by
            unfold chB
            rw [if_pos hc]
            exact decide_eq_false (Int32.not_le.mpr hg)
          repeat (first | (refine hP _ _ _ _ _ _ ?_; show P _ _ _ _ _ _) | (refine hP _ _ _ _ _ _ (And.intro (hN _ _ _ rfl) ?_); show P _ _ (aR _ _ :: _) _ _ _))
          exact no hb _
        · have hb : chB tv F seed kk t = true := by
            unfold chB
            rw [if_pos hc]
            exact decide_eq_true (Int32.not_lt.mp hg)
          repeat (first | (refine hP _ _ _ _ _ _ ?_; show P _ _ _ _ _ _) | (refine hP _ _ _ _ _ _ (And.intro (hN _ _ _ rfl) ?_); show P _ _ (aR _ _ :: _) _ _ _))
          exact yes hb _
  repeat (first | (refine hP _ _ _ _ _ _ ?_; show P _ _ _ _ _ _) | (refine hP _ _ _ _ _ _ (And.intro (hN _ _ _ rfl) ?_); show P _ _ (aR _ _ :: _) _ _ _))
  refine hP _ _ _ _ _ _ (n_in1 (m := 10) (by omega) (by omega) ?_)
  rw [isD_N (by omega) (by omega), decide_eq_true (by omega), decide_eq_true m0']
  repeat (first | (refine hP _ _ _ _ _ _ ?_; show P _ _ _ _ _ _) | (refine hP _ _ _ _ _ _ (And.intro (hN _ _ _ rfl) ?_); show P _ _ (aR _ _ :: _) _ _ _) | refine hP _ _ _ _ _ _ (And.intro (fun _ => ?_) (fun hc => absurd hc (by decide))) | refine hP _ _ _ _ _ _ (And.intro (fun hc => absurd hc (by decide)) (fun _ => ?_)))
  refine hP _ _ _ _ _ _ (n_in0 (m := 61) (by omega) (by omega) ?_)
  rw [isD_N (by omega) (by omega), decide_eq_true (by omega)]
  repeat (first | (refine hP _ _ _ _ _ _ ?_; show P _ _ _ _ _ _) | (refine hP _ _ _ _ _ _ (And.intro (hN _ _ _ rfl) ?_); show P _ _ (aR _ _ :: _) _ _ _) | refine hP _ _ _ _ _ _ (And.intro (fun _ => ?_) (fun hc => absurd hc (by decide))) | refine hP _ _ _ _ _ _ (And.intro (fun hc => absurd hc (by decide)) (fun _ => ?_)))
  refine hP _ _ _ _ _ _ (n_in0 (m := 1) (by omega) (by omega) ?_)
  rw [isD_N (by omega) (by omega), decide_eq_true (by omega)]
  repeat (first | (refine hP _ _ _ _ _ _ ?_; show P _ _ _ _ _ _) | (refine hP _ _ _ _ _ _ (And.intro (hN _ _ _ rfl) ?_); show P _ _ (aR _ _ :: _) _ _ _) | refine hP _ _ _ _ _ _ (And.intro (fun _ => ?_) (fun hc => absurd hc (by decide))) | refine hP _ _ _ _ _ _ (And.intro (fun hc => absurd hc (by decide)) (fun _ => ?_)))
  exact loop 0 (by omega) S none (Ag.rf _ _)
def cnB (m k p : Int32) : Prop := (isD 11 m && decide (¬ m = 0)) = false ∨ ((isD 11 m && decide (¬ m = 0)) = true ∧ isD 62 k = false) ∨ ((isD 11 m && decide (¬ m = 0)) = true ∧ isD 62 k = true ∧ isD 2 p = false)
theorem n_chance_bad {d : Nat} {S : St} {K : KT} {s m k p : Int32} (hd : 150 ≤ d) (hb : cnB m k p) (h : K (some (aL NOv)) S) : Call d m_X6_chance [aR 40 0, aI s, aI m, aI k, aI p] S K := by
  refine Call.of (k := 149) hd (fun e he P hP => ?_)
  have hN : True := trivial
  repeat (first | (refine hP _ _ _ _ _ _ ?_; show P _ _ _ _ _ _) | refine hP _ _ _ _ _ _ (And.intro (hN _ _ _ rfl) ?_))
  refine hP _ _ _ _ _ _ (n_in1 (m := 10) (by omega) (by omega) ?_)
  rcases hb with z | ⟨z1, z⟩ | ⟨z1, z2, z⟩
  · rw [z]
    repeat (first | (refine hP _ _ _ _ _ _ ?_; show P _ _ _ _ _ _) | (refine hP _ _ _ _ _ _ (And.intro (hN _ _ _ rfl) ?_); show P _ _ (aR _ _ :: _) _ _ _) | refine hP _ _ _ _ _ _ (And.intro (fun _ => ?_) (fun hc => absurd hc (by decide))) | refine hP _ _ _ _ _ _ (And.intro (fun hc => absurd hc (by decide)) (fun _ => ?_)))
    exact hP _ _ _ _ _ _ (h)
  · rw [z1]
    repeat (first | (refine hP _ _ _ _ _ _ ?_; show P _ _ _ _ _ _) | (refine hP _ _ _ _ _ _ (And.intro (hN _ _ _ rfl) ?_); show P _ _ (aR _ _ :: _) _ _ _) | refine hP _ _ _ _ _ _ (And.intro (fun _ => ?_) (fun hc => absurd hc (by decide))) | refine hP _ _ _ _ _ _ (And.intro (fun hc => absurd hc (by decide)) (fun _ => ?_)))
    refine hP _ _ _ _ _ _ (n_in0 (m := 61) (by omega) (by omega) ?_)
    rw [z]
    repeat (first | (refine hP _ _ _ _ _ _ ?_; show P _ _ _ _ _ _) | (refine hP _ _ _ _ _ _ (And.intro (hN _ _ _ rfl) ?_); show P _ _ (aR _ _ :: _) _ _ _) | refine hP _ _ _ _ _ _ (And.intro (fun _ => ?_) (fun hc => absurd hc (by decide))) | refine hP _ _ _ _ _ _ (And.intro (fun hc => absurd hc (by decide)) (fun _ => ?_)))
    exact hP _ _ _ _ _ _ (h)
  · rw [z1]
    repeat (first | (refine hP _ _ _ _ _ _ ?_; show P _ _ _ _ _ _) | (refine hP _ _ _ _ _ _ (And.intro (hN _ _ _ rfl) ?_); show P _ _ (aR _ _ :: _) _ _ _) | refine hP _ _ _ _ _ _ (And.intro (fun _ => ?_) (fun hc => absurd hc (by decide))) | refine hP _ _ _ _ _ _ (And.intro (fun hc => absurd hc (by decide)) (fun _ => ?_)))
    refine hP _ _ _ _ _ _ (n_in0 (m := 61) (by omega) (by omega) ?_)
    rw [z2]
    repeat (first | (refine hP _ _ _ _ _ _ ?_; show P _ _ _ _ _ _) | (refine hP _ _ _ _ _ _ (And.intro (hN _ _ _ rfl) ?_); show P _ _ (aR _ _ :: _) _ _ _) | refine hP _ _ _ _ _ _ (And.intro (fun _ => ?_) (fun hc => absurd hc (by decide))) | refine hP _ _ _ _ _ _ (And.intro (fun hc => absurd hc (by decide)) (fun _ => ?_)))
    refine hP _ _ _ _ _ _ (n_in0 (m := 1) (by omega) (by omega) ?_)
    rw [z]
    repeat (first | (refine hP _ _ _ _ _ _ ?_; show P _ _ _ _ _ _) | (refine hP _ _ _ _ _ _ (And.intro (hN _ _ _ rfl) ?_); show P _ _ (aR _ _ :: _) _ _ _) | refine hP _ _ _ _ _ _ (And.intro (fun _ => ?_) (fun hc => absurd hc (by decide))) | refine hP _ _ _ _ _ _ (And.intro (fun hc => absurd hc (by decide)) (fun _ => ?_)))
    exact hP _ _ _ _ _ _ (h)
theorem c_chance_bad {d : Nat} {S : St} {K : KT} {s m k p : Int32} (hd : 150 ≤ d) (hb : cnB m k p) (h : K (some (aL NOv)) S) : Call d m_X5_chance [aR 0 0, aI s, aI m, aI k, aI p] S K := by
  refine Call.of (k := 149) hd (fun e he P hP => ?_)
  have hN : True := trivial
  repeat (first | (refine hP _ _ _ _ _ _ ?_; show P _ _ _ _ _ _) | refine hP _ _ _ _ _ _ (And.intro (hN _ _ _ rfl) ?_))
  rcases rng (x := m) (n := 11) (by omega) with ⟨hf, h0 | ⟨h0, h1⟩⟩ | ⟨a, ha, hf, rfl⟩
  · have lt1 : m < 1 := by
      rw [Int32.lt_iff_toInt_lt] at h0 ⊢
      have e1 : (1 : Int32).toInt = 1 := by decide
      have e0 : (0 : Int32).toInt = 0 := by decide
      omega
    refine hP _ _ _ _ _ _ (And.intro (fun _ => ?_) (fun hc => absurd lt1 hc))
    repeat (first | (refine hP _ _ _ _ _ _ ?_; show P _ _ _ _ _ _) | refine hP _ _ _ _ _ _ (And.intro (hN _ _ _ rfl) ?_))
    exact hP _ _ _ _ _ _ (h)
  · have ge1 : ¬ m < 1 := by
      rw [Int32.lt_iff_toInt_lt] at h0 ⊢
      rw [Int32.le_iff_toInt_le, nI_toInt (by omega)] at h1
      have e1 : (1 : Int32).toInt = 1 := by decide
      omega
    refine hP _ _ _ _ _ _ (And.intro (fun hc => absurd hc ge1) (fun _ => ?_))
    repeat (first | (refine hP _ _ _ _ _ _ ?_; show P _ _ _ _ _ _) | refine hP _ _ _ _ _ _ (And.intro (hN _ _ _ rfl) ?_))
    refine hP _ _ _ _ _ _ (And.intro (fun _ => ?_) (fun hc => absurd (gtK h1 (by decide)) hc))
    repeat (first | (refine hP _ _ _ _ _ _ ?_; show P _ _ _ _ _ _) | refine hP _ _ _ _ _ _ (And.intro (hN _ _ _ rfl) ?_))
    exact hP _ _ _ _ _ _ (h)
  · by_cases ha0 : a = 0
    · subst ha0
      refine hP _ _ _ _ _ _ (And.intro (fun _ => ?_) (fun hc => absurd (by decide) hc))
      repeat (first | (refine hP _ _ _ _ _ _ ?_; show P _ _ _ _ _ _) | refine hP _ _ _ _ _ _ (And.intro (hN _ _ _ rfl) ?_))
      exact hP _ _ _ _ _ _ (h)
    · have hb1 : (isD 11 (nI a) && decide (¬ nI a = 0)) = true := by
        rw [hf, decide_eq_true (nI_nz (by omega) (by omega))]
        rfl
      have hb : isD 62 k = false ∨ (isD 62 k = true ∧ isD 2 p = false) := by
        rcases hb with z | ⟨_, z⟩ | ⟨_, z⟩
        · rw [hb1] at z
          cases z
        · exact Or.inl z
        · exact Or.inr z
      refine hP _ _ _ _ _ _ (And.intro (fun hc => absurd hc (nI_nlt (a := a) (b := 1) (by omega) (by omega))) (fun _ => ?_))
      repeat (first | (refine hP _ _ _ _ _ _ ?_; show P _ _ _ _ _ _) | refine hP _ _ _ _ _ _ (And.intro (hN _ _ _ rfl) ?_))
      refine hP _ _ _ _ _ _ (And.intro (fun hc => absurd hc (nI_nlt (a := 10) (b := a) (by omega) (by omega))) (fun _ => ?_))
      repeat (first | (refine hP _ _ _ _ _ _ ?_; show P _ _ _ _ _ _) | refine hP _ _ _ _ _ _ (And.intro (hN _ _ _ rfl) ?_))
      rcases rng (x := k) (n := 62) (by omega) with ⟨hf2, h0 | ⟨h0, h1⟩⟩ | ⟨u, hu, hf2, rfl⟩
      · refine hP _ _ _ _ _ _ (And.intro (fun _ => ?_) (fun hc => absurd h0 hc))
        repeat (first | (refine hP _ _ _ _ _ _ ?_; show P _ _ _ _ _ _) | refine hP _ _ _ _ _ _ (And.intro (hN _ _ _ rfl) ?_))
        exact hP _ _ _ _ _ _ (h)
      · refine hP _ _ _ _ _ _ (And.intro (fun hc => absurd hc h0) (fun _ => ?_))
        repeat (first | (refine hP _ _ _ _ _ _ ?_; show P _ _ _ _ _ _) | refine hP _ _ _ _ _ _ (And.intro (hN _ _ _ rfl) ?_))
        refine hP _ _ _ _ _ _ (And.intro (fun _ => ?_) (fun hc => absurd (gtK h1 (by decide)) hc))
        repeat (first | (refine hP _ _ _ _ _ _ ?_; show P _ _ _ _ _ _) | refine hP _ _ _ _ _ _ (And.intro (hN _ _ _ rfl) ?_))
        exact hP _ _ _ _ _ _ (h)
      · rw [hf2] at hb
        obtain ⟨_, hb⟩ := hb.resolve_left (by decide)
        refine hP _ _ _ _ _ _ (And.intro (fun hc => absurd hc (nI_pos (by omega))) (fun _ => ?_))
        repeat (first | (refine hP _ _ _ _ _ _ ?_; show P _ _ _ _ _ _) | refine hP _ _ _ _ _ _ (And.intro (hN _ _ _ rfl) ?_))
        refine hP _ _ _ _ _ _ (And.intro (fun hc => absurd hc (nI_nlt (a := 61) (b := u) (by omega) (by omega))) (fun _ => ?_))
        repeat (first | (refine hP _ _ _ _ _ _ ?_; show P _ _ _ _ _ _) | refine hP _ _ _ _ _ _ (And.intro (hN _ _ _ rfl) ?_))
        rcases rng (x := p) (n := 2) (by omega) with ⟨hf3, h0 | ⟨h0, h1⟩⟩ | ⟨v, hv, hf3, rfl⟩
        · refine hP _ _ _ _ _ _ (And.intro (fun _ => ?_) (fun hc => absurd h0 hc))
          repeat (first | (refine hP _ _ _ _ _ _ ?_; show P _ _ _ _ _ _) | refine hP _ _ _ _ _ _ (And.intro (hN _ _ _ rfl) ?_))
          exact hP _ _ _ _ _ _ (h)
        · refine hP _ _ _ _ _ _ (And.intro (fun hc => absurd hc h0) (fun _ => ?_))
          repeat (first | (refine hP _ _ _ _ _ _ ?_; show P _ _ _ _ _ _) | refine hP _ _ _ _ _ _ (And.intro (hN _ _ _ rfl) ?_))
          refine hP _ _ _ _ _ _ (And.intro (fun hc => absurd (Int32.le_trans h1 hc) (nI_ge (a := 1) (b := 2) (by decide) (by decide))) (fun _ => ?_))
          repeat (first | (refine hP _ _ _ _ _ _ ?_; show P _ _ _ _ _ _) | refine hP _ _ _ _ _ _ (And.intro (hN _ _ _ rfl) ?_))
          exact hP _ _ _ _ _ _ (h)
        · rw [hf3] at hb
          cases hb
theorem op_chance (s m k p : Int32) : OpA m_X5_chance m_X6_chance [aI s, aI m, aI k, aI p] isLo := by
  intro d S K hd hT hK
  obtain ⟨F, I, sh, T, nT, tb, hT⟩ := hT
  have hX := hT.fx
  have bad : cnB m k p → Call d m_X5_chance [aR 0 0, aI s, aI m, aI k, aI p] S K := fun hb =>
    c_chance_bad (by omega) hb (hK S _ ⟨_, rfl⟩ (by omega) (fun d' K' hd' hK' => n_chance_bad (by omega) hb (hK' S ⟨F, I, sh, T, nT, tb, hT⟩)))
  cases h1 : (isD 11 m && decide (¬ m = 0)) with
  | false => exact bad (Or.inl h1)
  | true =>
    cases h2 : isD 62 k with
    | false => exact bad (Or.inr (Or.inl ⟨h1, h2⟩))
    | true =>
      cases h3 : isD 2 p with
      | false => exact bad (Or.inr (Or.inr ⟨h1, h2, h3⟩))
      | true =>
        simp only [Bool.and_eq_true, decide_eq_true_eq] at h1
        obtain ⟨a, ha, -, rfl⟩ := isD_of h1.1
        obtain ⟨b, hb, -, rfl⟩ := isD_of h2
        obtain ⟨c, hc, -, rfl⟩ := isD_of h3
        have ha0 : 1 ≤ a := by
          rcases Nat.eq_zero_or_pos a with z | z
          · exact absurd (by rw [z]; rfl) h1.2
          · exact z
        exact c_chance (by omega) hX ha0 (by omega) (by omega) (by omega) (fun S1 g1 => hK S1 _ ⟨_, rfl⟩ (by rw [g1.2]; omega) (fun d' K' hd' hK' => n_chance (by omega) (hT.m1 g1) ha0 (by omega) (by omega) (by omega) (fun S2 g2 => hK' S2 ⟨F, I, sh, T, nT, tb, hT.th2 g1 g2⟩)))
