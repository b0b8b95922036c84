/-! Rings -/
/-- the most of the first so many, and of i -/
def mxN (g : Nat → Nat) : Nat → Nat → Nat
  | 0, i => i
  | n + 1, i => if mxN g n i < g n then g n else mxN g n i
theorem mxN_0 {g : Nat → Nat} {i : Nat} : ∀ {n : Nat}, (∀ k, k < n → g k = 0) → mxN g n i = i
  | 0, _ => rfl
  | n + 1, h => by
    simp only [mxN]
    rw [mxN_0 (fun k hk => h k (by omega)), h n (by omega), if_neg (by omega)]
theorem mxN_le {g : Nat → Nat} {i m : Nat} (hi : i ≤ m) : ∀ {n : Nat}, (∀ k, k < n → g k ≤ m) → mxN g n i ≤ m
  | 0, _ => hi
  | n + 1, h => by
    simp only [mxN]
    split
    · exact h n (by omega)
    · exact mxN_le hi (fun k hk => h k (by omega))
theorem mxN_ge {g : Nat → Nat} {i : Nat} : ∀ {n : Nat}, i ≤ mxN g n i ∧ ∀ k, k < n → g k ≤ mxN g n i
  | 0 => ⟨Nat.le_refl _, fun k hk => by omega⟩
  | n + 1 => by
    have h := mxN_ge (g := g) (i := i) (n := n)
    simp only [mxN]
    split
    · rename_i hc
      refine ⟨by omega, fun k hk => ?_⟩
      by_cases e : k = n
      · rw [e]
        omega
      · have := h.2 k (by omega)
        omega
    · rename_i hc
      refine ⟨h.1, fun k hk => ?_⟩
      by_cases e : k = n
      · rw [e]
        omega
      · exact h.2 k (by omega)
theorem mxN_at {g : Nat → Nat} {i : Nat} : ∀ {n : Nat}, mxN g n i = i ∨ ∃ k, k < n ∧ mxN g n i = g k
  | 0 => Or.inl rfl
  | n + 1 => by
    simp only [mxN]
    split
    · exact Or.inr ⟨n, by omega, rfl⟩
    · rcases mxN_at (g := g) (i := i) (n := n) with h | ⟨k, hk, h⟩
      · exact Or.inl h
      · exact Or.inr ⟨k, by omega, h⟩
theorem mxN_congr {g h : Nat → Nat} {i : Nat} : ∀ {n : Nat}, (∀ k, k < n → g k = h k) → mxN g n i = mxN h n i
  | 0, _ => rfl
  | n + 1, e => by
    simp only [mxN]
    rw [mxN_congr (fun k hk => e k (by omega)), e n (by omega)]
def lgB (F : Fl) (first at' len : Nat) : Nat := if 1 < len ∧ 0 < F.ow at' first then len else 0
def lgC (F : Fl) (first : Nat) : Nat → Nat → Nat → Nat
  | 0, at', _ => lgB F first at' 5
  | j + 1, at', m => mxN (fun nx => if first < nx ∧ m.testBit nx = false ∧ 0 < F.ow at' nx then lgC F first j nx (m ||| 2 ^ nx) else 0) F.n (lgB F first at' (4 - j))
theorem lgB_le {F : Fl} {first at' len : Nat} (h : len ≤ 5) : lgB F first at' len ≤ 5 := by
  unfold lgB
  split <;> omega
theorem lgC_le (F : Fl) (first : Nat) : ∀ j, ∀ at' m, lgC F first j at' m ≤ 5
  | 0, _, _ => lgB_le (Nat.le_refl _)
  | j + 1, at', m => by
    unfold lgC
    refine mxN_le (lgB_le (by omega)) (fun k _ => ?_)
    split
    · exact lgC_le F first j _ _
    · omega
theorem bit5 : ∀ m, m < 32 → ∀ x, x < 5 → (((nI m >>> (nI x &&& 31)) &&& 1 = 0) ↔ m.testBit x = false) := by
  have h : ∀ m, m < 32 → ∀ x, x < 5 → decide ((nI m >>> (nI x &&& 31)) &&& 1 = 0) = !(m.testBit x) := by decide +kernel
  intro m hm x hx
  have := h m hm x hx
  constructor
  · intro z
    rw [decide_eq_true z] at this
    simpa using this.symm
  · intro z
    rw [z] at this
    simpa using this
theorem set5 : ∀ m, m < 32 → ∀ x, x < 5 → (nI m ||| ((1 : Int32) <<< (nI x &&& 31))) = nI (m ||| 2 ^ x) ∧ m ||| 2 ^ x < 32 := by
  have h : ∀ m, m < 32 → ∀ x, x < 5 → (decide ((nI m ||| ((1 : Int32) <<< (nI x &&& 31))) = nI (m ||| 2 ^ x)) && decide (m ||| 2 ^ x < 32)) = true := by decide +kernel
  intro m hm x hx
  have := h m hm x hx
  simpa using this
theorem one5 : ∀ x, x < 5 → ((1 : Int32) <<< (nI x &&& 31)) = nI (2 ^ x) ∧ 2 ^ x < 32 := by decide +kernel
theorem nmx {a b : Nat} (ha : a < 2 ^ 31) (hb : b < 2 ^ 31) : (if nI a < nI b then nI b else nI a) = nI (if a < b then b else a) := by
  by_cases h : a < b
  · rw [if_pos h, if_pos (nI_lt h hb)]
  · rw [if_neg h, if_neg (nI_nlt (by omega) ha)]
theorem geI {x y : Nat} (hx : x < 2 ^ 31) (hy : y < 2 ^ 31) {A B : Prop} (h1 : y ≤ x → A) (h2 : ¬ y ≤ x → B) : (nI y ≤ nI x → A) ∧ (¬ nI y ≤ nI x → B) :=
  ⟨fun hc => h1 ((nI_leI hy hx).mp hc), fun hc => h2 (fun z => hc ((nI_leI hy hx).mpr z))⟩
theorem q_longest {tv : TV} {nT f first : Nat} {F : Fl} (hf : first < F.n) : ∀ (j : Nat) {d : Nat} {S : St} {K : KT} {at' m : Nat}, j + 2 ≤ d → FX tv nT S f F → j ≤ 4 → at' < F.n → m < 32 → K (some (aI (nI (lgC F first j at' m)))) S → Call d m_X0_longest [aR 10 f, aI (nI first), aI (nI at'), aI (nI m), aI (nI (5 - j))] S K := by
  intro j
  induction j with
  | zero =>
    intro d S K at' m hd hX hj ha hm h
    refine Call.of (k := 1) hd (fun e he P hP => ?_)
    have hN := hX.1.1
    have hn5 := hX.2.2.1
    have o1 := hX.2.2.ow ha hf
    have base : ∀ v, v = lgB F first at' 5 → P 34 [some (aR 10 f), some (aI (nI first)), some (aI (nI at')), some (aI (nI m)), some (aI (nI 5)), some (aI (nI v)), some (aI (nI (first + 1)))] [aI (S.1 10 f 1), aI (nI (first + 1))] S 0 0 := by
      intro v hv
      have h : K (some (aI (nI (lgB F first at' 5)))) S := h
      rw [← hv] at h
      rw [hX.2.1.1]
      refine hP _ _ _ _ _ _ (geI (by omega) (by omega) (fun hc => ?_) (fun hc => ?_))
      · repeat (first | (refine hP _ _ _ _ _ _ ?_; show P _ _ _ _ _ _) | (refine hP _ _ _ _ _ _ (And.intro (hN _ _ _ rfl) ?_); show P _ _ (aR _ _ :: _) _ _ _))
        exact hP _ _ _ _ _ _ (h)
      · repeat (first | (refine hP _ _ _ _ _ _ ?_; show P _ _ _ _ _ _) | (refine hP _ _ _ _ _ _ (And.intro (hN _ _ _ rfl) ?_); show P _ _ (aR _ _ :: _) _ _ _))
        refine hP _ _ _ _ _ _ (And.intro (fun _ => ?_) (fun hc => absurd (nI_le (Nat.le_refl 5) (by decide)) hc))
        repeat (first | (refine hP _ _ _ _ _ _ ?_; show P _ _ _ _ _ _) | (refine hP _ _ _ _ _ _ (And.intro (hN _ _ _ rfl) ?_); show P _ _ (aR _ _ :: _) _ _ _))
        exact hP _ _ _ _ _ _ (h)
    repeat (first | (refine hP _ _ _ _ _ _ ?_; show P _ _ _ _ _ _) | (refine hP _ _ _ _ _ _ (And.intro (hN _ _ _ rfl) ?_); show P _ _ (aR _ _ :: _) _ _ _))
    refine hP _ _ _ _ _ _ (And.intro (fun hc => absurd hc (nI_ge (a := 1) (b := 5) (by decide) (by decide))) (fun _ => ?_))
    repeat (first | (refine hP _ _ _ _ _ _ ?_; show P _ _ _ _ _ _) | (refine hP _ _ _ _ _ _ (And.intro (hN _ _ _ rfl) ?_); show P _ _ (aR _ _ :: _) _ _ _))
    refine hP _ _ _ _ _ _ (q_owing (by omega) hX ha hf ?_)
    repeat (first | (refine hP _ _ _ _ _ _ ?_; show P _ _ _ _ _ _) | (refine hP _ _ _ _ _ _ (And.intro (hN _ _ _ rfl) ?_); show P _ _ (aR _ _ :: _) _ _ _))
    refine hP _ _ _ _ _ _ (le0 (by omega) (fun hc => ?_) (fun hc => ?_))
    · repeat (first | (refine hP _ _ _ _ _ _ ?_; show P _ _ _ _ _ _) | (refine hP _ _ _ _ _ _ (And.intro (hN _ _ _ rfl) ?_); show P _ _ (aR _ _ :: _) _ _ _))
      rw [nI_1]
      exact base 0 (by unfold lgB; rw [if_neg (fun z => hc z.2)])
    · repeat (first | (refine hP _ _ _ _ _ _ ?_; show P _ _ _ _ _ _) | (refine hP _ _ _ _ _ _ (And.intro (hN _ _ _ rfl) ?_); show P _ _ (aR _ _ :: _) _ _ _))
      rw [nI_1]
      exact base 5 (by unfold lgB; rw [if_pos ⟨by omega, hc⟩])
  | succ j ihj =>
    intro d S K at' m hd hX hj ha hm h
    refine Call.of (k := j + 2) (by omega) (fun e he P hP => ?_)
    have hN := hX.1.1
    have hn5 := hX.2.2.1
    have o1 := hX.2.2.ow ha hf
    rw [show 5 - (j + 1) = 4 - j by omega]
    unfold lgC at h
    generalize hg : (fun nx => if first < nx ∧ m.testBit nx = false ∧ 0 < F.ow at' nx then lgC F first j nx (m ||| 2 ^ nx) else 0) = g at h
    have hgv : ∀ k, g k = if first < k ∧ m.testBit k = false ∧ 0 < F.ow at' k then lgC F first j k (m ||| 2 ^ k) else 0 := fun k => by rw [← hg]
    have hgle : ∀ k, g k ≤ 5 := fun k => by
      rw [hgv]
      split
      · exact lgC_le _ _ _ _ _
      · omega
    have hmle : ∀ k, mxN g k (lgB F first at' (4 - j)) ≤ 5 := fun k => mxN_le (lgB_le (by omega)) (fun i _ => hgle i)
    have loop : ∀ k, k ≤ F.n → (first < k → P 34 [some (aR 10 f), some (aI (nI first)), some (aI (nI at')), some (aI (nI m)), some (aI (nI (4 - j))), some (aI (nI (mxN g k (lgB F first at' (4 - j))))), some (aI (nI k))] [aI (S.1 10 f 1), aI (nI k)] S 0 0) := by
      refine dn ?_ ?_
      · intro _
        rw [hX.2.1.1]
        refine hP _ _ _ _ _ _ (And.intro (fun _ => ?_) (fun hc => absurd (nI_le (Nat.le_refl _) (by omega)) hc))
        repeat (first | (refine hP _ _ _ _ _ _ ?_; show P _ _ _ _ _ _) | (refine hP _ _ _ _ _ _ (And.intro (hN _ _ _ rfl) ?_); show P _ _ (aR _ _ :: _) _ _ _))
        exact hP _ _ _ _ _ _ (h)
      · intro k hk ih hlt
        have ih := ih (by omega)
        rw [nI_succ] at ih
        have o2 := hX.2.2.ow ha hk
        have hge := hgv k
        obtain ⟨s1, s2⟩ := set5 m hm k (by omega)
        have skip : g k = 0 → P 86 [some (aR 10 f), some (aI (nI first)), some (aI (nI at')), some (aI (nI m)), some (aI (nI (4 - j))), some (aI (nI (mxN g k (lgB F first at' (4 - j))))), some (aI (nI k))] [] S 0 0 := by
          intro h0
          have e : mxN g (k + 1) (lgB F first at' (4 - j)) = mxN g k (lgB F first at' (4 - j)) := by
            simp only [mxN, h0]
            rw [if_neg (by omega)]
          rw [e] at ih
          repeat (first | (refine hP _ _ _ _ _ _ ?_; show P _ _ _ _ _ _) | (refine hP _ _ _ _ _ _ (And.intro (hN _ _ _ rfl) ?_); show P _ _ (aR _ _ :: _) _ _ _))
          exact ih
        rw [hX.2.1.1]
        refine hP _ _ _ _ _ _ (And.intro (fun hc => absurd hc (nI_ge hk (by omega))) (fun _ => ?_))
        repeat (first | (refine hP _ _ _ _ _ _ ?_; show P _ _ _ _ _ _) | (refine hP _ _ _ _ _ _ (And.intro (hN _ _ _ rfl) ?_); show P _ _ (aR _ _ :: _) _ _ _))
        refine hP _ _ _ _ _ _ (And.intro (fun hc => absurd hc (nI_ge (a := 4 - j) (b := 5) (by omega) (by omega))) (fun _ => ?_))
        repeat (first | (refine hP _ _ _ _ _ _ ?_; show P _ _ _ _ _ _) | (refine hP _ _ _ _ _ _ (And.intro (hN _ _ _ rfl) ?_); show P _ _ (aR _ _ :: _) _ _ _))
        refine hP _ _ _ _ _ _ (And.intro (fun hc => ?_) (fun hc => ?_))
        · refine skip ?_
          rw [hge, if_neg]
          rintro ⟨-, z, -⟩
          exact hc ((bit5 m hm k (by omega)).mpr z)
        · have hb := (bit5 m hm k (by omega)).mp hc
          repeat (first | (refine hP _ _ _ _ _ _ ?_; show P _ _ _ _ _ _) | (refine hP _ _ _ _ _ _ (And.intro (hN _ _ _ rfl) ?_); show P _ _ (aR _ _ :: _) _ _ _))
          refine hP _ _ _ _ _ _ (q_owing (by omega) hX ha hk ?_)
          repeat (first | (refine hP _ _ _ _ _ _ ?_; show P _ _ _ _ _ _) | (refine hP _ _ _ _ _ _ (And.intro (hN _ _ _ rfl) ?_); show P _ _ (aR _ _ :: _) _ _ _))
          refine hP _ _ _ _ _ _ (le0 (by omega) (fun hc2 => ?_) (fun hc2 => ?_))
          · refine skip ?_
            rw [hge, if_neg]
            rintro ⟨-, -, z⟩
            exact hc2 z
          · rw [if_pos ⟨hlt, hb, hc2⟩] at hge
            repeat (first | (refine hP _ _ _ _ _ _ ?_; show P _ _ _ _ _ _) | (refine hP _ _ _ _ _ _ (And.intro (hN _ _ _ rfl) ?_); show P _ _ (aR _ _ :: _) _ _ _))
            rw [s1, nI_1, show 4 - j + 1 = 5 - j by omega]
            refine hP _ _ _ _ _ _ (ihj (by omega) hX (by omega) hk s2 ?_)
            repeat (first | (refine hP _ _ _ _ _ _ ?_; show P _ _ _ _ _ _) | (refine hP _ _ _ _ _ _ (And.intro (hN _ _ _ rfl) ?_); show P _ _ (aR _ _ :: _) _ _ _))
            have l1 := hmle k
            have l2 := hgle k
            rw [← hge, nmx (by omega) (by omega)]
            exact ih
    have base : ∀ v, v = lgB F first at' (4 - j) → P 34 [some (aR 10 f), some (aI (nI first)), some (aI (nI at')), some (aI (nI m)), some (aI (nI (4 - j))), some (aI (nI v)), some (aI (nI (first + 1)))] [aI (S.1 10 f 1), aI (nI (first + 1))] S 0 0 := by
      intro v hv
      have := loop (first + 1) hf (by omega)
      rw [mxN_0 (fun k hk => by rw [hgv, if_neg (fun z => by omega)]), ← hv] at this
      exact this
    repeat (first | (refine hP _ _ _ _ _ _ ?_; show P _ _ _ _ _ _) | (refine hP _ _ _ _ _ _ (And.intro (hN _ _ _ rfl) ?_); show P _ _ (aR _ _ :: _) _ _ _))
    refine hP _ _ _ _ _ _ (gtI (x := 4 - j) (y := 1) (by omega) (by omega) (fun hc => ?_) (fun hc => ?_))
    · repeat (first | (refine hP _ _ _ _ _ _ ?_; show P _ _ _ _ _ _) | (refine hP _ _ _ _ _ _ (And.intro (hN _ _ _ rfl) ?_); show P _ _ (aR _ _ :: _) _ _ _))
      rw [nI_1]
      exact base 0 (by unfold lgB; rw [if_neg (fun z => hc z.1)])
    · repeat (first | (refine hP _ _ _ _ _ _ ?_; show P _ _ _ _ _ _) | (refine hP _ _ _ _ _ _ (And.intro (hN _ _ _ rfl) ?_); show P _ _ (aR _ _ :: _) _ _ _))
      refine hP _ _ _ _ _ _ (q_owing (by omega) hX ha hf ?_)
      repeat (first | (refine hP _ _ _ _ _ _ ?_; show P _ _ _ _ _ _) | (refine hP _ _ _ _ _ _ (And.intro (hN _ _ _ rfl) ?_); show P _ _ (aR _ _ :: _) _ _ _))
      refine hP _ _ _ _ _ _ (le0 (by omega) (fun hc2 => ?_) (fun hc2 => ?_))
      · repeat (first | (refine hP _ _ _ _ _ _ ?_; show P _ _ _ _ _ _) | (refine hP _ _ _ _ _ _ (And.intro (hN _ _ _ rfl) ?_); show P _ _ (aR _ _ :: _) _ _ _))
        rw [nI_1]
        exact base 0 (by unfold lgB; rw [if_neg (fun z => hc2 z.2)])
      · repeat (first | (refine hP _ _ _ _ _ _ ?_; show P _ _ _ _ _ _) | (refine hP _ _ _ _ _ _ (And.intro (hN _ _ _ rfl) ?_); show P _ _ (aR _ _ :: _) _ _ _))
        rw [nI_1]
        exact base (4 - j) (by unfold lgB; rw [if_pos ⟨hc, hc2⟩])
def rgN (F : Fl) : Nat := mxN (fun p => lgC F p 4 p (2 ^ p)) F.n 0
theorem q_ring {tv : TV} {nT d : Nat} {S : St} {K : KT} {f : Nat} {F : Fl} (hd : 7 ≤ d) (hX : FX tv nT S f F) (h : K (some (aI (nI (rgN F)))) S) : Call d m_X0_ring [aR 10 f] S K := by
  refine Call.of (k := 6) hd (fun e he P hP => ?_)
  have hN := hX.1.1
  have hn5 := hX.2.2.1
  have loop : ∀ k, k ≤ F.n → P 9 [some (aR 10 f), some (aI (nI (mxN (fun p => lgC F p 4 p (2 ^ p)) k 0))), some (aI (nI k))] [aI (S.1 10 f 1), aI (nI k)] S 0 0 := by
    refine dn ?_ ?_
    · rw [hX.2.1.1]
      refine hP _ _ _ _ _ _ (And.intro (fun _ => ?_) (fun hc => absurd (nI_le (Nat.le_refl _) (by omega)) hc))
      repeat (first | (refine hP _ _ _ _ _ _ ?_; show P _ _ _ _ _ _) | (refine hP _ _ _ _ _ _ (And.intro (hN _ _ _ rfl) ?_); show P _ _ (aR _ _ :: _) _ _ _))
      exact hP _ _ _ _ _ _ (h)
    · intro k hk ih
      rw [nI_succ] at ih
      obtain ⟨s1, s2⟩ := one5 k (by omega)
      have l1 := lgC_le F k 4 k (2 ^ k)
      have l2 : mxN (fun p => lgC F p 4 p (2 ^ p)) k 0 ≤ 5 := mxN_le (by omega) (fun i _ => lgC_le F i 4 i (2 ^ i))
      rw [hX.2.1.1]
      refine hP _ _ _ _ _ _ (And.intro (fun hc => absurd hc (nI_ge hk (by omega))) (fun _ => ?_))
      repeat (first | (refine hP _ _ _ _ _ _ ?_; show P _ _ _ _ _ _) | (refine hP _ _ _ _ _ _ (And.intro (hN _ _ _ rfl) ?_); show P _ _ (aR _ _ :: _) _ _ _))
      rw [s1]
      refine hP _ _ _ _ _ _ (q_longest hk 4 (by omega) hX (by omega) hk s2 ?_)
      repeat (first | (refine hP _ _ _ _ _ _ ?_; show P _ _ _ _ _ _) | (refine hP _ _ _ _ _ _ (And.intro (hN _ _ _ rfl) ?_); show P _ _ (aR _ _ :: _) _ _ _))
      rw [nmx (by omega) (by omega)]
      exact ih
  repeat (first | (refine hP _ _ _ _ _ _ ?_; show P _ _ _ _ _ _) | (refine hP _ _ _ _ _ _ (And.intro (hN _ _ _ rfl) ?_); show P _ _ (aR _ _ :: _) _ _ _))
  exact loop 0 (by omega)
