/-! what stands behind both constructors -/
def F00 : Fl := mkF 0 0 0 0 (fun _ => 0) (fun _ => 0) (fun _ => 0) (fun _ _ => 0)
theorem law_TT {S0 S1 S2 : St} (z0 : ∀ j g k, j < 60 → S0.1 j g k = 0) (n0 : ∀ j g k, S0.2.2.1 j g k = true) (sta : STA S0) (hc : S2.2.2.2.2 = 77) (e1 : Ev wCC (mkC S0 0 0 0) S1) (a0 : NJ 0 0 S1) (a6 : NJ 6 0 S1) (a7 : NJ 7 0 S1) (a18 : NJ 18 0 S1) (a10 : ∀ g, g < 5 → NJ 10 g S1) (a20 : ∀ g, g < 4 → NJ 20 g S1 ∧ S1.1 20 g 0 = -1) (r : rl0 S1) (e2 : Ev wMM (mkC S1 40 0 0) S2) (m : ml0 S2) : TTx S2 := by
  have f : Ev wMM S1 S2 := (Ev.mk (fun _ => by simp [wMM]) Ev.rf).tr e2
  have zero : ∀ j g k, j < 60 → ¬ nzW j g k → S2.1 j g k = 0 := fun j g k hj hz => f.2.1 j g k hz (e1.2.1 j g k hz ((Ev.mk (W := fun _ _ _ => True) (fun _ => trivial) Ev.rf : Ev (fun _ _ _ => True) S0 (mkC S0 0 0 0)).2.1 j g k hz (z0 j g k hj)))
  have keepS : ∀ j k, 60 ≤ j → S2.1 j 0 k = S0.1 j 0 k := fun j k hj => by
    rw [(f.1 j 0 k (fun z => by simp only [wMM] at z; omega)).1, (e1.1 j 0 k (fun z => by simp only [wCC] at z; omega)).1]
    show (if j = 0 ∧ 0 = 0 then (0 : Int32) else S0.1 j 0 k) = _
    rw [if_neg (by omega)]
  have keepC : ∀ j g k, j < 40 → S2.1 j g k = S1.1 j g k := fun j g k hj => (f.1 j g k (fun z => by simp only [wMM] at z; omega)).1
  have hN : NN S2 := by
    intro j g k h
    by_cases c : wMM j g k
    · obtain ⟨rfl, c1, c2⟩ := c
      have : j = 40 := by
        have := nnrj h
        omega
      subst this
      exact m.1 k h
    · refine (f.1 j g k c).2 ?_
      by_cases c2 : wCC j g k
      · rcases nnrj h with rfl | rfl | rfl | rfl | rfl | rfl | rfl | rfl | rfl
        · have : g = 0 := by simp only [wCC] at c2; omega
          subst this
          exact a0 k h
        · have : g = 0 := by simp only [wCC] at c2; omega
          subst this
          exact r.1 k h
        · have : g = 0 := by simp only [wCC] at c2; omega
          subst this
          exact a6 k h
        · have : g = 0 := by simp only [wCC] at c2; omega
          subst this
          exact a7 k h
        · exact a10 g (by simp only [wCC] at c2; omega) k h
        · have : g = 0 := by simp only [wCC] at c2; omega
          subst this
          exact a18 k h
        · exact (a20 g (by simp only [wCC] at c2; omega)).1 k h
        · have : g = 0 := by simp only [wCC] at c2; omega
          subst this
          exact r.2.1 k h
        · simp only [wCC] at c2
          omega
      · exact (e1.1 j g k c2).2 (nn_mk (fun z => c2 (by simp only [wCC]; omega)) (n0 j g k))
  obtain ⟨k1, k2, k3⟩ := tx0_ck
  obtain ⟨r1, r2, r3, r4, r5, ⟨r6, r7, r8⟩, r9, r10, r11⟩ := r
  obtain ⟨m1, m2, m3, m4, m5, m6⟩ := m
  have tx : TXC S2 1 (fun _ => tx0) := by
    refine ⟨Nat.le_refl 1, by omega, ?_, fun t ht => ?_⟩
    · rw [keepC 1 0 1 (by omega), r5]
      rfl
    · obtain rfl : t = 0 := by omega
      refine ⟨k1, (f.1 3 0 0 (by simp [wMM])).2 r3, ?_, ?_, fun k hk => ?_, fun p hp => ?_⟩
      · rw [f.2.2.2 0 (by simp [wMM]), k2]
        exact r4
      · rw [k2]
        decide
      · rw [k2] at hk ⊢
        have hk : k < 3 := hk
        rw [keepC 31 0 k (by omega)]
        rcases (show k = 0 ∨ k = 1 ∨ k = 2 by omega) with rfl | rfl | rfl
        · exact r6
        · exact r7
        · exact r8
      · rw [keepC 32 0 p (by omega)]
        rcases (show p = 0 ∨ p = 1 ∨ p = 2 by omega) with rfl | rfl | rfl
        · rw [k3.1]; exact r9
        · rw [k3.2.1]; exact r10
        · rw [k3.2.2]; exact r11
  have st : STA S2 := ⟨fun k hk => by rw [keepS 61 k (by omega), keepS 62 k (by omega)]; exact sta.1 k hk, fun k hk => by rw [keepS 63 k (by omega)]; exact sta.2.1 k hk, fun k hk => by rw [keepS 64 k (by omega)]; exact sta.2.2.1 k hk, fun k hk => by rw [keepS 65 k (by omega)]; exact sta.2.2.2 k hk⟩
  have zz : ∀ j g k, j < 60 → (j = 0 ∨ j = 7 ∨ (10 ≤ j ∧ j ≤ 14) ∨ (j = 20 ∧ k = 1) ∨ (j = 40 ∧ ¬ (k = 3 ∨ k = 37)) ∨ j = 55) → S2.1 j g k = 0 := fun j g k hj h => zero j g k hj (fun z => by simp only [nzW] at z; omega)
  have hF : HF S2 0 F00 := ⟨zz 10 0 1 (by omega) (by omega), zz 10 0 2 (by omega) (by omega), zz 10 0 3 (by omega) (by omega), zz 10 0 4 (by omega) (by omega), fun a ha => absurd ha (Nat.not_lt_zero a), fun a b ha => absurd ha (Nat.not_lt_zero a)⟩
  have hM : HM S2 F00 := ⟨zz 40 0 12 (by omega) (by omega), zz 40 0 7 (by omega) (by omega), zz 40 0 8 (by omega) (by omega), zz 40 0 4 (by omega) (by omega), fun a ha => absurd ha (Nat.not_lt_zero a), fun a b ha => absurd ha (Nat.not_lt_zero a)⟩
  refine ⟨F00, none, fun _ => (0, 0, fun _ => 0), (0, fun _ => 0), 1, fun _ => tx0, hN, ⟨⟨Nat.zero_le _, Nat.zero_lt_one, by omega, fun a ha => absurd ha (Nat.not_lt_zero a)⟩, Nat.zero_le _, Nat.zero_le _, fun G hG => by cases hG⟩, hc, ⟨tx, st, hF, ⟨fun a _ _ => zz 13 0 a (by omega) (by omega), fun a b _ _ _ => zz 14 0 _ (by omega) (by omega)⟩, zz 0 0 6 (by omega) (by omega), fun g hg => ⟨?_, Nat.zero_le _, zz 20 g 1 (by omega) (by omega), Nat.zero_le _, fun k hk => absurd hk (Nat.not_lt_zero k)⟩, ⟨zz 7 0 1 (by omega) (by omega), Nat.zero_le _, fun k hk => absurd hk (Nat.not_lt_zero k)⟩⟩, ⟨⟨Nat.le_refl 1, by omega, m3, fun t ht => ?_⟩, m4, hM, m2, fun g hg => ⟨?_, fun z => absurd rfl z⟩, ⟨zz 40 0 6 (by omega) (by omega), fun k hk => absurd hk (Nat.not_lt_zero k)⟩⟩⟩
  · rw [keepC 20 g 0 (by omega), (a20 g hg).2]
    exact (by decide : (-1 : Int32) = nI 0 - 1)
  · obtain rfl : t = 0 := by omega
    refine ⟨k1, ⟨by omega, by show 32 ≤ 160; omega, fun k hk => ⟨?_, ?_⟩⟩, m5⟩
    · rw [show 160 * 0 + k = k by omega]
      exact m6 k hk
    · exact (by decide : ∀ k, k < 32 → tx0.2 k ≤ 255) k hk
  · rw [if_pos rfl]
    exact zz 55 0 g (by omega) (by omega)
