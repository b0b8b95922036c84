/-! strike: how far the digits go -/
theorem dg5 {a b c d e : Nat} (ha : a < 5) (hb : b < 5) (hc : c < 5) (hd : d < 5) (he : e < 5) (n01 : ¬ a = b) (n02 : ¬ a = c) (n03 : ¬ a = d) (n04 : ¬ a = e) (n12 : ¬ b = c) (n13 : ¬ b = d) (n14 : ¬ b = e) (n23 : ¬ c = d) (n24 : ¬ c = e) (n34 : ¬ d = e) : (a + 1) + (b + 1) * 10 + (c + 1) * 100 + (d + 1) * 1000 + (e + 1) * 10000 ≤ 54321 := by
  by_cases h1 : e = 4
  · by_cases h2 : d = 3
    · by_cases h3 : c = 2
      · by_cases h4 : b = 1
        · have : a = 0 := by omega
          omega
        · have : b = 0 := by omega
          omega
      · have : c ≤ 1 := by omega
        omega
    · have : d ≤ 2 := by omega
      omega
  · have : e ≤ 3 := by omega
    omega
theorem dg_le {n l : Nat} {w : Nat → Nat} (hn : n ≤ 5) (hl : l ≤ 5) (h1 : ∀ k, k < l → w k < n) (h2 : ∀ a b, a < l → b < l → w a = w b → a = b) : dgN w l ≤ 54321 := by
  rcases (show l = 0 ∨ l = 1 ∨ l = 2 ∨ l = 3 ∨ l = 4 ∨ l = 5 by omega) with rfl | rfl | rfl | rfl | rfl | rfl
  · simp [dgN]
  · have := h1 0 (by omega)
    simp only [dgN]
    omega
  · have := h1 0 (by omega)
    have := h1 1 (by omega)
    simp only [dgN]
    omega
  · have := h1 0 (by omega)
    have := h1 1 (by omega)
    have := h1 2 (by omega)
    simp only [dgN]
    omega
  · have := h1 0 (by omega)
    have := h1 1 (by omega)
    have := h1 2 (by omega)
    have := h1 3 (by omega)
    simp only [dgN]
    omega
  · have b0 := h1 0 (by omega)
    have b1 := h1 1 (by omega)
    have b2' := h1 2 (by omega)
    have b3 := h1 3 (by omega)
    have b4 := h1 4 (by omega)
    have ne : ∀ a b, a < 5 → b < 5 → ¬ a = b → ¬ w a = w b := fun a b ha hb hab e => hab (h2 a b ha hb e)
    have n01 := ne 0 1 (by omega) (by omega) (by omega)
    have n02 := ne 0 2 (by omega) (by omega) (by omega)
    have n03 := ne 0 3 (by omega) (by omega) (by omega)
    have n04 := ne 0 4 (by omega) (by omega) (by omega)
    have n12 := ne 1 2 (by omega) (by omega) (by omega)
    have n13 := ne 1 3 (by omega) (by omega) (by omega)
    have n14 := ne 1 4 (by omega) (by omega) (by omega)
    have n23 := ne 2 3 (by omega) (by omega) (by omega)
    have n24 := ne 2 4 (by omega) (by omega) (by omega)
    have n34 := ne 3 4 (by omega) (by omega) (by omega)
    have h := dg5 (show w 0 < 5 by omega) (show w 1 < 5 by omega) (show w 2 < 5 by omega) (show w 3 < 5 by omega) (show w 4 < 5 by omega) n01 n02 n03 n04 n12 n13 n14 n23 n24 n34
    simp only [dgN]
    omega
/-- both sides take the same digits as a ring -/
theorem rg_same {n N r l : Nat} {w : Nat → Nat} (hn : n ≤ 5) (h : rdR n 5 N 0 0 (fun _ => 0) = some (r, l, w)) : l ≤ 5 ∧ (∀ k, k < l → w k < n) ∧ (∀ a b, a < l → b < l → w a = w b → a = b) ∧ ((r = 0 ∧ (if N ≤ 54321 ∧ 2 ≤ l then l else 0) = if 2 ≤ l then l else 0) ∨ (¬ r = 0 ∧ (if N ≤ 54321 ∧ 2 ≤ l then l else 0) = 0)) := by
  obtain ⟨a1, a2, a3, a4, a5⟩ := rdR_ok (N := N) hn 5 0 N 0 (fun _ => 0) (by omega) (by omega) (fun k hk => absurd hk (Nat.not_lt_zero k)) (fun a b ha => absurd ha (Nat.not_lt_zero a)) (by simp [dgN]) r l w h
  refine ⟨a1, a2, a3, ?_⟩
  by_cases e : r = 0
  · left
    refine ⟨e, ?_⟩
    have := dg_le hn a1 a2 a3
    rw [e] at a4
    have hN : N ≤ 54321 := by omega
    by_cases e2 : 2 ≤ l
    · rw [if_pos ⟨hN, e2⟩, if_pos e2]
    · rw [if_neg (fun z => e2 z.2), if_neg e2]
  · right
    refine ⟨e, ?_⟩
    have hl : l = 5 := a5.resolve_left e
    subst hl
    have e3 : 100000 ≤ r * 10 ^ 5 := by
      have : 1 * 10 ^ 5 ≤ r * 10 ^ 5 := Nat.mul_le_mul_right _ (by omega)
      omega
    rw [if_neg (fun z => by omega)]
