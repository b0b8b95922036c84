/-! strike: the least, what is struck -/
def nxR (l k : Nat) : Nat := (k + 1) % l
def mnR (F : Fl) (l : Nat) (v : Nat → Nat) : Nat → Nat
  | 0 => 99
  | k + 1 => if F.ow (v (nxR l k)) (v k) < mnR F l v k then F.ow (v (nxR l k)) (v k) else mnR F l v k
theorem mnR_le (F : Fl) (l : Nat) (v : Nat → Nat) : ∀ k, mnR F l v k ≤ 99
  | 0 => Nat.le_refl _
  | k + 1 => by
    have := mnR_le F l v k
    simp only [mnR]
    split <;> omega
theorem mnR_at (F : Fl) (l : Nat) (v : Nat → Nat) : ∀ k j, j < k → mnR F l v k ≤ F.ow (v (nxR l j)) (v j)
  | 0, j, hj => absurd hj (Nat.not_lt_zero j)
  | k + 1, j, hj => by
    simp only [mnR]
    by_cases e : j = k
    · rw [e]
      split <;> omega
    · have := mnR_at F l v k j (by omega)
      split <;> omega
/-- struck up to k -/
def skR (F : Fl) (l : Nat) (v : Nat → Nat) (m : Nat) : Nat → Fl
  | 0 => F
  | k + 1 => (skR F l v m k).sO (v (nxR l k)) (v k) (F.ow (v (nxR l k)) (v k) - m)
theorem skR_n (F : Fl) (l : Nat) (v : Nat → Nat) (m : Nat) : ∀ k, (skR F l v m k).n = F.n ∧ (skR F l v m k).rd = F.rd ∧ (skR F l v m k).ni = F.ni ∧ (skR F l v m k).ki = F.ki
  | 0 => ⟨rfl, rfl, rfl, rfl⟩
  | k + 1 => skR_n F l v m k
/-- what is not yet struck stands -/
theorem skR_ow {F : Fl} {l : Nat} {v : Nat → Nat} {m : Nat} (hv : ∀ a b, a < l → b < l → v a = v b → a = b) : ∀ k j, k ≤ j → j < l → (skR F l v m k).ow (v (nxR l j)) (v j) = F.ow (v (nxR l j)) (v j)
  | 0, j, _, _ => rfl
  | k + 1, j, hkj, hj => by
    show uN2 (skR F l v m k).ow (v (nxR l k)) (v k) _ (v (nxR l j)) (v j) = _
    unfold uN2
    rw [if_neg (fun z => by
      have := hv j k hj (by omega) z.2
      omega)]
    exact skR_ow hv k j (by omega) hj
theorem nxR_lt {l k : Nat} (h : 0 < l) : nxR l k < l := Nat.mod_lt _ h
theorem nI_subR {a b : Nat} (h : b ≤ a) (ha : a < 2 ^ 31) : nI a - nI b = nI (a - b) := by
  obtain ⟨c, rfl⟩ : ∃ c, a = c + b := ⟨a - b, by omega⟩
  rw [← nI_add, Int32.add_sub_cancel, show c + b - b = c by omega]
theorem q_lessenR {d a b m : Nat} {S : St} {K : KT} (hd : 1 ≤ d) (hN : NN S) (ha : a < 5) (hb : b < 5) {o : Nat} (ho : S.1 14 0 (5 * a + b) = nI o) (hm : m ≤ o) (ho2 : o < 2 ^ 31) (h : K none (ivSet S 14 0 (5 * a + b) (nI (o - m)))) : Call d m_X0_lessen [aR 10 0, aI (nI a), aI (nI b), aI (nI m)] S K := by
  refine Call.of (k := 0) hd (fun e he P hP => ?_)
  repeat (first | (refine hP _ _ _ _ _ _ ?_; show P _ _ _ _ _ _) | (refine hP _ _ _ _ _ _ (And.intro (hN _ _ _ rfl) ?_); show P _ _ (aR _ _ :: _) _ _ _))
  rw [ix5]
  refine hP _ _ _ _ _ _ (Exists.intro (5 * a + b) (And.intro (And.intro (rfl) (by show 5 * a + b < 25; omega)) ?_))
  rw [ho]
  repeat (first | (refine hP _ _ _ _ _ _ ?_; show P _ _ _ _ _ _) | (refine hP _ _ _ _ _ _ (And.intro (hN _ _ _ rfl) ?_); show P _ _ (aR _ _ :: _) _ _ _))
  rw [show nI o - nI m = nI (o - m) from nI_subR hm ho2]
  refine hP _ _ _ _ _ _ (Exists.intro (5 * a + b) (And.intro (And.intro (rfl) (by show 5 * a + b < 25; omega)) ?_))
  exact hP _ _ _ _ _ _ (h)
theorem c_strikeL {tv : TV} {nT N l : Nat} {S : St} {K : KT} {E : Fl} {v : Nat → Nat} {P : PT} {e : Nat} (hX : FX tv nT S 0 E) (hz : zB S 0 E.n) (he : 20 ≤ e) (hP : ∀ pc L st S fc fs, F m_X5_strike (Call e) K P pc L st S fc fs → P pc L st S fc fs) (h2 : 2 ≤ l) (h5 : l ≤ 5) (hv : ∀ k, k < l → v k < E.n) (hv2 : ∀ a b, a < l → b < l → v a = v b → a = b) (hr : ∀ k, k < l → S.1 19 0 k = nI (v k))
    (h3 : mnR E l v l = 0 → K (some (aI (-3))) S) (h1 : ¬ mnR E l v l = 0 → ∀ S', Ag (fun j g _ => j = 14 ∧ g = 0) S S' → HF S' 0 (skR E l v (mnR E l v l) l) → zB S' 0 E.n → K (some (aI (nI (mnR E l v l)))) S') : P 8 [some (aR 0 0), some (aI (nI N)), some (aI (nI l)), none, none] [aI 2, aI (nI l)] S 0 0 := by
  have hN := hX.1.1
  have hn5 := hX.2.2.1
  have lz : ¬ nI l = 0 := nI_nz (by omega) (by omega)
  have loop : ∀ k, k ≤ l → P 23 [some (aR 0 0), some (aI (nI N)), some (aI (nI l)), some (aI (nI (mnR E l v k))), some (aI (nI k))] [aI (nI l), aI (nI k)] S 0 0 := by
    refine dn ?_ ?_
    · have hm := mnR_le E l v l
      refine hP _ _ _ _ _ _ (And.intro (fun _ => ?_) (fun hc => absurd (nI_le (Nat.le_refl l) (by omega)) hc))
      repeat (first | (refine hP _ _ _ _ _ _ ?_; show P _ _ _ _ _ _) | (refine hP _ _ _ _ _ _ (And.intro (hN _ _ _ rfl) ?_); show P _ _ (aR _ _ :: _) _ _ _))
      by_cases m0 : mnR E l v l = 0
      · have h3 := h3 m0
        rw [m0]
        refine hP _ _ _ _ _ _ (And.intro (fun hc => absurd hc (fun z => z rfl)) (fun _ => ?_))
        repeat (first | (refine hP _ _ _ _ _ _ ?_; show P _ _ _ _ _ _) | (refine hP _ _ _ _ _ _ (And.intro (hN _ _ _ rfl) ?_); show P _ _ (aR _ _ :: _) _ _ _))
        exact hP _ _ _ _ _ _ (h3)
      · have h1 := h1 m0
        refine hP _ _ _ _ _ _ (And.intro (fun _ => ?_) (fun hc => absurd hc (nI_nz (by omega) (by omega))))
        have loop2 : ∀ k, k ≤ l → ∀ S1, Ag (fun j g _ => j = 14 ∧ g = 0) S S1 → HF S1 0 (skR E l v (mnR E l v l) k) → zB S1 0 E.n → P 75 [some (aR 0 0), some (aI (nI N)), some (aI (nI l)), some (aI (nI (mnR E l v l))), some (aI (nI k))] [aI (nI l), aI (nI k)] S1 0 0 := by
          refine dn ?_ ?_
          · intro S1 g1 hF1 hz1
            refine hP _ _ _ _ _ _ (And.intro (fun _ => ?_) (fun hc => absurd (nI_le (Nat.le_refl l) (by omega)) hc))
            repeat (first | (refine hP _ _ _ _ _ _ ?_; show P _ _ _ _ _ _) | (refine hP _ _ _ _ _ _ (And.intro (hN _ _ _ rfl) ?_); show P _ _ (aR _ _ :: _) _ _ _))
            exact hP _ _ _ _ _ _ (h1 S1 g1 hF1 hz1)
          · intro k hk ih S1 g1 hF1 hz1
            have hN := hX.1.1.up g1
            have hx := nxR_lt (k := k) (show 0 < l by omega)
            have b1 := hv _ hx
            have b2' := hv k hk
            have o1 := hX.2.2.ow b1 b2'
            have hq := mnR_at E l v l k hk
            have nk := (skR_n E l v (mnR E l v l) k).1
            have ho := hF1.2.2.2.2.2 (v (nxR l k)) (v k) (by rw [nk]; exact b1) (by rw [nk]; exact b2')
            rw [skR_ow hv2 k k (Nat.le_refl k) hk] at ho
            rw [nI_succ k] at ih
            refine hP _ _ _ _ _ _ (And.intro (fun hc => absurd hc (nI_ge hk (by omega))) (fun _ => ?_))
            repeat (first | (refine hP _ _ _ _ _ _ ?_; show P _ _ _ _ _ _) | (refine hP _ _ _ _ _ _ (And.intro (hN _ _ _ rfl) ?_); show P _ _ (aR _ _ :: _) _ _ _))
            refine hP _ _ _ _ _ _ (And.intro lz ?_)
            rw [show nI k + 1 - (nI k + 1) / nI l * nI l = nI (nxR l k) from by rw [nI_1]; exact pk_rem (by omega) (by omega) (by omega)]
            refine hP _ _ _ _ _ _ (Exists.intro (nxR l k) (And.intro (And.intro (rfl) (by show nxR l k < 5; omega)) ?_))
            rw [g1.1 19 0 _ (by simp), hr _ hx]
            repeat (first | (refine hP _ _ _ _ _ _ ?_; show P _ _ _ _ _ _) | (refine hP _ _ _ _ _ _ (And.intro (hN _ _ _ rfl) ?_); show P _ _ (aR _ _ :: _) _ _ _))
            refine hP _ _ _ _ _ _ (Exists.intro (k) (And.intro (And.intro (rfl) (by show k < 5; omega)) ?_))
            rw [g1.1 19 0 _ (by simp), hr k hk]
            repeat (first | (refine hP _ _ _ _ _ _ ?_; show P _ _ _ _ _ _) | (refine hP _ _ _ _ _ _ (And.intro (hN _ _ _ rfl) ?_); show P _ _ (aR _ _ :: _) _ _ _))
            refine hP _ _ _ _ _ _ (q_lessenR (by omega) hN (by omega) (by omega) ho hq (by omega) ?_)
            have := ih (ivSet S1 14 0 (5 * v (nxR l k) + v k) (nI (E.ow (v (nxR l k)) (v k) - mnR E l v l))) (g1.tr (Ag.iv ⟨rfl, rfl⟩)) (hF1.sO (by rw [nk]; exact hn5) _ _ _ (by rw [nk]; exact b2')) (hz1.n (W := fun j g k' => j = 14 ∧ k' = 5 * v (nxR l k) + v k) (Ag.iv ⟨rfl, rfl⟩) (fun j k z => by omega))
            repeat (first | (refine hP _ _ _ _ _ _ ?_; show P _ _ _ _ _ _) | (refine hP _ _ _ _ _ _ (And.intro (hN _ _ _ rfl) ?_); show P _ _ (aR _ _ :: _) _ _ _))
            exact this
        repeat (first | (refine hP _ _ _ _ _ _ ?_; show P _ _ _ _ _ _) | (refine hP _ _ _ _ _ _ (And.intro (hN _ _ _ rfl) ?_); show P _ _ (aR _ _ :: _) _ _ _))
        exact loop2 0 (by omega) S (Ag.rf _ _) hX.2.1 hz
    · intro k hk ih
      have hx := nxR_lt (k := k) (show 0 < l by omega)
      have b1 := hv _ hx
      have b2' := hv k hk
      have o1 := hX.2.2.ow b1 b2'
      have m1 := mnR_le E l v k
      rw [nI_succ k] at ih
      refine hP _ _ _ _ _ _ (And.intro (fun hc => absurd hc (nI_ge hk (by omega))) (fun _ => ?_))
      repeat (first | (refine hP _ _ _ _ _ _ ?_; show P _ _ _ _ _ _) | (refine hP _ _ _ _ _ _ (And.intro (hN _ _ _ rfl) ?_); show P _ _ (aR _ _ :: _) _ _ _))
      refine hP _ _ _ _ _ _ (And.intro lz ?_)
      rw [show nI k + 1 - (nI k + 1) / nI l * nI l = nI (nxR l k) from by rw [nI_1]; exact pk_rem (by omega) (by omega) (by omega)]
      refine hP _ _ _ _ _ _ (Exists.intro (nxR l k) (And.intro (And.intro (rfl) (by show nxR l k < 5; omega)) ?_))
      rw [hr _ hx]
      repeat (first | (refine hP _ _ _ _ _ _ ?_; show P _ _ _ _ _ _) | (refine hP _ _ _ _ _ _ (And.intro (hN _ _ _ rfl) ?_); show P _ _ (aR _ _ :: _) _ _ _))
      refine hP _ _ _ _ _ _ (Exists.intro (k) (And.intro (And.intro (rfl) (by show k < 5; omega)) ?_))
      rw [hr k hk]
      refine hP _ _ _ _ _ _ (q_owing (by omega) hX b1 b2' ?_)
      repeat (first | (refine hP _ _ _ _ _ _ ?_; show P _ _ _ _ _ _) | (refine hP _ _ _ _ _ _ (And.intro (hN _ _ _ rfl) ?_); show P _ _ (aR _ _ :: _) _ _ _))
      rw [show (if nI (E.ow (v (nxR l k)) (v k)) < nI (mnR E l v k) then nI (E.ow (v (nxR l k)) (v k)) else nI (mnR E l v k)) = nI (mnR E l v (k + 1)) from by
        simp only [mnR]
        by_cases c : E.ow (v (nxR l k)) (v k) < mnR E l v k
        · rw [if_pos c, if_pos (nI_lt c (by omega))]
        · rw [if_neg c, if_neg (nI_nlt (by omega) (by omega))]]
      repeat (first | (refine hP _ _ _ _ _ _ ?_; show P _ _ _ _ _ _) | (refine hP _ _ _ _ _ _ (And.intro (hN _ _ _ rfl) ?_); show P _ _ (aR _ _ :: _) _ _ _))
      exact ih
  refine hP _ _ _ _ _ _ (And.intro (fun _ => ?_) (fun hc => absurd (nI_le (a := 2) (b := l) h2 (by omega)) hc))
  repeat (first | (refine hP _ _ _ _ _ _ ?_; show P _ _ _ _ _ _) | (refine hP _ _ _ _ _ _ (And.intro (hN _ _ _ rfl) ?_); show P _ _ (aR _ _ :: _) _ _ _))
  exact loop 0 (by omega)
