/-! strike: the model's loops -/
theorem wI_mn {o m : Nat} (ho : o < 2 ^ 31) (hm : m < 2 ^ 31) : wI (nI o) (nI m) = nI (if o < m then o else m) := by
  rw [wI_nI]
  unfold wN
  rw [if_neg (nI_pos ho)]
  by_cases c : m < o
  · rw [if_pos (nI_lt c ho), if_neg (by omega)]
  · rw [if_neg (nI_nlt (by omega) hm), nI_clamp ho]
    by_cases c2 : o < m
    · rw [if_pos c2]
    · rw [if_neg c2, show o = m by omega]
theorem n_strikeL {tv : TV} {nT N l : Nat} {S : St} {K : KT} {E : Fl} {v : Nat → Nat} {P : PT} {e : Nat} (hX : MX tv nT S E) (he : 20 ≤ e) (hP : ∀ pc L st S fc fs, F m_X6_strike (Call e) K P pc L st S fc fs → P pc L st S fc fs) (h2 : 2 ≤ l) (h5 : l ≤ 5) (hv : ∀ k, k < l → v k < E.n) (hv2 : ∀ a b, a < l → b < l → v a = v b → a = b) (hr : ∀ k, k < l → S.1 48 0 k = nI (v k))
    (h3 : mnR E l v l = 0 → K (some (aI (-3))) S) (h1 : ¬ mnR E l v l = 0 → ∀ S', Ag (fun j g _ => j = 46 ∧ g = 0) S S' → HM S' (skR E l v (mnR E l v l) l) → K (some (aI (nI (mnR E l v l)))) S') : P 7 [some (aR 40 0), some (aI (nI N)), some (aI (nI l)), none, none] [aI (nI l)] S 0 0 := by
  have hN := hX.1.1
  have hn5 := hX.2.2.1
  have lz : ¬ nI l = 0 := nI_nz (by omega) (by omega)
  have loop : ∀ k, k ≤ l → P 22 [some (aR 40 0), some (aI (nI N)), some (aI (nI l)), some (aI (nI (mnR E l v k))), some (aI (nI k))] [aI (nI l), aI (nI k)] S 0 0 := by
    refine dn ?_ ?_
    · have hm := mnR_le E l v l
      refine hP _ _ _ _ _ _ (And.intro (fun _ => ?_) (fun hc => absurd (nI_le (Nat.le_refl l) (by omega)) hc))
      repeat (first | (refine hP _ _ _ _ _ _ ?_; show P _ _ _ _ _ _) | (refine hP _ _ _ _ _ _ (And.intro (hN _ _ _ rfl) ?_); show P _ _ (aR _ _ :: _) _ _ _))
      by_cases m0 : mnR E l v l = 0
      · have h3 := h3 m0
        rw [m0]
        refine hP _ _ _ _ _ _ (And.intro (fun hc => absurd hc (fun z => z rfl)) (fun _ => ?_))
        repeat (first | (refine hP _ _ _ _ _ _ ?_; show P _ _ _ _ _ _) | (refine hP _ _ _ _ _ _ (And.intro (hN _ _ _ rfl) ?_); show P _ _ (aR _ _ :: _) _ _ _))
        exact hP _ _ _ _ _ _ (h3)
      · have h1 := h1 m0
        refine hP _ _ _ _ _ _ (And.intro (fun _ => ?_) (fun hc => absurd hc (nI_nz (by omega) (by omega))))
        have loop2 : ∀ k, k ≤ l → ∀ S1, Ag (fun j g _ => j = 46 ∧ g = 0) S S1 → HM S1 (skR E l v (mnR E l v l) k) → P 72 [some (aR 40 0), some (aI (nI N)), some (aI (nI l)), some (aI (nI (mnR E l v l))), some (aI (nI k))] [aI (nI l), aI (nI k)] S1 0 0 := by
          refine dn ?_ ?_
          · intro S1 g1 hF1
            refine hP _ _ _ _ _ _ (And.intro (fun _ => ?_) (fun hc => absurd (nI_le (Nat.le_refl l) (by omega)) hc))
            repeat (first | (refine hP _ _ _ _ _ _ ?_; show P _ _ _ _ _ _) | (refine hP _ _ _ _ _ _ (And.intro (hN _ _ _ rfl) ?_); show P _ _ (aR _ _ :: _) _ _ _))
            exact hP _ _ _ _ _ _ (h1 S1 g1 hF1)
          · intro k hk ih S1 g1 hF1
            have hN := hX.1.1.up g1
            have hx := nxR_lt (k := k) (show 0 < l by omega)
            have b1 := hv _ hx
            have b2' := hv k hk
            have o1 := hX.2.2.ow b1 b2'
            have hq := mnR_at E l v l k hk
            have nk := (skR_n E l v (mnR E l v l) k).1
            have ho := hF1.2.2.2.2.2 (v (nxR l k)) (v k) (by rw [nk]; exact b1) (by rw [nk]; exact b2')
            rw [skR_ow hv2 k k (Nat.le_refl k) hk] at ho
            rw [nI_succ k] at ih
            refine hP _ _ _ _ _ _ (And.intro (fun hc => absurd hc (nI_ge hk (by omega))) (fun _ => ?_))
            repeat (first | (refine hP _ _ _ _ _ _ ?_; show P _ _ _ _ _ _) | (refine hP _ _ _ _ _ _ (And.intro (hN _ _ _ rfl) ?_); show P _ _ (aR _ _ :: _) _ _ _))
            refine hP _ _ _ _ _ _ (And.intro lz ?_)
            rw [show nI k + 1 - (nI k + 1) / nI l * nI l = nI (nxR l k) from by rw [nI_1]; exact pk_rem (by omega) (by omega) (by omega)]
            refine hP _ _ _ _ _ _ (Exists.intro (nxR l k) (And.intro (And.intro (rfl) (by show nxR l k < 5; omega)) ?_))
            rw [g1.1 48 0 _ (by simp), hr _ hx]
            repeat (first | (refine hP _ _ _ _ _ _ ?_; show P _ _ _ _ _ _) | (refine hP _ _ _ _ _ _ (And.intro (hN _ _ _ rfl) ?_); show P _ _ (aR _ _ :: _) _ _ _))
            refine hP _ _ _ _ _ _ (Exists.intro (k) (And.intro (And.intro (rfl) (by show k < 5; omega)) ?_))
            rw [g1.1 48 0 _ (by simp), hr k hk]
            repeat (first | (refine hP _ _ _ _ _ _ ?_; show P _ _ _ _ _ _) | (refine hP _ _ _ _ _ _ (And.intro (hN _ _ _ rfl) ?_); show P _ _ (aR _ _ :: _) _ _ _))
            refine hP _ _ _ _ _ _ (Exists.intro (5 * v (nxR l k) + v k) (And.intro (And.intro (jx5 _ _) (by show _ < 25; omega)) ?_))
            rw [ho]
            repeat (first | (refine hP _ _ _ _ _ _ ?_; show P _ _ _ _ _ _) | (refine hP _ _ _ _ _ _ (And.intro (hN _ _ _ rfl) ?_); show P _ _ (aR _ _ :: _) _ _ _))
            rw [nI_subR hq (by omega)]
            refine hP _ _ _ _ _ _ (Exists.intro (5 * v (nxR l k) + v k) (And.intro (And.intro (jx5 _ _) (by show _ < 25; omega)) ?_))
            have := ih (ivSet S1 46 0 (5 * v (nxR l k) + v k) (nI (E.ow (v (nxR l k)) (v k) - mnR E l v l))) (g1.tr (Ag.iv ⟨rfl, rfl⟩)) (hF1.sO (by rw [nk]; exact hn5) _ _ _ (by rw [nk]; exact b2'))
            repeat (first | (refine hP _ _ _ _ _ _ ?_; show P _ _ _ _ _ _) | (refine hP _ _ _ _ _ _ (And.intro (hN _ _ _ rfl) ?_); show P _ _ (aR _ _ :: _) _ _ _))
            exact this
        repeat (first | (refine hP _ _ _ _ _ _ ?_; show P _ _ _ _ _ _) | (refine hP _ _ _ _ _ _ (And.intro (hN _ _ _ rfl) ?_); show P _ _ (aR _ _ :: _) _ _ _))
        exact loop2 0 (by omega) S (Ag.rf _ _) hX.2.1
    · intro k hk ih
      have hx := nxR_lt (k := k) (show 0 < l by omega)
      have b1 := hv _ hx
      have b2' := hv k hk
      have o1 := hX.2.2.ow b1 b2'
      have m1 := mnR_le E l v k
      rw [nI_succ k] at ih
      refine hP _ _ _ _ _ _ (And.intro (fun hc => absurd hc (nI_ge hk (by omega))) (fun _ => ?_))
      repeat (first | (refine hP _ _ _ _ _ _ ?_; show P _ _ _ _ _ _) | (refine hP _ _ _ _ _ _ (And.intro (hN _ _ _ rfl) ?_); show P _ _ (aR _ _ :: _) _ _ _))
      refine hP _ _ _ _ _ _ (And.intro lz ?_)
      rw [show nI k + 1 - (nI k + 1) / nI l * nI l = nI (nxR l k) from by rw [nI_1]; exact pk_rem (by omega) (by omega) (by omega)]
      refine hP _ _ _ _ _ _ (Exists.intro (nxR l k) (And.intro (And.intro (rfl) (by show nxR l k < 5; omega)) ?_))
      rw [hr _ hx]
      repeat (first | (refine hP _ _ _ _ _ _ ?_; show P _ _ _ _ _ _) | (refine hP _ _ _ _ _ _ (And.intro (hN _ _ _ rfl) ?_); show P _ _ (aR _ _ :: _) _ _ _))
      refine hP _ _ _ _ _ _ (Exists.intro (k) (And.intro (And.intro (rfl) (by show k < 5; omega)) ?_))
      rw [hr k hk]
      refine hP _ _ _ _ _ _ (n_debtOf (by omega) hX b1 b2' ?_)
      repeat (first | (refine hP _ _ _ _ _ _ ?_; show P _ _ _ _ _ _) | (refine hP _ _ _ _ _ _ (And.intro (hN _ _ _ rfl) ?_); show P _ _ (aR _ _ :: _) _ _ _))
      refine hP _ _ _ _ _ _ (n_within (by omega) ?_)
      rw [wI_mn (by omega) (by omega)]
      repeat (first | (refine hP _ _ _ _ _ _ ?_; show P _ _ _ _ _ _) | (refine hP _ _ _ _ _ _ (And.intro (hN _ _ _ rfl) ?_); show P _ _ (aR _ _ :: _) _ _ _))
      exact ih
  refine hP _ _ _ _ _ _ (And.intro (fun _ => ?_) (fun hc => absurd hc lz))
  repeat (first | (refine hP _ _ _ _ _ _ ?_; show P _ _ _ _ _ _) | (refine hP _ _ _ _ _ _ (And.intro (hN _ _ _ rfl) ?_); show P _ _ (aR _ _ :: _) _ _ _))
  exact loop 0 (by omega)
