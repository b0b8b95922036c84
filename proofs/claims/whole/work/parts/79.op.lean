/-! strike: a ring read -/
def rdR (n : Nat) : Nat → Nat → Nat → Nat → (Nat → Nat) → Option (Nat × Nat × (Nat → Nat))
  | 0, r, _, l, v => some (r, l, v)
  | f + 1, r, m, l, v => if r = 0 then some (0, l, v) else if r % 10 - 1 < n ∧ 0 < r % 10 ∧ m.testBit (r % 10 - 1) = false then rdR n f (r / 10) (m ||| 2 ^ (r % 10 - 1)) (l + 1) (uN v l (r % 10 - 1)) else none
theorem bit51 : ∀ m, m < 32 → ∀ x, x < 5 → (((nI m >>> (nI x &&& 31)) &&& 1 = 1) ↔ m.testBit x = true) := by
  have h : ∀ m, m < 32 → ∀ x, x < 5 → decide ((nI m >>> (nI x &&& 31)) &&& 1 = 1) = (m.testBit x) := by decide +kernel
  intro m hm x hx
  have := h m hm x hx
  rw [← this]
  exact (decide_eq_true_iff).symm
theorem or51 : ∀ m, m < 32 → ∀ x, x < 5 → nI m ||| ((1 : Int32) <<< (nI x &&& 31)) = nI (m ||| 2 ^ x) ∧ (m ||| 2 ^ x) < 32 := by decide +kernel
theorem c_readRing {d n N : Nat} {S : St} {K : KT} (hd : 3 ≤ d) (hN : NN S) (h1 : S.1 10 0 1 = nI n) (hn : n ≤ 5) (hNb : N < 2 ^ 31)
    (h0 : ∀ S', Ag (fun j _ _ => j = 19) S S' → rdR n 5 N 0 0 (fun _ => 0) = none → K (some (aI 0)) S')
    (hs : ∀ S' r l v, Ag (fun j _ _ => j = 19) S S' → rdR n 5 N 0 0 (fun _ => 0) = some (r, l, v) → l ≤ 5 → (∀ k, k < l → S'.1 19 0 k = nI (v k)) → K (some (aI (nI (if r = 0 then l else 0)))) S') : Call d m_X5_readRing [aR 0 0, aI (nI N)] S K := by
  refine Call.of (k := 2) hd (fun e he P hP => ?_)
  have hN0 := hN
  have ex : ∀ r m l v S1 x, r < 2 ^ 31 → l ≤ 5 → Ag (fun j _ _ => j = 19) S S1 → (∀ k, k < l → S1.1 19 0 k = nI (v k)) → some (r, l, v) = rdR n 5 N 0 0 (fun _ => 0) → P 78 [some (aR 0 0), some (aI (nI N)), some (aI (nI m)), some (aI (nI r)), some (aI (nI l)), x] [aI (nI r)] S1 0 0 := by
    intro r m l v S1 x hr hl g1 c1 he
    have hs := hs S1 r l v g1 he.symm hl c1
    by_cases e : r = 0
    · subst e
      rw [if_pos rfl] at hs
      refine hP _ _ _ _ _ _ (And.intro (fun hc => absurd hc (fun z => z rfl)) (fun _ => ?_))
      repeat (first | (refine hP _ _ _ _ _ _ ?_; show P _ _ _ _ _ _) | (refine hP _ _ _ _ _ _ (And.intro (hN _ _ _ rfl) ?_); show P _ _ (aR _ _ :: _) _ _ _))
      exact hP _ _ _ _ _ _ (hs)
    · rw [if_neg e] at hs
      refine hP _ _ _ _ _ _ (And.intro (fun _ => ?_) (fun hc => absurd hc (nI_nz hr (by omega))))
      repeat (first | (refine hP _ _ _ _ _ _ ?_; show P _ _ _ _ _ _) | (refine hP _ _ _ _ _ _ (And.intro (hN _ _ _ rfl) ?_); show P _ _ (aR _ _ :: _) _ _ _))
      exact hP _ _ _ _ _ _ (hs)
  have loop : ∀ f l r m v S1 x, l + f = 5 → r < 2 ^ 31 → m < 32 → Ag (fun j _ _ => j = 19) S S1 → (∀ k, k < l → S1.1 19 0 k = nI (v k)) → rdR n f r m l v = rdR n 5 N 0 0 (fun _ => 0) → P 14 [some (aR 0 0), some (aI (nI N)), some (aI (nI m)), some (aI (nI r)), some (aI (nI l)), x] [aI (nI 5), aI (nI l)] S1 0 0 := by
    intro f
    induction f with
    | zero =>
      intro l r m v S1 x hl hr hm g1 c1 he
      have := ex r m l v S1 x hr (by omega) g1 c1 he
      refine hP _ _ _ _ _ _ (And.intro (fun _ => ?_) (fun hc => absurd (nI_le (a := 5) (b := l) (by omega) (by omega)) hc))
      repeat (first | (refine hP _ _ _ _ _ _ ?_; show P _ _ _ _ _ _) | (refine hP _ _ _ _ _ _ (And.intro (hN _ _ _ rfl) ?_); show P _ _ (aR _ _ :: _) _ _ _))
      exact this
    | succ f ih =>
      intro l r m v S1 x hl hr hm g1 c1 he
      have hN := hN0.up g1
      have h11 : S1.1 10 0 1 = nI n := by rw [g1.1 10 0 1 (by simp)]; exact h1
      simp only [rdR] at he
      refine hP _ _ _ _ _ _ (And.intro (fun hc => absurd hc (nI_ge (a := l) (b := 5) (by omega) (by omega))) (fun _ => ?_))
      repeat (first | (refine hP _ _ _ _ _ _ ?_; show P _ _ _ _ _ _) | (refine hP _ _ _ _ _ _ (And.intro (hN _ _ _ rfl) ?_); show P _ _ (aR _ _ :: _) _ _ _))
      by_cases r0 : r = 0
      · rw [if_pos r0] at he
        subst r0
        have := ex 0 m l v S1 x (by omega) (by omega) g1 c1 he
        refine hP _ _ _ _ _ _ (And.intro (fun _ => ?_) (fun hc => absurd (by decide) hc))
        repeat (first | (refine hP _ _ _ _ _ _ ?_; show P _ _ _ _ _ _) | (refine hP _ _ _ _ _ _ (And.intro (hN _ _ _ rfl) ?_); show P _ _ (aR _ _ :: _) _ _ _))
        exact this
      · rw [if_neg r0] at he
        refine hP _ _ _ _ _ _ (And.intro (fun hc => absurd hc (nI_nle (show 0 < r by omega) hr)) (fun _ => ?_))
        repeat (first | (refine hP _ _ _ _ _ _ ?_; show P _ _ _ _ _ _) | (refine hP _ _ _ _ _ _ (And.intro (hN _ _ _ rfl) ?_); show P _ _ (aR _ _ :: _) _ _ _))
        refine hP _ _ _ _ _ _ (And.intro (by decide) ?_)
        rw [show nI r - nI r / 10 * 10 = nI (r % 10) from pk_rem (d := 10) hr (by decide) (by decide)]
        repeat (first | (refine hP _ _ _ _ _ _ ?_; show P _ _ _ _ _ _) | (refine hP _ _ _ _ _ _ (And.intro (hN _ _ _ rfl) ?_); show P _ _ (aR _ _ :: _) _ _ _))
        refine hP _ _ _ _ _ _ (c_isDancer (by omega) hN h11 hn ?_)
        by_cases z0 : r % 10 = 0
        · rw [if_neg (by omega)] at he
          have h0 := h0 S1 g1 he.symm
          rw [z0, show isD n (nI 0 - 1) = false from decide_eq_false (fun z => absurd z.1 (by decide))]
          repeat (first | (refine hP _ _ _ _ _ _ ?_; show P _ _ _ _ _ _) | (refine hP _ _ _ _ _ _ (And.intro (hN _ _ _ rfl) ?_); show P _ _ (aR _ _ :: _) _ _ _) | refine hP _ _ _ _ _ _ (And.intro (fun _ => ?_) (fun hc => absurd hc (by decide))) | refine hP _ _ _ _ _ _ (And.intro (fun hc => absurd hc (by decide)) (fun _ => ?_)))
          exact hP _ _ _ _ _ _ (h0)
        · obtain ⟨o, ho⟩ : ∃ o, r % 10 = o + 1 := ⟨r % 10 - 1, by omega⟩
          rw [ho, nI_pred, isD_N (by omega) (by omega)]
          rw [ho, show o + 1 - 1 = o by omega] at he
          by_cases on : o < n
          · rw [decide_eq_true on]
            repeat (first | (refine hP _ _ _ _ _ _ ?_; show P _ _ _ _ _ _) | (refine hP _ _ _ _ _ _ (And.intro (hN _ _ _ rfl) ?_); show P _ _ (aR _ _ :: _) _ _ _) | refine hP _ _ _ _ _ _ (And.intro (fun _ => ?_) (fun hc => absurd hc (by decide))) | refine hP _ _ _ _ _ _ (And.intro (fun hc => absurd hc (by decide)) (fun _ => ?_)))
            cases hb : m.testBit o with
            | true =>
              rw [if_neg (fun z => by rw [hb] at z; exact absurd z.2.2 (by decide))] at he
              have h0 := h0 S1 g1 he.symm
              refine hP _ _ _ _ _ _ (And.intro (fun hc => absurd hc (fun z => z ((bit51 m hm o (by omega)).mpr hb))) (fun _ => ?_))
              repeat (first | (refine hP _ _ _ _ _ _ ?_; show P _ _ _ _ _ _) | (refine hP _ _ _ _ _ _ (And.intro (hN _ _ _ rfl) ?_); show P _ _ (aR _ _ :: _) _ _ _))
              exact hP _ _ _ _ _ _ (h0)
            | false =>
              rw [if_pos ⟨on, by omega, hb⟩] at he
              obtain ⟨o1, o2⟩ := or51 m hm o (by omega)
              refine hP _ _ _ _ _ _ (And.intro (fun _ => ?_) (fun hc => absurd ((bit51 m hm o (by omega)).mp hc) (by rw [hb]; decide)))
              repeat (first | (refine hP _ _ _ _ _ _ ?_; show P _ _ _ _ _ _) | (refine hP _ _ _ _ _ _ (And.intro (hN _ _ _ rfl) ?_); show P _ _ (aR _ _ :: _) _ _ _))
              refine hP _ _ _ _ _ _ (Exists.intro (l) (And.intro (And.intro (rfl) (by show l < 5; omega)) ?_))
              repeat (first | (refine hP _ _ _ _ _ _ ?_; show P _ _ _ _ _ _) | (refine hP _ _ _ _ _ _ (And.intro (hN _ _ _ rfl) ?_); show P _ _ (aR _ _ :: _) _ _ _))
              refine hP _ _ _ _ _ _ (And.intro (by decide) ?_)
              rw [show nI r / 10 = nI (r / 10) from pk_div (d := 10) hr (by decide) (by decide), o1]
              have := ih (l + 1) (r / 10) (m ||| 2 ^ o) (uN v l o) (ivSet S1 19 0 l (nI o)) (some (aI (nI o))) (by omega) (by omega) o2 (g1.tr (Ag.iv rfl)) (fun k hk => by
                show _ = nI (if k = l then o else v k)
                by_cases e : k = l
                · rw [e, iv_at, if_pos rfl]
                · rw [iv_ne (by omega), if_neg e]
                  exact c1 k (by omega)) he
              rw [nI_succ l] at this
              repeat (first | (refine hP _ _ _ _ _ _ ?_; show P _ _ _ _ _ _) | (refine hP _ _ _ _ _ _ (And.intro (hN _ _ _ rfl) ?_); show P _ _ (aR _ _ :: _) _ _ _))
              exact this
          · rw [decide_eq_false on]
            rw [if_neg (fun z => on z.1)] at he
            have h0 := h0 S1 g1 he.symm
            repeat (first | (refine hP _ _ _ _ _ _ ?_; show P _ _ _ _ _ _) | (refine hP _ _ _ _ _ _ (And.intro (hN _ _ _ rfl) ?_); show P _ _ (aR _ _ :: _) _ _ _) | refine hP _ _ _ _ _ _ (And.intro (fun _ => ?_) (fun hc => absurd hc (by decide))) | refine hP _ _ _ _ _ _ (And.intro (fun hc => absurd hc (by decide)) (fun _ => ?_)))
            exact hP _ _ _ _ _ _ (h0)
  repeat (first | (refine hP _ _ _ _ _ _ ?_; show P _ _ _ _ _ _) | (refine hP _ _ _ _ _ _ (And.intro (hN _ _ _ rfl) ?_); show P _ _ (aR _ _ :: _) _ _ _))
  exact loop 5 0 N 0 (fun _ => 0) S none (by omega) hNb (by omega) (Ag.rf _ _) (fun k hk => by omega) rfl
