/-! strike: the model's ring -/
theorem n_ringOf {d n N : Nat} {S : St} {K : KT} (hd : 3 ≤ d) (hN : NN S) (h1 : S.1 40 0 12 = nI n) (hn : n ≤ 5) (hNb : N < 2 ^ 31)
    (h0 : ∀ S', Ag (fun j _ _ => j = 48) S S' → rdR n 5 N 0 0 (fun _ => 0) = none → K (some (aI 0)) S')
    (hs : ∀ S' r l v, Ag (fun j _ _ => j = 48) S S' → rdR n 5 N 0 0 (fun _ => 0) = some (r, l, v) → l ≤ 5 → (∀ k, k < l → S'.1 48 0 k = nI (v k)) → K (some (aI (nI (if N ≤ 54321 ∧ 2 ≤ l then l else 0)))) S') : Call d m_X6_ringOf [aR 40 0, aI (nI N)] S K := by
  refine Call.of (k := 2) hd (fun e he P hP => ?_)
  have hN0 := hN
  have ex : ∀ r m l v S1 x, l ≤ 5 → Ag (fun j _ _ => j = 48) S S1 → (∀ k, k < l → S1.1 48 0 k = nI (v k)) → some (r, l, v) = rdR n 5 N 0 0 (fun _ => 0) → P 79 [some (aR 40 0), some (aI (nI N)), some (aI (nI l)), some (aI (nI m)), some (aI (nI r)), x] [aI 54321, aI (nI N)] S1 0 0 := by
    intro r m l v S1 x hl g1 c1 he
    have hs := hs S1 r l v g1 he.symm hl c1
    by_cases e : N ≤ 54321
    · refine hP _ _ _ _ _ _ (And.intro (fun hc => absurd hc (nI_nlt (a := 54321) (b := N) e (by omega))) (fun _ => ?_))
      repeat (first | (refine hP _ _ _ _ _ _ ?_; show P _ _ _ _ _ _) | (refine hP _ _ _ _ _ _ (And.intro (hN _ _ _ rfl) ?_); show P _ _ (aR _ _ :: _) _ _ _))
      by_cases e2 : 2 ≤ l
      · rw [if_pos ⟨e, e2⟩] at hs
        refine hP _ _ _ _ _ _ (And.intro (fun _ => ?_) (fun hc => absurd (nI_le (a := 2) (b := l) e2 (by omega)) hc))
        repeat (first | (refine hP _ _ _ _ _ _ ?_; show P _ _ _ _ _ _) | (refine hP _ _ _ _ _ _ (And.intro (hN _ _ _ rfl) ?_); show P _ _ (aR _ _ :: _) _ _ _))
        exact hP _ _ _ _ _ _ (hs)
      · rw [if_neg (fun z => e2 z.2)] at hs
        refine hP _ _ _ _ _ _ (And.intro (fun hc => absurd hc (nI_ge (a := l) (b := 2) (by omega) (by omega))) (fun _ => ?_))
        repeat (first | (refine hP _ _ _ _ _ _ ?_; show P _ _ _ _ _ _) | (refine hP _ _ _ _ _ _ (And.intro (hN _ _ _ rfl) ?_); show P _ _ (aR _ _ :: _) _ _ _))
        exact hP _ _ _ _ _ _ (hs)
    · rw [if_neg (fun z => e z.1)] at hs
      refine hP _ _ _ _ _ _ (And.intro (fun _ => ?_) (fun hc => absurd (nI_lt (a := 54321) (b := N) (by omega) (by omega)) hc))
      repeat (first | (refine hP _ _ _ _ _ _ ?_; show P _ _ _ _ _ _) | (refine hP _ _ _ _ _ _ (And.intro (hN _ _ _ rfl) ?_); show P _ _ (aR _ _ :: _) _ _ _))
      exact hP _ _ _ _ _ _ (hs)
  have loop : ∀ f l r m v S1 x, l + f = 5 → r < 2 ^ 31 → m < 32 → Ag (fun j _ _ => j = 48) S S1 → (∀ k, k < l → S1.1 48 0 k = nI (v k)) → rdR n f r m l v = rdR n 5 N 0 0 (fun _ => 0) → P 9 [some (aR 40 0), some (aI (nI N)), some (aI (nI l)), some (aI (nI m)), some (aI (nI r)), x] [aI (nI r)] S1 0 0 := by
    intro f
    induction f with
    | zero =>
      intro l r m v S1 x hl hr hm g1 c1 he
      have := ex r m l v S1 x (by omega) g1 c1 he
      refine hP _ _ _ _ _ _ (le0 hr (fun hc => ?_) (fun hc => ?_))
      · repeat (first | (refine hP _ _ _ _ _ _ ?_; show P _ _ _ _ _ _) | (refine hP _ _ _ _ _ _ (And.intro (hN _ _ _ rfl) ?_); show P _ _ (aR _ _ :: _) _ _ _))
        exact this
      · repeat (first | (refine hP _ _ _ _ _ _ ?_; show P _ _ _ _ _ _) | (refine hP _ _ _ _ _ _ (And.intro (hN _ _ _ rfl) ?_); show P _ _ (aR _ _ :: _) _ _ _))
        refine hP _ _ _ _ _ _ (And.intro (fun _ => ?_) (fun hc => absurd (nI_le (a := 5) (b := l) (by omega) (by omega)) hc))
        repeat (first | (refine hP _ _ _ _ _ _ ?_; show P _ _ _ _ _ _) | (refine hP _ _ _ _ _ _ (And.intro (hN _ _ _ rfl) ?_); show P _ _ (aR _ _ :: _) _ _ _))
        exact this
    | succ f ih =>
      intro l r m v S1 x hl hr hm g1 c1 he
      have hN := hN0.up g1
      have h11 : S1.1 40 0 12 = nI n := by rw [g1.1 40 0 12 (by simp)]; exact h1
      simp only [rdR] at he
      by_cases r0 : r = 0
      · rw [if_pos r0] at he
        subst r0
        have := ex 0 m l v S1 x (by omega) g1 c1 he
        refine hP _ _ _ _ _ _ (And.intro (fun _ => ?_) (fun hc => absurd (by decide) hc))
        repeat (first | (refine hP _ _ _ _ _ _ ?_; show P _ _ _ _ _ _) | (refine hP _ _ _ _ _ _ (And.intro (hN _ _ _ rfl) ?_); show P _ _ (aR _ _ :: _) _ _ _))
        exact this
      · rw [if_neg r0] at he
        refine hP _ _ _ _ _ _ (And.intro (fun hc => absurd hc (nI_nle (show 0 < r by omega) hr)) (fun _ => ?_))
        repeat (first | (refine hP _ _ _ _ _ _ ?_; show P _ _ _ _ _ _) | (refine hP _ _ _ _ _ _ (And.intro (hN _ _ _ rfl) ?_); show P _ _ (aR _ _ :: _) _ _ _))
        refine hP _ _ _ _ _ _ (And.intro (fun hc => absurd hc (nI_ge (a := l) (b := 5) (by omega) (by omega))) (fun _ => ?_))
        repeat (first | (refine hP _ _ _ _ _ _ ?_; show P _ _ _ _ _ _) | (refine hP _ _ _ _ _ _ (And.intro (hN _ _ _ rfl) ?_); show P _ _ (aR _ _ :: _) _ _ _))
        refine hP _ _ _ _ _ _ (And.intro (by decide) ?_)
        rw [show nI r - nI r / 10 * 10 = nI (r % 10) from pk_rem (d := 10) hr (by decide) (by decide)]
        repeat (first | (refine hP _ _ _ _ _ _ ?_; show P _ _ _ _ _ _) | (refine hP _ _ _ _ _ _ (And.intro (hN _ _ _ rfl) ?_); show P _ _ (aR _ _ :: _) _ _ _))
        refine hP _ _ _ _ _ _ (n_isOne (by omega) h11 hn ?_)
        by_cases z0 : r % 10 = 0
        · rw [if_neg (by omega)] at he
          have h0 := h0 S1 g1 he.symm
          rw [z0, show isD n (nI 0 - 1) = false from decide_eq_false (fun z => absurd z.1 (by decide))]
          repeat (first | (refine hP _ _ _ _ _ _ ?_; show P _ _ _ _ _ _) | (refine hP _ _ _ _ _ _ (And.intro (hN _ _ _ rfl) ?_); show P _ _ (aR _ _ :: _) _ _ _) | refine hP _ _ _ _ _ _ (And.intro (fun _ => ?_) (fun hc => absurd hc (by decide))) | refine hP _ _ _ _ _ _ (And.intro (fun hc => absurd hc (by decide)) (fun _ => ?_)))
          exact hP _ _ _ _ _ _ (h0)
        · obtain ⟨o, ho⟩ : ∃ o, r % 10 = o + 1 := ⟨r % 10 - 1, by omega⟩
          rw [ho, nI_pred, isD_N (by omega) (by omega)]
          rw [ho, show o + 1 - 1 = o by omega] at he
          by_cases on : o < n
          · rw [decide_eq_true on]
            repeat (first | (refine hP _ _ _ _ _ _ ?_; show P _ _ _ _ _ _) | (refine hP _ _ _ _ _ _ (And.intro (hN _ _ _ rfl) ?_); show P _ _ (aR _ _ :: _) _ _ _) | refine hP _ _ _ _ _ _ (And.intro (fun _ => ?_) (fun hc => absurd hc (by decide))) | refine hP _ _ _ _ _ _ (And.intro (fun hc => absurd hc (by decide)) (fun _ => ?_)))
            cases hb : m.testBit o with
            | true =>
              rw [if_neg (fun z => by rw [hb] at z; exact absurd z.2.2 (by decide))] at he
              have h0 := h0 S1 g1 he.symm
              refine hP _ _ _ _ _ _ (And.intro (fun hc => absurd hc (fun z => z ((bit51 m hm o (by omega)).mpr hb))) (fun _ => ?_))
              repeat (first | (refine hP _ _ _ _ _ _ ?_; show P _ _ _ _ _ _) | (refine hP _ _ _ _ _ _ (And.intro (hN _ _ _ rfl) ?_); show P _ _ (aR _ _ :: _) _ _ _))
              exact hP _ _ _ _ _ _ (h0)
            | false =>
              rw [if_pos ⟨on, by omega, hb⟩] at he
              obtain ⟨o1, o2⟩ := or51 m hm o (by omega)
              refine hP _ _ _ _ _ _ (And.intro (fun _ => ?_) (fun hc => absurd ((bit51 m hm o (by omega)).mp hc) (by rw [hb]; decide)))
              repeat (first | (refine hP _ _ _ _ _ _ ?_; show P _ _ _ _ _ _) | (refine hP _ _ _ _ _ _ (And.intro (hN _ _ _ rfl) ?_); show P _ _ (aR _ _ :: _) _ _ _))
              refine hP _ _ _ _ _ _ (Exists.intro (l) (And.intro (And.intro (rfl) (by show l < 5; omega)) ?_))
              repeat (first | (refine hP _ _ _ _ _ _ ?_; show P _ _ _ _ _ _) | (refine hP _ _ _ _ _ _ (And.intro (hN _ _ _ rfl) ?_); show P _ _ (aR _ _ :: _) _ _ _))
              refine hP _ _ _ _ _ _ (And.intro (by decide) ?_)
              rw [show nI r / 10 = nI (r / 10) from pk_div (d := 10) hr (by decide) (by decide), o1]
              have := ih (l + 1) (r / 10) (m ||| 2 ^ o) (uN v l o) (ivSet S1 48 0 l (nI o)) (some (aI (nI o))) (by omega) (by omega) o2 (g1.tr (Ag.iv rfl)) (fun k hk => by
                show _ = nI (if k = l then o else v k)
                by_cases e : k = l
                · rw [e, iv_at, if_pos rfl]
                · rw [iv_ne (by omega), if_neg e]
                  exact c1 k (by omega)) he
              rw [nI_succ l] at this
              repeat (first | (refine hP _ _ _ _ _ _ ?_; show P _ _ _ _ _ _) | (refine hP _ _ _ _ _ _ (And.intro (hN _ _ _ rfl) ?_); show P _ _ (aR _ _ :: _) _ _ _))
              exact this
          · rw [decide_eq_false on]
            rw [if_neg (fun z => on z.1)] at he
            have h0 := h0 S1 g1 he.symm
            repeat (first | (refine hP _ _ _ _ _ _ ?_; show P _ _ _ _ _ _) | (refine hP _ _ _ _ _ _ (And.intro (hN _ _ _ rfl) ?_); show P _ _ (aR _ _ :: _) _ _ _) | refine hP _ _ _ _ _ _ (And.intro (fun _ => ?_) (fun hc => absurd hc (by decide))) | refine hP _ _ _ _ _ _ (And.intro (fun hc => absurd hc (by decide)) (fun _ => ?_)))
            exact hP _ _ _ _ _ _ (h0)
  repeat (first | (refine hP _ _ _ _ _ _ ?_; show P _ _ _ _ _ _) | (refine hP _ _ _ _ _ _ (And.intro (hN _ _ _ rfl) ?_); show P _ _ (aR _ _ :: _) _ _ _))
  exact loop 5 0 N 0 (fun _ => 0) S none (by omega) hNb (by omega) (Ag.rf _ _) (fun k hk => by omega) rfl
/-- what is read: the members, each once; the digits -/
def dgN : (Nat → Nat) → Nat → Nat
  | _, 0 => 0
  | v, l + 1 => dgN v l + (v l + 1) * 10 ^ l
theorem dgN_congr {v w : Nat → Nat} : ∀ {l : Nat}, (∀ k, k < l → v k = w k) → dgN v l = dgN w l
  | 0, _ => rfl
  | l + 1, h => by
    simp only [dgN]
    rw [dgN_congr (fun k hk => h k (by omega)), h l (by omega)]
theorem rdR_ok {n N : Nat} (hn : n ≤ 5) : ∀ (f l r m : Nat) (v : Nat → Nat), l + f = 5 → m < 32 → (∀ k, k < l → v k < n ∧ m.testBit (v k) = true) → (∀ a b, a < l → b < l → v a = v b → a = b) → N = dgN v l + r * 10 ^ l → ∀ r' l' w, rdR n f r m l v = some (r', l', w) → l' ≤ 5 ∧ (∀ k, k < l' → w k < n) ∧ (∀ a b, a < l' → b < l' → w a = w b → a = b) ∧ N = dgN w l' + r' * 10 ^ l' ∧ (r' = 0 ∨ l' = 5)
  | 0, l, r, m, v, hl, _, h1, h2, h3, r', l', w, he => by
    simp only [rdR, Option.some.injEq, Prod.mk.injEq] at he
    obtain ⟨rfl, rfl, rfl⟩ := he
    exact ⟨by omega, fun k hk => (h1 k hk).1, h2, h3, Or.inr (by omega)⟩
  | f + 1, l, r, m, v, hl, hm, h1, h2, h3, r', l', w, he => by
    simp only [rdR] at he
    by_cases r0 : r = 0
    · rw [if_pos r0] at he
      simp only [Option.some.injEq, Prod.mk.injEq] at he
      obtain ⟨rfl, rfl, rfl⟩ := he
      rw [r0] at h3
      exact ⟨by omega, fun k hk => (h1 k hk).1, h2, h3, Or.inl rfl⟩
    · rw [if_neg r0] at he
      by_cases c : r % 10 - 1 < n ∧ 0 < r % 10 ∧ m.testBit (r % 10 - 1) = false
      · rw [if_pos c] at he
        obtain ⟨c1, c2, c3⟩ := c
        obtain ⟨o, ho⟩ : ∃ o, r % 10 = o + 1 := ⟨r % 10 - 1, by omega⟩
        rw [ho, show o + 1 - 1 = o by omega] at he c1 c3
        have on : ∀ k, k < l → ¬ v k = o := fun k hk e => by
          have := (h1 k hk).2
          rw [e, c3] at this
          cases this
        have ul : uN v l o l = o := if_pos rfl
        have un : ∀ k, k < l → uN v l o k = v k := fun k hk => if_neg (by omega)
        refine rdR_ok hn f (l + 1) (r / 10) (m ||| 2 ^ o) (uN v l o) (by omega) (or51 m hm o (by omega)).2 (fun k hk => ?_) (fun a b ha hb e => ?_) ?_ r' l' w he
        · by_cases e : k = l
          · rw [e, ul]
            exact ⟨c1, by rw [Nat.testBit_or, Nat.testBit_two_pow_self, Bool.or_true]⟩
          · rw [un k (by omega)]
            exact ⟨(h1 k (by omega)).1, by rw [Nat.testBit_or, (h1 k (by omega)).2, Bool.true_or]⟩
        · by_cases ea : a = l
          · by_cases eb : b = l
            · omega
            · rw [ea, ul, un b (by omega)] at e
              exact absurd e.symm (on b (by omega))
          · by_cases eb : b = l
            · rw [eb, ul, un a (by omega)] at e
              exact absurd e (on a (by omega))
            · rw [un a (by omega), un b (by omega)] at e
              exact h2 a b (by omega) (by omega) e
        · simp only [dgN]
          rw [dgN_congr un, ul, h3, Nat.pow_succ, ← ho]
          have := Nat.div_add_mod r 10
          have e2 : r / 10 * (10 ^ l * 10) = 10 * (r / 10) * 10 ^ l := by
            rw [Nat.mul_comm (10 ^ l) 10, ← Nat.mul_assoc, Nat.mul_comm (r / 10) 10]
          rw [e2, Nat.add_assoc, ← Nat.add_mul]
          congr 2
          omega
      · rw [if_neg c] at he
        cases he
