/-! the class, out of claim whole -/
def nrw (s : Nat) (v : Int32) : Int32 := if s = 1 then v.toInt8.toInt32 else if s = 2 then v.toInt16.toInt32 else v
theorem c_put {d g i s : Nat} {S : St} {K : KT} {v : Int32} (hd : 1 ≤ d) (hN : NN S) (hs : S.1 20 g 0 = nI s - 1) (hs1 : 1 ≤ s) (hs3 : s ≤ 3) (hi : i < 40) (h : K none (ivSet S 21 g i (nrw s v))) : Call d m_X3_put [aR 20 g, aI (nI i), aI v] S K := by
  refine Call.of (k := 0) hd (fun e he P hP => ?_)
  repeat (first | (refine hP _ _ _ _ _ _ ?_; show P _ _ _ _ _ _) | (refine hP _ _ _ _ _ _ (And.intro (hN _ _ _ rfl) ?_); show P _ _ (aR _ _ :: _) _ _ _))
  rw [hs]
  rcases (show s = 1 ∨ s = 2 ∨ s = 3 by omega) with rfl | rfl | rfl
  · have h : K none (ivSet S 21 g i v.toInt8.toInt32) := h
    repeat (first | (refine hP _ _ _ _ _ _ ?_; show P _ _ _ _ _ _) | (refine hP _ _ _ _ _ _ (And.intro (hN _ _ _ rfl) ?_); show P _ _ (aR _ _ :: _) _ _ _) | refine hP _ _ _ _ _ _ (And.intro (fun _ => ?_) (fun hc => absurd hc (by decide))) | refine hP _ _ _ _ _ _ (And.intro (fun hc => absurd hc (by decide)) (fun _ => ?_)))
    refine hP _ _ _ _ _ _ (Exists.intro (i) (And.intro (And.intro (rfl) (show i < 40 from hi)) ?_))
    exact hP _ _ _ _ _ _ (h)
  · have h : K none (ivSet S 21 g i v.toInt16.toInt32) := h
    refine hP _ _ _ _ _ _ (And.intro (fun _ => ?_) (fun hc => absurd hc (by decide)))
    repeat (first | (refine hP _ _ _ _ _ _ ?_; show P _ _ _ _ _ _) | (refine hP _ _ _ _ _ _ (And.intro (hN _ _ _ rfl) ?_); show P _ _ (aR _ _ :: _) _ _ _))
    rw [hs]
    repeat (first | (refine hP _ _ _ _ _ _ ?_; show P _ _ _ _ _ _) | (refine hP _ _ _ _ _ _ (And.intro (hN _ _ _ rfl) ?_); show P _ _ (aR _ _ :: _) _ _ _) | refine hP _ _ _ _ _ _ (And.intro (fun _ => ?_) (fun hc => absurd hc (by decide))) | refine hP _ _ _ _ _ _ (And.intro (fun hc => absurd hc (by decide)) (fun _ => ?_)))
    refine hP _ _ _ _ _ _ (Exists.intro (i) (And.intro (And.intro (rfl) (show i < 40 from hi)) ?_))
    exact hP _ _ _ _ _ _ (h)
  · have h : K none (ivSet S 21 g i v) := h
    refine hP _ _ _ _ _ _ (And.intro (fun _ => ?_) (fun hc => absurd hc (by decide)))
    repeat (first | (refine hP _ _ _ _ _ _ ?_; show P _ _ _ _ _ _) | (refine hP _ _ _ _ _ _ (And.intro (hN _ _ _ rfl) ?_); show P _ _ (aR _ _ :: _) _ _ _))
    rw [hs]
    repeat (first | (refine hP _ _ _ _ _ _ ?_; show P _ _ _ _ _ _) | (refine hP _ _ _ _ _ _ (And.intro (hN _ _ _ rfl) ?_); show P _ _ (aR _ _ :: _) _ _ _) | refine hP _ _ _ _ _ _ (And.intro (fun _ => ?_) (fun hc => absurd hc (by decide))) | refine hP _ _ _ _ _ _ (And.intro (fun hc => absurd hc (by decide)) (fun _ => ?_)))
    refine hP _ _ _ _ _ _ (Exists.intro (i) (And.intro (And.intro (rfl) (show i < 40 from hi)) ?_))
    exact hP _ _ _ _ _ _ (h)
def wTx : WW := fun j _ _ => j = 7 ∨ j = 9 ∨ j = 17 ∨ j = 30 ∨ j = 31 ∨ j = 32 ∨ j = 1
theorem PV.tx {F : Fl} {I : Option Fl} {nT : Nat} (h : PV F I nT) (hn : nT < 6) : PV F I (nT + 1) := by
  obtain ⟨p1, p2, p3, p4⟩ := h
  have w : ∀ G, WF nT G → WF (nT + 1) G := fun G hG => ⟨hG.1, by have := hG.2.1; omega, by omega, hG.2.2.2⟩
  exact ⟨w F p1, p2, p3, fun G hG => by
    obtain ⟨a1, a2⟩ := p4 G hG
    exact ⟨w G a1, a2⟩⟩
theorem byN_id : ∀ p, p < 128 → (nI p).toInt8.toInt32 = nI p := by decide
theorem wSH_ok : okW wSH := by
  intro j g k hj
  simp only [wSH] at hj
  omega
theorem wSH_F (f : Nat) : okF wSH f := by
  intro j k hj
  simp only [wSH] at hj
  omega
theorem c_film {tv : TV} {nT d g a b n : Nat} {S : St} {K : KT} {F : Fl} (hd : 100 ≤ d) (hX : FX tv nT S 0 F) (hg : g < 4) (ha : a < F.n) (hb : b < F.n) (hab : ¬ a = b) (hn : n ≤ 30) (hp : ∀ o, o ≤ 30 → pyN tv F a o ≤ o) (h : ∀ S', Ag (fun j i k => j = 4 ∨ j = 5 ∨ (i = g ∧ (j = 20 ∨ j = 21))) S S' → S'.1 20 g 0 = 0 → S'.1 20 g 1 = nI n → (∀ k, k < n → S'.1 21 g k = nI (pyN tv F a k)) → K (some (aI (nI (sN (pyN tv F a) n)))) S') : Call d m_X5_film [aR 0 0, aI (nI g), aI (nI a), aI (nI b), aI (nI n)] S K := by
  refine Call.of (k := 99) hd (fun e he P hP => ?_)
  have hN := hX.1.1
  have hn5 := hX.2.2.1
  repeat (first | (refine hP _ _ _ _ _ _ ?_; show P _ _ _ _ _ _) | (refine hP _ _ _ _ _ _ (And.intro (hN _ _ _ rfl) ?_); show P _ _ (aR _ _ :: _) _ _ _))
  refine hP _ _ _ _ _ _ (c_isSheet (by omega) ?_)
  rw [isD_N (by omega) (by omega), decide_eq_true hg]
  repeat (first | (refine hP _ _ _ _ _ _ ?_; show P _ _ _ _ _ _) | (refine hP _ _ _ _ _ _ (And.intro (hN _ _ _ rfl) ?_); show P _ _ (aR _ _ :: _) _ _ _) | refine hP _ _ _ _ _ _ (And.intro (fun _ => ?_) (fun hc => absurd hc (by decide))) | refine hP _ _ _ _ _ _ (And.intro (fun hc => absurd hc (by decide)) (fun _ => ?_)))
  refine hP _ _ _ _ _ _ (c_isTwo (by omega) hN hX.2.1.1 hn5 ?_)
  rw [isT_n hn5 (by omega) (by omega), decide_eq_true ha, decide_eq_true hb, decide_eq_true hab]
  repeat (first | (refine hP _ _ _ _ _ _ ?_; show P _ _ _ _ _ _) | (refine hP _ _ _ _ _ _ (And.intro (hN _ _ _ rfl) ?_); show P _ _ (aR _ _ :: _) _ _ _) | refine hP _ _ _ _ _ _ (And.intro (fun _ => ?_) (fun hc => absurd hc (by decide))) | refine hP _ _ _ _ _ _ (And.intro (fun hc => absurd hc (by decide)) (fun _ => ?_)))
  refine hP _ _ _ _ _ _ (And.intro (fun hc => absurd hc (nI_pos (by omega))) (fun _ => ?_))
  repeat (first | (refine hP _ _ _ _ _ _ ?_; show P _ _ _ _ _ _) | (refine hP _ _ _ _ _ _ (And.intro (hN _ _ _ rfl) ?_); show P _ _ (aR _ _ :: _) _ _ _))
  refine hP _ _ _ _ _ _ (And.intro (fun _ => ?_) (fun hc => absurd (nI_le (a := n) (b := 30) hn (by omega)) hc))
  repeat (first | (refine hP _ _ _ _ _ _ ?_; show P _ _ _ _ _ _) | (refine hP _ _ _ _ _ _ (And.intro (hN _ _ _ rfl) ?_); show P _ _ (aR _ _ :: _) _ _ _))
  refine hP _ _ _ _ _ _ (Exists.intro (g) (And.intro (And.intro (rfl) (show g < 4 from hg)) ?_))
  refine And.intro (hN _ _ _ (nn18 hg)) ?_
  show P _ _ (aR 20 g :: _) _ _ _
  repeat (first | (refine hP _ _ _ _ _ _ ?_; show P _ _ _ _ _ _) | (refine hP _ _ _ _ _ _ (And.intro (hN _ _ _ rfl) ?_); show P _ _ (aR _ _ :: _) _ _ _))
  refine hP _ _ _ _ _ _ (c_become (by omega) hN (fun S0 g0 a1 a2 a3 => ?_))
  have g0 : Ag (fun j i k => j = 4 ∨ j = 5 ∨ (i = g ∧ (j = 20 ∨ j = 21))) S S0 := g0.mono (fun j i k z => Or.inr (Or.inr z))
  have wsh : ∀ j i k, (fun j i _ => j = 4 ∨ j = 5 ∨ (i = g ∧ (j = 20 ∨ j = 21)) : WW) j i k → wSH j i k := fun j i k z => by
    simp only [wSH]
    omega
  have loop : ∀ p, p ≤ n → ∀ S1 x8, Ag (fun j i k => j = 4 ∨ j = 5 ∨ (i = g ∧ j = 21)) S0 S1 → (∀ k, k < p → S1.1 21 g k = nI (pyN tv F a k)) → P 57 [some (aR 0 0), some (aI (nI g)), some (aI (nI a)), some (aI (nI b)), some (aI (nI n)), some (aR 20 g), some (aI (nI (sN (pyN tv F a) p))), some (aI (nI p)), x8] [aI (nI n), aI (nI p)] S1 0 0 := by
    refine dn ?_ ?_
    · intro S1 x8 g1 c1
      refine hP _ _ _ _ _ _ (And.intro (fun _ => ?_) (fun hc => absurd (nI_le (Nat.le_refl n) (by omega)) hc))
      repeat (first | (refine hP _ _ _ _ _ _ ?_; show P _ _ _ _ _ _) | (refine hP _ _ _ _ _ _ (And.intro (hN _ _ _ rfl) ?_); show P _ _ (aR _ _ :: _) _ _ _))
      exact hP _ _ _ _ _ _ (h S1 (g0.tr (g1.mono (fun j i k z => by omega))) (by rw [g1.1 20 g 0 (by simp)]; exact a1) (by rw [g1.1 20 g 1 (by simp)]; exact a2) c1)
    · intro p hpn ih S1 x8 g1 c1
      have hX1 := (hX.up (g0.mono wsh) wSH_ok (wSH_F 0)).up (g1.mono (fun j i k z => by simp only [wSH]; omega)) wSH_ok (wSH_F 0)
      have hN := hX1.1.1
      have hpy := hp p (by omega)
      rw [nI_succ p] at ih
      refine hP _ _ _ _ _ _ (And.intro (fun hc => absurd hc (nI_ge hpn (by omega))) (fun _ => ?_))
      repeat (first | (refine hP _ _ _ _ _ _ ?_; show P _ _ _ _ _ _) | (refine hP _ _ _ _ _ _ (And.intro (hN _ _ _ rfl) ?_); show P _ _ (aR _ _ :: _) _ _ _))
      refine hP _ _ _ _ _ _ (q_pays (by omega) hX1 ha (fun S2 g2 => ?_))
      have hN := hX1.1.1.up g2
      have e20 : S2.1 20 g 0 = nI 1 - 1 := by
        rw [g2.1 20 g 0 (by simp [w0]), g1.1 20 g 0 (by simp)]
        exact a1
      repeat (first | (refine hP _ _ _ _ _ _ ?_; show P _ _ _ _ _ _) | (refine hP _ _ _ _ _ _ (And.intro (hN _ _ _ rfl) ?_); show P _ _ (aR _ _ :: _) _ _ _))
      refine hP _ _ _ _ _ _ (c_put (s := 1) (by omega) hN e20 (by omega) (by omega) (by omega) ?_)
      have ev : nrw 1 (nI (pyN tv F a p)) = nI (pyN tv F a p) := byN_id _ (by omega)
      rw [ev]
      have := ih (ivSet S2 21 g p (nI (pyN tv F a p))) (some (aI (nI (pyN tv F a p)))) ((g1.tr (g2.mono (fun j i k z => by simp only [w0] at z; omega))).tr (Ag.iv (Or.inr (Or.inr ⟨rfl, rfl⟩)))) (fun k hk => by
        by_cases e : k = p
        · rw [e, iv_at]
        · rw [iv_ne (by omega), g2.1 21 g k (by simp [w0])]
          exact c1 k (by omega))
      rw [show sN (pyN tv F a) (p + 1) = sN (pyN tv F a) p + pyN tv F a p from rfl, ← nI_add] at this
      repeat (first | (refine hP _ _ _ _ _ _ ?_; show P _ _ _ _ _ _) | (refine hP _ _ _ _ _ _ (And.intro (hN _ _ _ rfl) ?_); show P _ _ (aR _ _ :: _) _ _ _))
      exact this
  repeat (first | (refine hP _ _ _ _ _ _ ?_; show P _ _ _ _ _ _) | (refine hP _ _ _ _ _ _ (And.intro (hN _ _ _ rfl) ?_); show P _ _ (aR _ _ :: _) _ _ _))
  exact loop 0 (by omega) S0 none (Ag.rf _ _) (fun k hk => by omega)
theorem nI_m1 {k : Nat} (hk : k < 2 ^ 31) : ¬ nI k = -1 := fun z => by
  have := congrArg Int32.toInt z
  rw [nI_toInt hk] at this
  have e : (-1 : Int32).toInt = -1 := by decide
  omega
def rdR (n : Nat) : Nat → Nat → Nat → Nat → (Nat → Nat) → Option (Nat × Nat × (Nat → Nat))
  | 0, r, _, l, v => some (r, l, v)
  | f + 1, r, m, l, v => if r = 0 then some (0, l, v) else if r % 10 - 1 < n ∧ 0 < r % 10 ∧ m.testBit (r % 10 - 1) = false then rdR n f (r / 10) (m ||| 2 ^ (r % 10 - 1)) (l + 1) (uN v l (r % 10 - 1)) else none
theorem bit51 : ∀ m, m < 32 → ∀ x, x < 5 → (((nI m >>> (nI x &&& 31)) &&& 1 = 1) ↔ m.testBit x = true) := by
  have h : ∀ m, m < 32 → ∀ x, x < 5 → decide ((nI m >>> (nI x &&& 31)) &&& 1 = 1) = (m.testBit x) := by decide +kernel
  intro m hm x hx
  have := h m hm x hx
  rw [← this]
  exact (decide_eq_true_iff).symm
theorem or51 : ∀ m, m < 32 → ∀ x, x < 5 → nI m ||| ((1 : Int32) <<< (nI x &&& 31)) = nI (m ||| 2 ^ x) ∧ (m ||| 2 ^ x) < 32 := by decide +kernel
theorem c_readRing {d n N : Nat} {S : St} {K : KT} (hd : 3 ≤ d) (hN : NN S) (h1 : S.1 10 0 1 = nI n) (hn : n ≤ 5) (hNb : N < 2 ^ 31)
    (h0 : ∀ S', Ag (fun j _ _ => j = 19) S S' → rdR n 5 N 0 0 (fun _ => 0) = none → K (some (aI 0)) S')
    (hs : ∀ S' r l v, Ag (fun j _ _ => j = 19) S S' → rdR n 5 N 0 0 (fun _ => 0) = some (r, l, v) → l ≤ 5 → (∀ k, k < l → S'.1 19 0 k = nI (v k)) → K (some (aI (nI (if r = 0 then l else 0)))) S') : Call d m_X5_readRing [aR 0 0, aI (nI N)] S K := by
  refine Call.of (k := 2) hd (fun e he P hP => ?_)
  have hN0 := hN
  have ex : ∀ r m l v S1 x, r < 2 ^ 31 → l ≤ 5 → Ag (fun j _ _ => j = 19) S S1 → (∀ k, k < l → S1.1 19 0 k = nI (v k)) → some (r, l, v) = rdR n 5 N 0 0 (fun _ => 0) → P 78 [some (aR 0 0), some (aI (nI N)), some (aI (nI m)), some (aI (nI r)), some (aI (nI l)), x] [aI (nI r)] S1 0 0 := by
    intro r m l v S1 x hr hl g1 c1 he
    have hs := hs S1 r l v g1 he.symm hl c1
    by_cases e : r = 0
    · subst e
      rw [if_pos rfl] at hs
      refine hP _ _ _ _ _ _ (And.intro (fun hc => absurd hc (fun z => z rfl)) (fun _ => ?_))
      repeat (first | (refine hP _ _ _ _ _ _ ?_; show P _ _ _ _ _ _) | (refine hP _ _ _ _ _ _ (And.intro (hN _ _ _ rfl) ?_); show P _ _ (aR _ _ :: _) _ _ _))
      exact hP _ _ _ _ _ _ (hs)
    · rw [if_neg e] at hs
      refine hP _ _ _ _ _ _ (And.intro (fun _ => ?_) (fun hc => absurd hc (nI_nz hr (by omega))))
      repeat (first | (refine hP _ _ _ _ _ _ ?_; show P _ _ _ _ _ _) | (refine hP _ _ _ _ _ _ (And.intro (hN _ _ _ rfl) ?_); show P _ _ (aR _ _ :: _) _ _ _))
      exact hP _ _ _ _ _ _ (hs)
  have loop : ∀ f l r m v S1 x, l + f = 5 → r < 2 ^ 31 → m < 32 → Ag (fun j _ _ => j = 19) S S1 → (∀ k, k < l → S1.1 19 0 k = nI (v k)) → rdR n f r m l v = rdR n 5 N 0 0 (fun _ => 0) → P 14 [some (aR 0 0), some (aI (nI N)), some (aI (nI m)), some (aI (nI r)), some (aI (nI l)), x] [aI (nI 5), aI (nI l)] S1 0 0 := by
    intro f
    induction f with
    | zero =>
      intro l r m v S1 x hl hr hm g1 c1 he
      have := ex r m l v S1 x hr (by omega) g1 c1 he
      refine hP _ _ _ _ _ _ (And.intro (fun _ => ?_) (fun hc => absurd (nI_le (a := 5) (b := l) (by omega) (by omega)) hc))
      repeat (first | (refine hP _ _ _ _ _ _ ?_; show P _ _ _ _ _ _) | (refine hP _ _ _ _ _ _ (And.intro (hN _ _ _ rfl) ?_); show P _ _ (aR _ _ :: _) _ _ _))
      exact this
    | succ f ih =>
      intro l r m v S1 x hl hr hm g1 c1 he
      have hN := hN0.up g1
      have h11 : S1.1 10 0 1 = nI n := by rw [g1.1 10 0 1 (by simp)]; exact h1
      simp only [rdR] at he
      refine hP _ _ _ _ _ _ (And.intro (fun hc => absurd hc (nI_ge (a := l) (b := 5) (by omega) (by omega))) (fun _ => ?_))
      repeat (first | (refine hP _ _ _ _ _ _ ?_; show P _ _ _ _ _ _) | (refine hP _ _ _ _ _ _ (And.intro (hN _ _ _ rfl) ?_); show P _ _ (aR _ _ :: _) _ _ _))
      by_cases r0 : r = 0
      · rw [if_pos r0] at he
        subst r0
        have := ex 0 m l v S1 x (by omega) (by omega) g1 c1 he
        refine hP _ _ _ _ _ _ (And.intro (fun _ => ?_) (fun hc => absurd (by decide) hc))
        repeat (first | (refine hP _ _ _ _ _ _ ?_; show P _ _ _ _ _ _) | (refine hP _ _ _ _ _ _ (And.intro (hN _ _ _ rfl) ?_); show P _ _ (aR _ _ :: _) _ _ _))
        exact this
      · rw [if_neg r0] at he
        refine hP _ _ _ _ _ _ (And.intro (fun hc => absurd hc (nI_nle (show 0 < r by omega) hr)) (fun _ => ?_))
        repeat (first | (refine hP _ _ _ _ _ _ ?_; show P _ _ _ _ _ _) | (refine hP _ _ _ _ _ _ (And.intro (hN _ _ _ rfl) ?_); show P _ _ (aR _ _ :: _) _ _ _))
        refine hP _ _ _ _ _ _ (And.intro (by decide) ?_)
        rw [show nI r - nI r / 10 * 10 = nI (r % 10) from pk_rem (d := 10) hr (by decide) (by decide)]
        repeat (first | (refine hP _ _ _ _ _ _ ?_; show P _ _ _ _ _ _) | (refine hP _ _ _ _ _ _ (And.intro (hN _ _ _ rfl) ?_); show P _ _ (aR _ _ :: _) _ _ _))
        refine hP _ _ _ _ _ _ (c_isDancer (by omega) hN h11 hn ?_)
        by_cases z0 : r % 10 = 0
        · rw [if_neg (by omega)] at he
          have h0 := h0 S1 g1 he.symm
          rw [z0, show isD n (nI 0 - 1) = false from decide_eq_false (fun z => absurd z.1 (by decide))]
          repeat (first | (refine hP _ _ _ _ _ _ ?_; show P _ _ _ _ _ _) | (refine hP _ _ _ _ _ _ (And.intro (hN _ _ _ rfl) ?_); show P _ _ (aR _ _ :: _) _ _ _) | refine hP _ _ _ _ _ _ (And.intro (fun _ => ?_) (fun hc => absurd hc (by decide))) | refine hP _ _ _ _ _ _ (And.intro (fun hc => absurd hc (by decide)) (fun _ => ?_)))
          exact hP _ _ _ _ _ _ (h0)
        · obtain ⟨o, ho⟩ : ∃ o, r % 10 = o + 1 := ⟨r % 10 - 1, by omega⟩
          rw [ho, nI_pred, isD_N (by omega) (by omega)]
          rw [ho, show o + 1 - 1 = o by omega] at he
          by_cases on : o < n
          · rw [decide_eq_true on]
            repeat (first | (refine hP _ _ _ _ _ _ ?_; show P _ _ _ _ _ _) | (refine hP _ _ _ _ _ _ (And.intro (hN _ _ _ rfl) ?_); show P _ _ (aR _ _ :: _) _ _ _) | refine hP _ _ _ _ _ _ (And.intro (fun _ => ?_) (fun hc => absurd hc (by decide))) | refine hP _ _ _ _ _ _ (And.intro (fun hc => absurd hc (by decide)) (fun _ => ?_)))
            cases hb : m.testBit o with
            | true =>
              rw [if_neg (fun z => by rw [hb] at z; exact absurd z.2.2 (by decide))] at he
              have h0 := h0 S1 g1 he.symm
              refine hP _ _ _ _ _ _ (And.intro (fun hc => absurd hc (fun z => z ((bit51 m hm o (by omega)).mpr hb))) (fun _ => ?_))
              repeat (first | (refine hP _ _ _ _ _ _ ?_; show P _ _ _ _ _ _) | (refine hP _ _ _ _ _ _ (And.intro (hN _ _ _ rfl) ?_); show P _ _ (aR _ _ :: _) _ _ _))
              exact hP _ _ _ _ _ _ (h0)
            | false =>
              rw [if_pos ⟨on, by omega, hb⟩] at he
              obtain ⟨o1, o2⟩ := or51 m hm o (by omega)
              refine hP _ _ _ _ _ _ (And.intro (fun _ => ?_) (fun hc => absurd ((bit51 m hm o (by omega)).mp hc) (by rw [hb]; decide)))
              repeat (first | (refine hP _ _ _ _ _ _ ?_; show P _ _ _ _ _ _) | (refine hP _ _ _ _ _ _ (And.intro (hN _ _ _ rfl) ?_); show P _ _ (aR _ _ :: _) _ _ _))
              refine hP _ _ _ _ _ _ (Exists.intro (l) (And.intro (And.intro (rfl) (by show l < 5; omega)) ?_))
              repeat (first | (refine hP _ _ _ _ _ _ ?_; show P _ _ _ _ _ _) | (refine hP _ _ _ _ _ _ (And.intro (hN _ _ _ rfl) ?_); show P _ _ (aR _ _ :: _) _ _ _))
              refine hP _ _ _ _ _ _ (And.intro (by decide) ?_)
              rw [show nI r / 10 = nI (r / 10) from pk_div (d := 10) hr (by decide) (by decide), o1]
              have := ih (l + 1) (r / 10) (m ||| 2 ^ o) (uN v l o) (ivSet S1 19 0 l (nI o)) (some (aI (nI o))) (by omega) (by omega) o2 (g1.tr (Ag.iv rfl)) (fun k hk => by
                show _ = nI (if k = l then o else v k)
                by_cases e : k = l
                · rw [e, iv_at, if_pos rfl]
                · rw [iv_ne (by omega), if_neg e]
                  exact c1 k (by omega)) he
              rw [nI_succ l] at this
              repeat (first | (refine hP _ _ _ _ _ _ ?_; show P _ _ _ _ _ _) | (refine hP _ _ _ _ _ _ (And.intro (hN _ _ _ rfl) ?_); show P _ _ (aR _ _ :: _) _ _ _))
              exact this
          · rw [decide_eq_false on]
            rw [if_neg (fun z => on z.1)] at he
            have h0 := h0 S1 g1 he.symm
            repeat (first | (refine hP _ _ _ _ _ _ ?_; show P _ _ _ _ _ _) | (refine hP _ _ _ _ _ _ (And.intro (hN _ _ _ rfl) ?_); show P _ _ (aR _ _ :: _) _ _ _) | refine hP _ _ _ _ _ _ (And.intro (fun _ => ?_) (fun hc => absurd hc (by decide))) | refine hP _ _ _ _ _ _ (And.intro (fun hc => absurd hc (by decide)) (fun _ => ?_)))
            exact hP _ _ _ _ _ _ (h0)
  repeat (first | (refine hP _ _ _ _ _ _ ?_; show P _ _ _ _ _ _) | (refine hP _ _ _ _ _ _ (And.intro (hN _ _ _ rfl) ?_); show P _ _ (aR _ _ :: _) _ _ _))
  exact loop 5 0 N 0 (fun _ => 0) S none (by omega) hNb (by omega) (Ag.rf _ _) (fun k hk => by omega) rfl

/-- what is read: the members, each once; the digits -/
def dgN : (Nat → Nat) → Nat → Nat
  | _, 0 => 0
  | v, l + 1 => dgN v l + (v l + 1) * 10 ^ l
theorem dgN_congr {v w : Nat → Nat} : ∀ {l : Nat}, (∀ k, k < l → v k = w k) → dgN v l = dgN w l
  | 0, _ => rfl
  | l + 1, h => by
    simp only [dgN]
    rw [dgN_congr (fun k hk => h k (by omega)), h l (by omega)]
theorem rdR_ok {n N : Nat} (hn : n ≤ 5) : ∀ (f l r m : Nat) (v : Nat → Nat), l + f = 5 → m < 32 → (∀ k, k < l → v k < n ∧ m.testBit (v k) = true) → (∀ a b, a < l → b < l → v a = v b → a = b) → N = dgN v l + r * 10 ^ l → ∀ r' l' w, rdR n f r m l v = some (r', l', w) → l' ≤ 5 ∧ (∀ k, k < l' → w k < n) ∧ (∀ a b, a < l' → b < l' → w a = w b → a = b) ∧ N = dgN w l' + r' * 10 ^ l' ∧ (r' = 0 ∨ l' = 5)
  | 0, l, r, m, v, hl, _, h1, h2, h3, r', l', w, he => by
    simp only [rdR, Option.some.injEq, Prod.mk.injEq] at he
    obtain ⟨rfl, rfl, rfl⟩ := he
    exact ⟨by omega, fun k hk => (h1 k hk).1, h2, h3, Or.inr (by omega)⟩
  | f + 1, l, r, m, v, hl, hm, h1, h2, h3, r', l', w, he => by
    simp only [rdR] at he
    by_cases r0 : r = 0
    · rw [if_pos r0] at he
      simp only [Option.some.injEq, Prod.mk.injEq] at he
      obtain ⟨rfl, rfl, rfl⟩ := he
      rw [r0] at h3
      exact ⟨by omega, fun k hk => (h1 k hk).1, h2, h3, Or.inl rfl⟩
    · rw [if_neg r0] at he
      by_cases c : r % 10 - 1 < n ∧ 0 < r % 10 ∧ m.testBit (r % 10 - 1) = false
      · rw [if_pos c] at he
        obtain ⟨c1, c2, c3⟩ := c
        obtain ⟨o, ho⟩ : ∃ o, r % 10 = o + 1 := ⟨r % 10 - 1, by omega⟩
        rw [ho, show o + 1 - 1 = o by omega] at he c1 c3
        have on : ∀ k, k < l → ¬ v k = o := fun k hk e => by
          have := (h1 k hk).2
          rw [e, c3] at this
          cases this
        have ul : uN v l o l = o := if_pos rfl
        have un : ∀ k, k < l → uN v l o k = v k := fun k hk => if_neg (by omega)
        refine rdR_ok hn f (l + 1) (r / 10) (m ||| 2 ^ o) (uN v l o) (by omega) (or51 m hm o (by omega)).2 (fun k hk => ?_) (fun a b ha hb e => ?_) ?_ r' l' w he
        · by_cases e : k = l
          · rw [e, ul]
            exact ⟨c1, by rw [Nat.testBit_or, Nat.testBit_two_pow_self, Bool.or_true]⟩
          · rw [un k (by omega)]
            exact ⟨(h1 k (by omega)).1, by rw [Nat.testBit_or, (h1 k (by omega)).2, Bool.true_or]⟩
        · by_cases ea : a = l
          · by_cases eb : b = l
            · omega
            · rw [ea, ul, un b (by omega)] at e
              exact absurd e.symm (on b (by omega))
          · by_cases eb : b = l
            · rw [eb, ul, un a (by omega)] at e
              exact absurd e (on a (by omega))
            · rw [un a (by omega), un b (by omega)] at e
              exact h2 a b (by omega) (by omega) e
        · simp only [dgN]
          rw [dgN_congr un, ul, h3, Nat.pow_succ, ← ho]
          have := Nat.div_add_mod r 10
          have e2 : r / 10 * (10 ^ l * 10) = 10 * (r / 10) * 10 ^ l := by
            rw [Nat.mul_comm (10 ^ l) 10, ← Nat.mul_assoc, Nat.mul_comm (r / 10) 10]
          rw [e2, Nat.add_assoc, ← Nat.add_mul]
          congr 2
          omega
      · rw [if_neg c] at he
        cases he

def nxR (l k : Nat) : Nat := (k + 1) % l
def mnR (F : Fl) (l : Nat) (v : Nat → Nat) : Nat → Nat
  | 0 => 99
  | k + 1 => if F.ow (v (nxR l k)) (v k) < mnR F l v k then F.ow (v (nxR l k)) (v k) else mnR F l v k
theorem mnR_le (F : Fl) (l : Nat) (v : Nat → Nat) : ∀ k, mnR F l v k ≤ 99
  | 0 => Nat.le_refl _
  | k + 1 => by
    have := mnR_le F l v k
    simp only [mnR]
    split <;> omega
theorem mnR_at (F : Fl) (l : Nat) (v : Nat → Nat) : ∀ k j, j < k → mnR F l v k ≤ F.ow (v (nxR l j)) (v j)
  | 0, j, hj => absurd hj (Nat.not_lt_zero j)
  | k + 1, j, hj => by
    simp only [mnR]
    by_cases e : j = k
    · rw [e]
      split <;> omega
    · have := mnR_at F l v k j (by omega)
      split <;> omega
/-- struck up to k -/
def skR (F : Fl) (l : Nat) (v : Nat → Nat) (m : Nat) : Nat → Fl
  | 0 => F
  | k + 1 => (skR F l v m k).sO (v (nxR l k)) (v k) (F.ow (v (nxR l k)) (v k) - m)
theorem skR_n (F : Fl) (l : Nat) (v : Nat → Nat) (m : Nat) : ∀ k, (skR F l v m k).n = F.n ∧ (skR F l v m k).rd = F.rd ∧ (skR F l v m k).ni = F.ni ∧ (skR F l v m k).ki = F.ki
  | 0 => ⟨rfl, rfl, rfl, rfl⟩
  | k + 1 => skR_n F l v m k
/-- what is not yet struck stands -/
theorem skR_ow {F : Fl} {l : Nat} {v : Nat → Nat} {m : Nat} (hv : ∀ a b, a < l → b < l → v a = v b → a = b) : ∀ k j, k ≤ j → j < l → (skR F l v m k).ow (v (nxR l j)) (v j) = F.ow (v (nxR l j)) (v j)
  | 0, j, _, _ => rfl
  | k + 1, j, hkj, hj => by
    show uN2 (skR F l v m k).ow (v (nxR l k)) (v k) _ (v (nxR l j)) (v j) = _
    unfold uN2
    rw [if_neg (fun z => by
      have := hv j k hj (by omega) z.2
      omega)]
    exact skR_ow hv k j (by omega) hj
theorem nxR_lt {l k : Nat} (h : 0 < l) : nxR l k < l := Nat.mod_lt _ h
theorem nI_subR {a b : Nat} (h : b ≤ a) (ha : a < 2 ^ 31) : nI a - nI b = nI (a - b) := by
  obtain ⟨c, rfl⟩ : ∃ c, a = c + b := ⟨a - b, by omega⟩
  rw [← nI_add, Int32.add_sub_cancel, show c + b - b = c by omega]
theorem q_lessenR {d a b m : Nat} {S : St} {K : KT} (hd : 1 ≤ d) (hN : NN S) (ha : a < 5) (hb : b < 5) {o : Nat} (ho : S.1 14 0 (5 * a + b) = nI o) (hm : m ≤ o) (ho2 : o < 2 ^ 31) (h : K none (ivSet S 14 0 (5 * a + b) (nI (o - m)))) : Call d m_X0_lessen [aR 10 0, aI (nI a), aI (nI b), aI (nI m)] S K := by
  refine Call.of (k := 0) hd (fun e he P hP => ?_)
  repeat (first | (refine hP _ _ _ _ _ _ ?_; show P _ _ _ _ _ _) | (refine hP _ _ _ _ _ _ (And.intro (hN _ _ _ rfl) ?_); show P _ _ (aR _ _ :: _) _ _ _))
  rw [ix5]
  refine hP _ _ _ _ _ _ (Exists.intro (5 * a + b) (And.intro (And.intro (rfl) (by show 5 * a + b < 25; omega)) ?_))
  rw [ho]
  repeat (first | (refine hP _ _ _ _ _ _ ?_; show P _ _ _ _ _ _) | (refine hP _ _ _ _ _ _ (And.intro (hN _ _ _ rfl) ?_); show P _ _ (aR _ _ :: _) _ _ _))
  rw [show nI o - nI m = nI (o - m) from nI_subR hm ho2]
  refine hP _ _ _ _ _ _ (Exists.intro (5 * a + b) (And.intro (And.intro (rfl) (by show 5 * a + b < 25; omega)) ?_))
  exact hP _ _ _ _ _ _ (h)
theorem c_strikeL {tv : TV} {nT N l : Nat} {S : St} {K : KT} {E : Fl} {v : Nat → Nat} {P : PT} {e : Nat} (hX : FX tv nT S 0 E) (hz : zB S 0 E.n) (he : 20 ≤ e) (hP : ∀ pc L st S fc fs, F m_X5_strike (Call e) K P pc L st S fc fs → P pc L st S fc fs) (h2 : 2 ≤ l) (h5 : l ≤ 5) (hv : ∀ k, k < l → v k < E.n) (hv2 : ∀ a b, a < l → b < l → v a = v b → a = b) (hr : ∀ k, k < l → S.1 19 0 k = nI (v k))
    (h3 : mnR E l v l = 0 → K (some (aI (-3))) S) (h1 : ¬ mnR E l v l = 0 → ∀ S', Ag (fun j g _ => j = 14 ∧ g = 0) S S' → HF S' 0 (skR E l v (mnR E l v l) l) → zB S' 0 E.n → K (some (aI (nI (mnR E l v l)))) S') : P 8 [some (aR 0 0), some (aI (nI N)), some (aI (nI l)), none, none] [aI 2, aI (nI l)] S 0 0 := by
  have hN := hX.1.1
  have hn5 := hX.2.2.1
  have lz : ¬ nI l = 0 := nI_nz (by omega) (by omega)
  have loop : ∀ k, k ≤ l → P 23 [some (aR 0 0), some (aI (nI N)), some (aI (nI l)), some (aI (nI (mnR E l v k))), some (aI (nI k))] [aI (nI l), aI (nI k)] S 0 0 := by
    refine dn ?_ ?_
    · have hm := mnR_le E l v l
      refine hP _ _ _ _ _ _ (And.intro (fun _ => ?_) (fun hc => absurd (nI_le (Nat.le_refl l) (by omega)) hc))
      repeat (first | (refine hP _ _ _ _ _ _ ?_; show P _ _ _ _ _ _) | (refine hP _ _ _ _ _ _ (And.intro (hN _ _ _ rfl) ?_); show P _ _ (aR _ _ :: _) _ _ _))
      by_cases m0 : mnR E l v l = 0
      · have h3 := h3 m0
        rw [m0]
        refine hP _ _ _ _ _ _ (And.intro (fun hc => absurd hc (fun z => z rfl)) (fun _ => ?_))
        repeat (first | (refine hP _ _ _ _ _ _ ?_; show P _ _ _ _ _ _) | (refine hP _ _ _ _ _ _ (And.intro (hN _ _ _ rfl) ?_); show P _ _ (aR _ _ :: _) _ _ _))
        exact hP _ _ _ _ _ _ (h3)
      · have h1 := h1 m0
        refine hP _ _ _ _ _ _ (And.intro (fun _ => ?_) (fun hc => absurd hc (nI_nz (by omega) (by omega))))
        have loop2 : ∀ k, k ≤ l → ∀ S1, Ag (fun j g _ => j = 14 ∧ g = 0) S S1 → HF S1 0 (skR E l v (mnR E l v l) k) → zB S1 0 E.n → P 75 [some (aR 0 0), some (aI (nI N)), some (aI (nI l)), some (aI (nI (mnR E l v l))), some (aI (nI k))] [aI (nI l), aI (nI k)] S1 0 0 := by
          refine dn ?_ ?_
          · intro S1 g1 hF1 hz1
            refine hP _ _ _ _ _ _ (And.intro (fun _ => ?_) (fun hc => absurd (nI_le (Nat.le_refl l) (by omega)) hc))
            repeat (first | (refine hP _ _ _ _ _ _ ?_; show P _ _ _ _ _ _) | (refine hP _ _ _ _ _ _ (And.intro (hN _ _ _ rfl) ?_); show P _ _ (aR _ _ :: _) _ _ _))
            exact hP _ _ _ _ _ _ (h1 S1 g1 hF1 hz1)
          · intro k hk ih S1 g1 hF1 hz1
            have hN := hX.1.1.up g1
            have hx := nxR_lt (k := k) (show 0 < l by omega)
            have b1 := hv _ hx
            have b2' := hv k hk
            have o1 := hX.2.2.ow b1 b2'
            have hq := mnR_at E l v l k hk
            have nk := (skR_n E l v (mnR E l v l) k).1
            have ho := hF1.2.2.2.2.2 (v (nxR l k)) (v k) (by rw [nk]; exact b1) (by rw [nk]; exact b2')
            rw [skR_ow hv2 k k (Nat.le_refl k) hk] at ho
            rw [nI_succ k] at ih
            refine hP _ _ _ _ _ _ (And.intro (fun hc => absurd hc (nI_ge hk (by omega))) (fun _ => ?_))
            repeat (first | (refine hP _ _ _ _ _ _ ?_; show P _ _ _ _ _ _) | (refine hP _ _ _ _ _ _ (And.intro (hN _ _ _ rfl) ?_); show P _ _ (aR _ _ :: _) _ _ _))
            refine hP _ _ _ _ _ _ (And.intro lz ?_)
            rw [show nI k + 1 - (nI k + 1) / nI l * nI l = nI (nxR l k) from by rw [nI_1]; exact pk_rem (by omega) (by omega) (by omega)]
            refine hP _ _ _ _ _ _ (Exists.intro (nxR l k) (And.intro (And.intro (rfl) (by show nxR l k < 5; omega)) ?_))
            rw [g1.1 19 0 _ (by simp), hr _ hx]
            repeat (first | (refine hP _ _ _ _ _ _ ?_; show P _ _ _ _ _ _) | (refine hP _ _ _ _ _ _ (And.intro (hN _ _ _ rfl) ?_); show P _ _ (aR _ _ :: _) _ _ _))
            refine hP _ _ _ _ _ _ (Exists.intro (k) (And.intro (And.intro (rfl) (by show k < 5; omega)) ?_))
            rw [g1.1 19 0 _ (by simp), hr k hk]
            repeat (first | (refine hP _ _ _ _ _ _ ?_; show P _ _ _ _ _ _) | (refine hP _ _ _ _ _ _ (And.intro (hN _ _ _ rfl) ?_); show P _ _ (aR _ _ :: _) _ _ _))
            refine hP _ _ _ _ _ _ (q_lessenR (by omega) hN (by omega) (by omega) ho hq (by omega) ?_)
            have := ih (ivSet S1 14 0 (5 * v (nxR l k) + v k) (nI (E.ow (v (nxR l k)) (v k) - mnR E l v l))) (g1.tr (Ag.iv ⟨rfl, rfl⟩)) (hF1.sO (by rw [nk]; exact hn5) _ _ _ (by rw [nk]; exact b2')) (hz1.n (W := fun j g k' => j = 14 ∧ k' = 5 * v (nxR l k) + v k) (Ag.iv ⟨rfl, rfl⟩) (fun j k z => by omega))
            repeat (first | (refine hP _ _ _ _ _ _ ?_; show P _ _ _ _ _ _) | (refine hP _ _ _ _ _ _ (And.intro (hN _ _ _ rfl) ?_); show P _ _ (aR _ _ :: _) _ _ _))
            exact this
        repeat (first | (refine hP _ _ _ _ _ _ ?_; show P _ _ _ _ _ _) | (refine hP _ _ _ _ _ _ (And.intro (hN _ _ _ rfl) ?_); show P _ _ (aR _ _ :: _) _ _ _))
        exact loop2 0 (by omega) S (Ag.rf _ _) hX.2.1 hz
    · intro k hk ih
      have hx := nxR_lt (k := k) (show 0 < l by omega)
      have b1 := hv _ hx
      have b2' := hv k hk
      have o1 := hX.2.2.ow b1 b2'
      have m1 := mnR_le E l v k
      rw [nI_succ k] at ih
      refine hP _ _ _ _ _ _ (And.intro (fun hc => absurd hc (nI_ge hk (by omega))) (fun _ => ?_))
      repeat (first | (refine hP _ _ _ _ _ _ ?_; show P _ _ _ _ _ _) | (refine hP _ _ _ _ _ _ (And.intro (hN _ _ _ rfl) ?_); show P _ _ (aR _ _ :: _) _ _ _))
      refine hP _ _ _ _ _ _ (And.intro lz ?_)
      rw [show nI k + 1 - (nI k + 1) / nI l * nI l = nI (nxR l k) from by rw [nI_1]; exact pk_rem (by omega) (by omega) (by omega)]
      refine hP _ _ _ _ _ _ (Exists.intro (nxR l k) (And.intro (And.intro (rfl) (by show nxR l k < 5; omega)) ?_))
      rw [hr _ hx]
      repeat (first | (refine hP _ _ _ _ _ _ ?_; show P _ _ _ _ _ _) | (refine hP _ _ _ _ _ _ (And.intro (hN _ _ _ rfl) ?_); show P _ _ (aR _ _ :: _) _ _ _))
      refine hP _ _ _ _ _ _ (Exists.intro (k) (And.intro (And.intro (rfl) (by show k < 5; omega)) ?_))
      rw [hr k hk]
      refine hP _ _ _ _ _ _ (q_owing (by omega) hX b1 b2' ?_)
      repeat (first | (refine hP _ _ _ _ _ _ ?_; show P _ _ _ _ _ _) | (refine hP _ _ _ _ _ _ (And.intro (hN _ _ _ rfl) ?_); show P _ _ (aR _ _ :: _) _ _ _))
      rw [show (if nI (E.ow (v (nxR l k)) (v k)) < nI (mnR E l v k) then nI (E.ow (v (nxR l k)) (v k)) else nI (mnR E l v k)) = nI (mnR E l v (k + 1)) from by
        simp only [mnR]
        by_cases c : E.ow (v (nxR l k)) (v k) < mnR E l v k
        · rw [if_pos c, if_pos (nI_lt c (by omega))]
        · rw [if_neg c, if_neg (nI_nlt (by omega) (by omega))]]
      repeat (first | (refine hP _ _ _ _ _ _ ?_; show P _ _ _ _ _ _) | (refine hP _ _ _ _ _ _ (And.intro (hN _ _ _ rfl) ?_); show P _ _ (aR _ _ :: _) _ _ _))
      exact ih
  refine hP _ _ _ _ _ _ (And.intro (fun _ => ?_) (fun hc => absurd (nI_le (a := 2) (b := l) h2 (by omega)) hc))
  repeat (first | (refine hP _ _ _ _ _ _ ?_; show P _ _ _ _ _ _) | (refine hP _ _ _ _ _ _ (And.intro (hN _ _ _ rfl) ?_); show P _ _ (aR _ _ :: _) _ _ _))
  exact loop 0 (by omega)

