/-! the class's calls, by themselves -/
theorem c_asks {tv : TV} {nT d w a b : Nat} {S : St} {K : KT} {F : Fl} (hd : 20 ≤ d) (hX : FX tv nT S 0 F) (ha : a < F.n) (hb : b < F.n) (hab : ¬ a = b) (hw : w = 0 ∨ w = 2) (h : ∀ S', Ag w0 S S' → K (some (aI (if w = 0 then nI (pyN tv F a (F.ow a b)) else b2 (myN tv F a b)))) S') : Call d m_X5_asks [aR 0 0, aI (nI a), aI (nI b), aI (nI w)] S K := by
  refine Call.of (k := 19) hd (fun e he P hP => ?_)
  have hN := hX.1.1
  have hn5 := hX.2.2.1
  repeat (first | (refine hP _ _ _ _ _ _ ?_; show P _ _ _ _ _ _) | (refine hP _ _ _ _ _ _ (And.intro (hN _ _ _ rfl) ?_); show P _ _ (aR _ _ :: _) _ _ _))
  refine hP _ _ _ _ _ _ (c_isTwo (by omega) hN hX.2.1.1 hn5 ?_)
  rw [isT_n hn5 (by omega) (by omega), decide_eq_true ha, decide_eq_true hb, decide_eq_true hab]
  repeat (first | (refine hP _ _ _ _ _ _ ?_; show P _ _ _ _ _ _) | (refine hP _ _ _ _ _ _ (And.intro (hN _ _ _ rfl) ?_); show P _ _ (aR _ _ :: _) _ _ _) | refine hP _ _ _ _ _ _ (And.intro (fun _ => ?_) (fun hc => absurd hc (by decide))) | refine hP _ _ _ _ _ _ (And.intro (fun hc => absurd hc (by decide)) (fun _ => ?_)))
  rcases hw with rfl | rfl
  · refine hP _ _ _ _ _ _ (swP_to ?_)
    show P 40 _ _ _ _ _
    repeat (first | (refine hP _ _ _ _ _ _ ?_; show P _ _ _ _ _ _) | (refine hP _ _ _ _ _ _ (And.intro (hN _ _ _ rfl) ?_); show P _ _ (aR _ _ :: _) _ _ _))
    refine hP _ _ _ _ _ _ (q_owing (by omega) hX ha hb ?_)
    repeat (first | (refine hP _ _ _ _ _ _ ?_; show P _ _ _ _ _ _) | (refine hP _ _ _ _ _ _ (And.intro (hN _ _ _ rfl) ?_); show P _ _ (aR _ _ :: _) _ _ _))
    refine hP _ _ _ _ _ _ (q_pays (by omega) hX ha (fun S1 g1 => ?_))
    repeat (first | (refine hP _ _ _ _ _ _ ?_; show P _ _ _ _ _ _) | (refine hP _ _ _ _ _ _ (And.intro (hN _ _ _ rfl) ?_); show P _ _ (aR _ _ :: _) _ _ _))
    exact hP _ _ _ _ _ _ (h S1 g1)
  · refine hP _ _ _ _ _ _ (swP_to ?_)
    show P 76 _ _ _ _ _
    repeat (first | (refine hP _ _ _ _ _ _ ?_; show P _ _ _ _ _ _) | (refine hP _ _ _ _ _ _ (And.intro (hN _ _ _ rfl) ?_); show P _ _ (aR _ _ :: _) _ _ _))
    refine hP _ _ _ _ _ _ (q_may (by omega) hX ha hb (fun S1 g1 => ?_))
    have h := h S1 g1
    repeat (first | (refine hP _ _ _ _ _ _ ?_; show P _ _ _ _ _ _) | (refine hP _ _ _ _ _ _ (And.intro (hN _ _ _ rfl) ?_); show P _ _ (aR _ _ :: _) _ _ _))
    refine hP _ _ _ _ _ _ (bn2 (fun e1 => ?_) (fun e1 => ?_))
    · rw [e1] at h
      repeat (first | (refine hP _ _ _ _ _ _ ?_; show P _ _ _ _ _ _) | (refine hP _ _ _ _ _ _ (And.intro (hN _ _ _ rfl) ?_); show P _ _ (aR _ _ :: _) _ _ _))
      exact hP _ _ _ _ _ _ (h)
    · rw [e1] at h
      repeat (first | (refine hP _ _ _ _ _ _ ?_; show P _ _ _ _ _ _) | (refine hP _ _ _ _ _ _ (And.intro (hN _ _ _ rfl) ?_); show P _ _ (aR _ _ :: _) _ _ _))
      exact hP _ _ _ _ _ _ (h)
theorem c_count1 {tv : TV} {nT d : Nat} {S : St} {K : KT} {F : Fl} (hd : 20 ≤ d) (hX : FX tv nT S 0 F) (h : K (some (aI (nI (oA F)))) S) : Call d m_X5_count [aR 0 0, aI 1] S K := by
  refine Call.of (k := 19) hd (fun e he P hP => ?_)
  have hN := hX.1.1
  repeat (first | (refine hP _ _ _ _ _ _ ?_; show P _ _ _ _ _ _) | (refine hP _ _ _ _ _ _ (And.intro (hN _ _ _ rfl) ?_); show P _ _ (aR _ _ :: _) _ _ _))
  refine hP _ _ _ _ _ _ (swP_to ?_)
  show P 48 _ _ _ _ _
  repeat (first | (refine hP _ _ _ _ _ _ ?_; show P _ _ _ _ _ _) | (refine hP _ _ _ _ _ _ (And.intro (hN _ _ _ rfl) ?_); show P _ _ (aR _ _ :: _) _ _ _))
  refine hP _ _ _ _ _ _ (q_all (by omega) hX ?_)
  repeat (first | (refine hP _ _ _ _ _ _ ?_; show P _ _ _ _ _ _) | (refine hP _ _ _ _ _ _ (And.intro (hN _ _ _ rfl) ?_); show P _ _ (aR _ _ :: _) _ _ _))
  exact hP _ _ _ _ _ _ (h)
def wIm : WW := fun j g k => (j = 0 ∧ k = 6) ∨ wTk 1 j g k
theorem c_image {tv : TV} {nT d : Nat} {S : St} {K : KT} {F : Fl} (hd : 20 ≤ d) (hX : FX tv nT S 0 F) (hz : zB S 0 F.n) (h : ∀ S', Ag wIm S S' → S'.1 0 0 6 = 1 → HF S' 1 F → zB S' 1 F.n → K (some (aI (nI F.n))) S') : Call d m_X5_image [aR 0 0] S K := by
  refine Call.of (k := 19) hd (fun e he P hP => ?_)
  have hN := hX.1.1
  have hn5 := hX.2.2.1
  repeat (first | (refine hP _ _ _ _ _ _ ?_; show P _ _ _ _ _ _) | (refine hP _ _ _ _ _ _ (And.intro (hN _ _ _ rfl) ?_); show P _ _ (aR _ _ :: _) _ _ _))
  refine hP _ _ _ _ _ _ (q_takeFrom (by omega) hN (by decide) (fun S1 g1 ht => ?_))
  have hN := hN.up g1
  have e1 : (ivSet S1 0 0 6 1).1 10 1 1 = nI F.n := by rw [iv_ne (by omega), ht.1 1 (by omega) (by omega)]; exact hX.2.1.1
  have g2 : Ag wIm S (ivSet S1 0 0 6 1) := (g1.mono (fun j g k z => Or.inr z)).tr (Ag.iv (Or.inl ⟨rfl, rfl⟩))
  have h := h _ g2 iv_at ((hX.2.1.tk hn5 ht).up (W := fun j g k => j = 0) (Ag.iv rfl) (fun j k z => by omega)) ((zB.tk hz ht).up (W := fun j g k => j = 0) (Ag.iv rfl) (fun j k z => by omega))
  repeat (first | (refine hP _ _ _ _ _ _ ?_; show P _ _ _ _ _ _) | (refine hP _ _ _ _ _ _ (And.intro (hN _ _ _ rfl) ?_); show P _ _ (aR _ _ :: _) _ _ _))
  refine hP _ _ _ _ _ _ (And.intro (Or.inr rfl) ?_)
  repeat (first | (refine hP _ _ _ _ _ _ ?_; show P _ _ _ _ _ _) | (refine hP _ _ _ _ _ _ (And.intro (hN _ _ _ rfl) ?_); show P _ _ (aR _ _ :: _) _ _ _))
  rw [e1]
  exact hP _ _ _ _ _ _ (h)
theorem c_back {d : Nat} {S : St} {K : KT} {G : Fl} (hd : 20 ≤ d) (hN : NN S) (i1 : S.1 0 0 6 = 1) (i2 : HF S 1 G) (i3 : zB S 1 G.n) (hn5 : G.n ≤ 5) (h : ∀ S', Ag wFl S S' → HF S' 0 G → zB S' 0 G.n → K (some (aI (nI G.n))) S') : Call d m_X5_back [aR 0 0] S K := by
  refine Call.of (k := 19) hd (fun e he P hP => ?_)
  repeat (first | (refine hP _ _ _ _ _ _ ?_; show P _ _ _ _ _ _) | (refine hP _ _ _ _ _ _ (And.intro (hN _ _ _ rfl) ?_); show P _ _ (aR _ _ :: _) _ _ _))
  rw [i1]
  refine hP _ _ _ _ _ _ (And.intro (fun _ => ?_) (fun hc => absurd hc (by decide)))
  repeat (first | (refine hP _ _ _ _ _ _ ?_; show P _ _ _ _ _ _) | (refine hP _ _ _ _ _ _ (And.intro (hN _ _ _ rfl) ?_); show P _ _ (aR _ _ :: _) _ _ _))
  refine hP _ _ _ _ _ _ (q_takeFrom (by omega) hN (by decide) (fun S1 g1 ht => ?_))
  have hN := hN.up g1
  have hF := i2.tk hn5 ht
  have hz := zB.tk i3 ht
  have h := h S1 (g1.mono (fun j g k z => by simp only [wTk] at z; simp only [wFl]; omega)) hF hz
  repeat (first | (refine hP _ _ _ _ _ _ ?_; show P _ _ _ _ _ _) | (refine hP _ _ _ _ _ _ (And.intro (hN _ _ _ rfl) ?_); show P _ _ (aR _ _ :: _) _ _ _))
  rw [hF.1]
  exact hP _ _ _ _ _ _ (h)
theorem c_round {tv : TV} {nT d : Nat} {S : St} {K : KT} {F : Fl} (hd : 20 ≤ d) (hX : FX tv nT S 0 F) (hz : zB S 0 F.n) (hrd : F.rd < 999) (h : ∀ S', Ag wFl S S' → FX tv nT S' 0 (rdF tv F) → zB S' 0 F.n → K (some (aI (nI (rdP tv F)))) S') : Call d m_X5_round [aR 0 0] S K := by
  refine Call.of (k := 19) hd (fun e he P hP => ?_)
  have hN := hX.1.1
  have hn5 := hX.2.2.1
  repeat (first | (refine hP _ _ _ _ _ _ ?_; show P _ _ _ _ _ _) | (refine hP _ _ _ _ _ _ (And.intro (hN _ _ _ rfl) ?_); show P _ _ (aR _ _ :: _) _ _ _))
  rw [hX.2.1.2.1]
  refine hP _ _ _ _ _ _ (ltI (x := F.rd) (y := 999) (by omega) (by omega) (fun hc => ?_) (fun hc => absurd hrd hc))
  repeat (first | (refine hP _ _ _ _ _ _ ?_; show P _ _ _ _ _ _) | (refine hP _ _ _ _ _ _ (And.intro (hN _ _ _ rfl) ?_); show P _ _ (aR _ _ :: _) _ _ _))
  refine hP _ _ _ _ _ _ (q_danceRound (by omega) hX (fun S3 g3 hX3 _ => ?_))
  have g13 : Ag wFl S S3 := g3.mono (fun j g k z => by simp only [wRn] at z; simp only [wFl]; omega)
  have z3 : zB S3 0 F.n := hz.n g3 (fun j k z => by simp only [wRn] at z; omega)
  have h := h S3 g13 hX3 z3
  repeat (first | (refine hP _ _ _ _ _ _ ?_; show P _ _ _ _ _ _) | (refine hP _ _ _ _ _ _ (And.intro (hN _ _ _ rfl) ?_); show P _ _ (aR _ _ :: _) _ _ _))
  exact hP _ _ _ _ _ _ (h)
theorem c_night {tv : TV} {nT d : Nat} {S : St} {K : KT} {F : Fl} (hd : 20 ≤ d) (hX : FX tv nT S 0 F) (hz : zB S 0 F.n) (hni : F.ni < 999) (h : ∀ S', Ag wFl S S' → FX tv nT S' 0 (enF F) → zB S' 0 F.n → K (some (aI (nI (sN F.dn F.n)))) S') : Call d m_X5_night [aR 0 0] S K := by
  refine Call.of (k := 19) hd (fun e he P hP => ?_)
  have hN := hX.1.1
  have hn5 := hX.2.2.1
  repeat (first | (refine hP _ _ _ _ _ _ ?_; show P _ _ _ _ _ _) | (refine hP _ _ _ _ _ _ (And.intro (hN _ _ _ rfl) ?_); show P _ _ (aR _ _ :: _) _ _ _))
  rw [hX.2.1.2.2.1]
  refine hP _ _ _ _ _ _ (ltI (x := F.ni) (y := 999) (by omega) (by omega) (fun hc => ?_) (fun hc => absurd hni hc))
  repeat (first | (refine hP _ _ _ _ _ _ ?_; show P _ _ _ _ _ _) | (refine hP _ _ _ _ _ _ (And.intro (hN _ _ _ rfl) ?_); show P _ _ (aR _ _ :: _) _ _ _))
  refine hP _ _ _ _ _ _ (q_endNight (by omega) hX (fun S3 g3 hX3 hr => ?_))
  have g13 : Ag wFl S S3 := g3.mono (fun j g k z => by simp only [wN3] at z; simp only [wFl]; omega)
  have z3 : zB S3 0 F.n := ⟨fun a ha h5 => by rw [hr a ha]; exact hz.1 a ha h5, fun a b ha hb hn => by rw [g3.1 14 0 _ (by simp [wN3])]; exact hz.2 a b ha hb hn⟩
  have h := h S3 g13 hX3 z3
  repeat (first | (refine hP _ _ _ _ _ _ ?_; show P _ _ _ _ _ _) | (refine hP _ _ _ _ _ _ (And.intro (hN _ _ _ rfl) ?_); show P _ _ (aR _ _ :: _) _ _ _))
  exact hP _ _ _ _ _ _ (h)
theorem c_share {tv : TV} {nT d a p : Nat} {S : St} {K : KT} {F : Fl} (hd : 20 ≤ d) (hX : FX tv nT S 0 F) (ha : a < F.n) (hp : p ≤ 1) (hA : ¬ oA F = 0) (h : K (some (aL (loL (oS F a) (oA F) p))) S) : Call d m_X5_share [aR 0 0, aI (nI a), aI (nI p)] S K := by
  refine Call.of (k := 19) hd (fun e he P hP => ?_)
  have hN := hX.1.1
  have hn5 := hX.2.2.1
  have hAb := hX.2.2.bA
  have hS := hX.2.2.bS ha
  repeat (first | (refine hP _ _ _ _ _ _ ?_; show P _ _ _ _ _ _) | (refine hP _ _ _ _ _ _ (And.intro (hN _ _ _ rfl) ?_); show P _ _ (aR _ _ :: _) _ _ _))
  refine hP _ _ _ _ _ _ (q_all (by omega) hX ?_)
  repeat (first | (refine hP _ _ _ _ _ _ ?_; show P _ _ _ _ _ _) | (refine hP _ _ _ _ _ _ (And.intro (hN _ _ _ rfl) ?_); show P _ _ (aR _ _ :: _) _ _ _))
  refine hP _ _ _ _ _ _ (c_isDancer (by omega) hN hX.2.1.1 hn5 ?_)
  rw [isD_n (by omega) hn5, decide_eq_true ha]
  repeat (first | (refine hP _ _ _ _ _ _ ?_; show P _ _ _ _ _ _) | (refine hP _ _ _ _ _ _ (And.intro (hN _ _ _ rfl) ?_); show P _ _ (aR _ _ :: _) _ _ _) | refine hP _ _ _ _ _ _ (And.intro (fun _ => ?_) (fun hc => absurd hc (by decide))) | refine hP _ _ _ _ _ _ (And.intro (fun hc => absurd hc (by decide)) (fun _ => ?_)))
  refine hP _ _ _ _ _ _ (And.intro (fun hc => absurd hc (nI_pos (by omega))) (fun _ => ?_))
  repeat (first | (refine hP _ _ _ _ _ _ ?_; show P _ _ _ _ _ _) | (refine hP _ _ _ _ _ _ (And.intro (hN _ _ _ rfl) ?_); show P _ _ (aR _ _ :: _) _ _ _))
  refine hP _ _ _ _ _ _ (And.intro (fun hc => absurd hc (nI_nlt (a := 1) (b := p) (by omega) (by decide))) (fun _ => ?_))
  repeat (first | (refine hP _ _ _ _ _ _ ?_; show P _ _ _ _ _ _) | (refine hP _ _ _ _ _ _ (And.intro (hN _ _ _ rfl) ?_); show P _ _ (aR _ _ :: _) _ _ _))
  refine hP _ _ _ _ _ _ (And.intro (fun _ => ?_) (fun hc => absurd hc (nI_nz (by omega) (by omega))))
  repeat (first | (refine hP _ _ _ _ _ _ ?_; show P _ _ _ _ _ _) | (refine hP _ _ _ _ _ _ (And.intro (hN _ _ _ rfl) ?_); show P _ _ (aR _ _ :: _) _ _ _))
  refine hP _ _ _ _ _ _ (q_owes (by omega) hX ha ?_)
  repeat (first | (refine hP _ _ _ _ _ _ ?_; show P _ _ _ _ _ _) | (refine hP _ _ _ _ _ _ (And.intro (hN _ _ _ rfl) ?_); show P _ _ (aR _ _ :: _) _ _ _))
  refine hP _ _ _ _ _ _ (c_lowest (by omega) (a := oS F a) (b := oA F) (by omega) (by omega) (by omega) hp ?_)
  repeat (first | (refine hP _ _ _ _ _ _ ?_; show P _ _ _ _ _ _) | (refine hP _ _ _ _ _ _ (And.intro (hN _ _ _ rfl) ?_); show P _ _ (aR _ _ :: _) _ _ _))
  exact hP _ _ _ _ _ _ (h)
theorem c_strike {tv : TV} {nT d N l : Nat} {S : St} {K : KT} {F : Fl} {v : Nat → Nat} (hd : 40 ≤ d) (hX : FX tv nT S 0 F) (hz : zB S 0 F.n) (hNb : N < 2 ^ 31) (hr : rdR F.n 5 N 0 0 (fun _ => 0) = some (0, l, v)) (l2 : 2 ≤ l) (l5 : l ≤ 5) (hv : ∀ k, k < l → v k < F.n) (hv2 : ∀ a b, a < l → b < l → v a = v b → a = b)
    (h3 : mnR F l v l = 0 → ∀ S', Ag (fun j _ _ => j = 19) S S' → K (some (aI (-3))) S') (h1 : ¬ mnR F l v l = 0 → ∀ S', Ag wFl S S' → HF S' 0 (skR F l v (mnR F l v l) l) → zB S' 0 F.n → K (some (aI (nI (mnR F l v l)))) S') : Call d m_X5_strike [aR 0 0, aI (nI N)] S K := by
  refine Call.of (k := 39) hd (fun e he P hP => ?_)
  have hN := hX.1.1
  have hn5 := hX.2.2.1
  have w19 : ∀ j g k, (fun j _ _ => j = 19 : WW) j g k → wFl j g k := fun j g k z => by
    simp only [wFl]
    omega
  repeat (first | (refine hP _ _ _ _ _ _ ?_; show P _ _ _ _ _ _) | (refine hP _ _ _ _ _ _ (And.intro (hN _ _ _ rfl) ?_); show P _ _ (aR _ _ :: _) _ _ _))
  refine hP _ _ _ _ _ _ (c_readRing (by omega) hN hX.2.1.1 hn5 hNb (fun S1 g1 hr1 => by rw [hr] at hr1; cases hr1) (fun S1 r l' v' g1 hr1 hl5 c1 => ?_))
  rw [hr] at hr1
  simp only [Option.some.injEq, Prod.mk.injEq] at hr1
  obtain ⟨rfl, rfl, rfl⟩ := hr1
  rw [if_pos rfl]
  repeat (first | (refine hP _ _ _ _ _ _ ?_; show P _ _ _ _ _ _) | (refine hP _ _ _ _ _ _ (And.intro (hN _ _ _ rfl) ?_); show P _ _ (aR _ _ :: _) _ _ _))
  have hX1 := hX.up g1 (fun j g k z => by omega) (fun j k z => by omega)
  have hz1 := hz.up g1 (fun j k z => by omega)
  refine c_strikeL (P := P) hX1 hz1 (by omega) hP l2 l5 hv hv2 c1 (fun m0 => h3 m0 S1 g1) (fun m0 S2 g2 hF2 hz2 => ?_)
  exact h1 m0 S2 ((g1.mono w19).tr (g2.mono (fun j g k z => by simp only [wFl]; omega))) hF2 hz2
/-! the law's own calls -/
theorem l_cell {d k L : Nat} {S : St} {K : KT} (hd : 1 ≤ d) (hL : S.2.2.2.1 1000 = L) (hL2 : L ≤ 260) (hk : k < 1000) (h : ∀ x : Int32, K (some (aI x)) S) : Call d m_L_cell [aR 60 0, aI (nI k)] S K := by
  refine Call.of (k := 0) hd (fun e he P hP => ?_)
  have hN : True := trivial
  repeat (first | (refine hP _ _ _ _ _ _ ?_; show P _ _ _ _ _ _) | refine hP _ _ _ _ _ _ (And.intro (hN _ _ _ rfl) ?_))
  show P _ _ [aI (nI (S.2.2.2.1 1000)), aI (nI k)] _ _ _
  rw [hL]
  refine hP _ _ _ _ _ _ (geI (x := k) (y := L) (by omega) (by omega) (fun hc => ?_) (fun hc => ?_))
  · repeat (first | (refine hP _ _ _ _ _ _ ?_; show P _ _ _ _ _ _) | refine hP _ _ _ _ _ _ (And.intro (hN _ _ _ rfl) ?_))
    exact hP _ _ _ _ _ _ (h _)
  · repeat (first | (refine hP _ _ _ _ _ _ ?_; show P _ _ _ _ _ _) | refine hP _ _ _ _ _ _ (And.intro (hN _ _ _ rfl) ?_))
    refine hP _ _ _ _ _ _ (Exists.intro (k) (And.intro (And.intro (rfl) (by show k < S.2.2.2.1 1000; omega)) ?_))
    repeat (first | (refine hP _ _ _ _ _ _ ?_; show P _ _ _ _ _ _) | refine hP _ _ _ _ _ _ (And.intro (hN _ _ _ rfl) ?_))
    exact hP _ _ _ _ _ _ (h _)
theorem us3 (x : Int32) : ∃ j, j < 2 ^ 29 ∧ (x.toUInt32 >>> ((3 : Int32).toUInt32 &&& Int32.toUInt32 31)).toInt32 = nI j := by
  have hz : x.toBitVec.toNat < 2 ^ 32 := x.toBitVec.isLt
  have hb : x.toBitVec.toNat / 2 ^ 3 < 2 ^ 29 := by
    apply Nat.div_lt_of_lt_mul
    exact hz
  refine ⟨_, hb, ?_⟩
  apply Int32.toBitVec_inj.mp
  apply BitVec.eq_of_toNat_eq
  rw [pk_ushr x 3 3 (by decide), pk_tn (by omega)]
theorem l_some {d k n L : Nat} {S : St} {K : KT} (hd : 2 ≤ d) (hL : S.2.2.2.1 1000 = L) (hL2 : L ≤ 260) (hk : k < 1000) (hn0 : 0 < n) (hn : n < 1000) (h : ∀ m, m < n → K (some (aI (nI m))) S) : Call d m_L_some [aR 60 0, aI (nI k), aI (nI n)] S K := by
  refine Call.of (k := 1) hd (fun e he P hP => ?_)
  have hN : True := trivial
  repeat (first | (refine hP _ _ _ _ _ _ ?_; show P _ _ _ _ _ _) | refine hP _ _ _ _ _ _ (And.intro (hN _ _ _ rfl) ?_))
  refine hP _ _ _ _ _ _ (l_cell (by omega) hL hL2 hk (fun x => ?_))
  repeat (first | (refine hP _ _ _ _ _ _ ?_; show P _ _ _ _ _ _) | refine hP _ _ _ _ _ _ (And.intro (hN _ _ _ rfl) ?_))
  obtain ⟨j, hj, e⟩ := us3 x
  rw [e]
  refine hP _ _ _ _ _ _ (And.intro (nI_nz (by omega) hn0) ?_)
  rw [pk_rem (by omega) hn0 (by omega)]
  repeat (first | (refine hP _ _ _ _ _ _ ?_; show P _ _ _ _ _ _) | refine hP _ _ _ _ _ _ (And.intro (hN _ _ _ rfl) ?_))
  exact hP _ _ _ _ _ _ (h (j % n) (Nat.mod_lt _ hn0))
theorem c_bits {d : Nat} {S : St} {K : KT} {x : Int32} (hd : 1 ≤ d) (h : K (some (aI (bcI x))) S) : Call d m_J6_bitCount_0f7a4 [aI x] S K := by
  refine Call.of (k := 0) hd (fun e he P hP => ?_)
  have hN : True := trivial
  repeat (first | (refine hP _ _ _ _ _ _ ?_; show P _ _ _ _ _ _) | refine hP _ _ _ _ _ _ (And.intro (hN _ _ _ rfl) ?_))
  exact hP _ _ _ _ _ _ (h)
