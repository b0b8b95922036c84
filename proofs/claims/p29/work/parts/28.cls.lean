/-! the class, out of claim whole -/
theorem isD_N {n k : Nat} (hk : k < 2 ^ 31) (hn : n < 2 ^ 31) : isD n (nI k) = decide (k < n) := by
  unfold isD
  have h1 : 0 ≤ nI k := nI_pos' hk
  have h2 := nI_ltI hk hn
  simp [h1, h2]
theorem isD_f {n : Nat} {x : Int32} (h : isD n x = false) : x < 0 ∨ nI n ≤ x := by
  simp only [isD, decide_eq_false_iff_not] at h
  by_cases h0 : x < 0
  · exact Or.inl h0
  · exact Or.inr (Int32.not_lt.mp (fun z => h ⟨Int32.not_lt.mp h0, z⟩))
def isOfB (n w : Nat) (x : Int32) : Bool := if w < 2 then true else if w = 4 then (dpx n x).isSome else isD n x
theorem isD_ne {n k : Nat} {x : Int32} (h : isD n x = false) (hk : k < n) (hn : n < 2 ^ 31) : ¬ x = nI k := by
  intro z
  rw [z, isD_N (by omega) hn, decide_eq_true hk] at h
  cases h
theorem zB.n {S S' : St} {W : WW} {n : Nat} (h : zB S 0 n) (h1 : Ag W S S') (hw : ∀ j k, W j 0 k → (j = 13 → k < n) ∧ (j = 14 → k / 5 < n ∧ k % 5 < n)) : zB S' 0 n := by
  refine ⟨fun a ha h5 => ?_, fun a b ha hb hn => ?_⟩
  · rw [h1.1 13 0 a (fun z => by have := (hw _ _ z).1 rfl; omega)]
    exact h.1 a ha h5
  · rw [h1.1 14 0 _ (fun z => by have := (hw _ _ z).2 rfl; omega)]
    exact h.2 a b ha hb hn
theorem rd_same (tv : TV) (F : Fl) : ∀ k, (rA tv F k).2.2.rd = F.rd ∧ (rA tv F k).2.2.ni = F.ni ∧ (rA tv F k).2.2.ki = F.ki
  | 0 => ⟨rfl, rfl, rfl⟩
  | k + 1 => by
    simp only [rA, r1]
    split
    · exact rd_same tv F k
    · exact rd_same tv F k
theorem sR_all (F : Fl) (v : Nat) : (F.sR v).n = F.n ∧ (F.sR v).rd = v ∧ (F.sR v).ni = F.ni ∧ (F.sR v).ki = F.ki := ⟨rfl, rfl, rfl, rfl⟩
theorem rdF_all (tv : TV) (F : Fl) : (rdF tv F).n = F.n ∧ (rdF tv F).rd = F.rd + 1 ∧ (rdF tv F).ni = F.ni ∧ (rdF tv F).ki = F.ki := by
  unfold rdF
  have h1 := rd_same tv F 10
  have h2 := rA_n tv F 10
  generalize (rA tv F 10).2.2 = G at h1 h2
  obtain ⟨a1, a2, a3, a4⟩ := sR_all G (G.rd + 1)
  exact ⟨a1.trans h2, by rw [a2, h1.1], a3.trans h1.2.1, a4.trans h1.2.2⟩
def Fl.sRu (F : Fl) (v : Nat) : Fl := mkF F.n F.rd F.ni v F.ki F.nu F.dn F.ow
theorem HF.sRu {S : St} {f : Nat} {F : Fl} (h : HF S f F) (v : Nat) : HF (ivSet S 10 f 4 (nI v)) f (F.sRu v) := by
  obtain ⟨a1, a2, a3, a4, a5, a6⟩ := h
  refine ⟨?_, ?_, ?_, iv_at, fun x hx => ⟨?_, ?_, ?_⟩, fun x y hx hy => ?_⟩
  · rw [iv_ne (by omega)]; exact a1
  · rw [iv_ne (by omega)]; exact a2
  · rw [iv_ne (by omega)]; exact a3
  · rw [iv_ne (by omega)]; exact (a5 x hx).1
  · rw [iv_ne (by omega)]; exact (a5 x hx).2.1
  · rw [iv_ne (by omega)]; exact (a5 x hx).2.2
  · rw [iv_ne (by omega)]; exact a6 x y hx hy
/-- x is below 0, or not below n: two branches to one place; or x is one of the first n -/
theorem rng {x : Int32} {n : Nat} (hn : n < 2 ^ 31) : (isD n x = false ∧ (x < 0 ∨ (¬ x < 0 ∧ nI n ≤ x))) ∨ ∃ a, a < n ∧ isD n (nI a) = true ∧ x = nI a := by
  cases h : isD n x with
  | false =>
    left
    rcases isD_f h with h1 | h1
    · exact ⟨rfl, Or.inl h1⟩
    · by_cases h0 : x < 0
      · exact ⟨rfl, Or.inl h0⟩
      · exact ⟨rfl, Or.inr ⟨h0, h1⟩⟩
  | true =>
    right
    obtain ⟨a, ha, -, rfl⟩ := isD_of h
    exact ⟨a, ha, h, rfl⟩
/-- the class's dancer() -/
theorem c_dancer {tv : TV} {nT d : Nat} {S : St} {K : KT} {F : Fl} {x y : Int32} (hd : 2 ≤ d) (hX : FX tv nT S 0 F) (hz : zB S 0 F.n)
    (hB : (isD 6 x = false ∨ (isD 6 x = true ∧ isD 10 y = false)) → K (some (aI (-2))) S)
    (hF : ∀ k u, k ≤ 5 → u ≤ 9 → x = nI k → y = nI u → F.n = 5 → K (some (aI (-4))) S)
    (h1 : ∀ k u, k ≤ 5 → u ≤ 9 → x = nI k → y = nI u → F.n < 5 → ∀ S', Ag wFl S S' → FX tv nT S' 0 (jnF F k u) → zB S' 0 (F.n + 1) → K (some (aI (nI F.n))) S') : Call d m_X5_dancer [aR 0 0, aI x, aI y] S K := by
  refine Call.of (k := 1) hd (fun e he P hP => ?_)
  have hN := hX.1.1
  have hn5 := hX.2.2.1
  rcases rng (x := x) (n := 6) (by omega) with ⟨hf, hx⟩ | ⟨k, hk, hf, rfl⟩
  · have fin := hB (Or.inl hf)
    repeat (first | (refine hP _ _ _ _ _ _ ?_; show P _ _ _ _ _ _) | (refine hP _ _ _ _ _ _ (And.intro (hN _ _ _ rfl) ?_); show P _ _ (aR _ _ :: _) _ _ _))
    rcases hx with h0 | ⟨h0, h1'⟩
    · refine hP _ _ _ _ _ _ (And.intro (fun _ => ?_) (fun hc => absurd h0 hc))
      repeat (first | (refine hP _ _ _ _ _ _ ?_; show P _ _ _ _ _ _) | (refine hP _ _ _ _ _ _ (And.intro (hN _ _ _ rfl) ?_); show P _ _ (aR _ _ :: _) _ _ _))
      exact hP _ _ _ _ _ _ (fin)
    · refine hP _ _ _ _ _ _ (And.intro (fun hc => absurd hc h0) (fun _ => ?_))
      repeat (first | (refine hP _ _ _ _ _ _ ?_; show P _ _ _ _ _ _) | (refine hP _ _ _ _ _ _ (And.intro (hN _ _ _ rfl) ?_); show P _ _ (aR _ _ :: _) _ _ _))
      refine hP _ _ _ _ _ _ (And.intro (fun _ => ?_) (fun hc => absurd h1' hc))
      repeat (first | (refine hP _ _ _ _ _ _ ?_; show P _ _ _ _ _ _) | (refine hP _ _ _ _ _ _ (And.intro (hN _ _ _ rfl) ?_); show P _ _ (aR _ _ :: _) _ _ _))
      exact hP _ _ _ _ _ _ (fin)
  · repeat (first | (refine hP _ _ _ _ _ _ ?_; show P _ _ _ _ _ _) | (refine hP _ _ _ _ _ _ (And.intro (hN _ _ _ rfl) ?_); show P _ _ (aR _ _ :: _) _ _ _))
    refine hP _ _ _ _ _ _ (And.intro (fun hc => absurd hc (nI_pos (by omega))) (fun _ => ?_))
    repeat (first | (refine hP _ _ _ _ _ _ ?_; show P _ _ _ _ _ _) | (refine hP _ _ _ _ _ _ (And.intro (hN _ _ _ rfl) ?_); show P _ _ (aR _ _ :: _) _ _ _))
    refine hP _ _ _ _ _ _ (And.intro (fun hc => absurd hc (nI_ge (b := 6) hk (by decide))) (fun _ => ?_))
    repeat (first | (refine hP _ _ _ _ _ _ ?_; show P _ _ _ _ _ _) | (refine hP _ _ _ _ _ _ (And.intro (hN _ _ _ rfl) ?_); show P _ _ (aR _ _ :: _) _ _ _))
    rcases rng (x := y) (n := 10) (by omega) with ⟨hf2, hy⟩ | ⟨u, hu, hf2, rfl⟩
    · have fin := hB (Or.inr ⟨hf, hf2⟩)
      rcases hy with h0 | ⟨h0, h1'⟩
      · refine hP _ _ _ _ _ _ (And.intro (fun _ => ?_) (fun hc => absurd h0 hc))
        repeat (first | (refine hP _ _ _ _ _ _ ?_; show P _ _ _ _ _ _) | (refine hP _ _ _ _ _ _ (And.intro (hN _ _ _ rfl) ?_); show P _ _ (aR _ _ :: _) _ _ _))
        exact hP _ _ _ _ _ _ (fin)
      · refine hP _ _ _ _ _ _ (And.intro (fun hc => absurd hc h0) (fun _ => ?_))
        repeat (first | (refine hP _ _ _ _ _ _ ?_; show P _ _ _ _ _ _) | (refine hP _ _ _ _ _ _ (And.intro (hN _ _ _ rfl) ?_); show P _ _ (aR _ _ :: _) _ _ _))
        refine hP _ _ _ _ _ _ (And.intro (fun hc => absurd (Int32.le_trans h1' hc) (nI_ge (a := 9) (b := 10) (by decide) (by decide))) (fun _ => ?_))
        repeat (first | (refine hP _ _ _ _ _ _ ?_; show P _ _ _ _ _ _) | (refine hP _ _ _ _ _ _ (And.intro (hN _ _ _ rfl) ?_); show P _ _ (aR _ _ :: _) _ _ _))
        exact hP _ _ _ _ _ _ (fin)
    · refine hP _ _ _ _ _ _ (And.intro (fun hc => absurd hc (nI_pos (by omega))) (fun _ => ?_))
      repeat (first | (refine hP _ _ _ _ _ _ ?_; show P _ _ _ _ _ _) | (refine hP _ _ _ _ _ _ (And.intro (hN _ _ _ rfl) ?_); show P _ _ (aR _ _ :: _) _ _ _))
      refine hP _ _ _ _ _ _ (And.intro (fun _ => ?_) (fun hc => absurd (nI_le (a := u) (b := 9) (by omega) (by decide)) hc))
      repeat (first | (refine hP _ _ _ _ _ _ ?_; show P _ _ _ _ _ _) | (refine hP _ _ _ _ _ _ (And.intro (hN _ _ _ rfl) ?_); show P _ _ (aR _ _ :: _) _ _ _))
      rw [hX.2.1.1]
      by_cases h5 : F.n = 5
      · rw [h5]
        refine hP _ _ _ _ _ _ (And.intro (fun hc => absurd hc (nI_nlt (a := 5) (b := 5) (by decide) (by decide))) (fun _ => ?_))
        repeat (first | (refine hP _ _ _ _ _ _ ?_; show P _ _ _ _ _ _) | (refine hP _ _ _ _ _ _ (And.intro (hN _ _ _ rfl) ?_); show P _ _ (aR _ _ :: _) _ _ _))
        exact hP _ _ _ _ _ _ (hF k u (by omega) (by omega) rfl rfl h5)
      · refine hP _ _ _ _ _ _ (And.intro (fun _ => ?_) (fun hc => absurd (nI_lt (a := F.n) (b := 5) (by omega) (by decide)) hc))
        repeat (first | (refine hP _ _ _ _ _ _ ?_; show P _ _ _ _ _ _) | (refine hP _ _ _ _ _ _ (And.intro (hN _ _ _ rfl) ?_); show P _ _ (aR _ _ :: _) _ _ _))
        refine hP _ _ _ _ _ _ (q_join (by omega) hX hz (by omega) (show k ≤ 5 by omega) (show u ≤ 9 by omega) (fun S' g hX' hz' => ?_))
        repeat (first | (refine hP _ _ _ _ _ _ ?_; show P _ _ _ _ _ _) | (refine hP _ _ _ _ _ _ (And.intro (hN _ _ _ rfl) ?_); show P _ _ (aR _ _ :: _) _ _ _))
        exact hP _ _ _ _ _ _ (h1 k u (by omega) (by omega) rfl rfl (by omega) S' (g.mono (fun j g k z => by simp only [wJ] at z; simp only [wFl]; omega)) hX' hz')
theorem q_think {tv : TV} {nT d : Nat} {S : St} {K : KT} {F : Fl} (hd : 2 ≤ d) (hX : FX tv nT S 0 F) (h : ∀ S', Ag (wTk 2) S S' → FX tv nT S' 2 F → K (some (aR 10 2)) S') : Call d m_X5_think [aR 0 0] S K := by
  refine Call.of (k := 1) hd (fun e he P hP => ?_)
  have hN := hX.1.1
  repeat (first | (refine hP _ _ _ _ _ _ ?_; show P _ _ _ _ _ _) | (refine hP _ _ _ _ _ _ (And.intro (hN _ _ _ rfl) ?_); show P _ _ (aR _ _ :: _) _ _ _))
  refine hP _ _ _ _ _ _ (Exists.intro (0) (And.intro (And.intro (rfl) (by show 0 < 3; decide)) ?_))
  refine And.intro (hN _ _ _ rfl) ?_
  show P _ _ (aR 10 2 :: _) _ _ _
  repeat (first | (refine hP _ _ _ _ _ _ ?_; show P _ _ _ _ _ _) | (refine hP _ _ _ _ _ _ (And.intro (hN _ _ _ rfl) ?_); show P _ _ (aR _ _ :: _) _ _ _))
  refine hP _ _ _ _ _ _ (q_takeFrom (by omega) hN (by decide) (fun S1 g1 ht => ?_))
  have hN := hN.up g1
  repeat (first | (refine hP _ _ _ _ _ _ ?_; show P _ _ _ _ _ _) | (refine hP _ _ _ _ _ _ (And.intro (hN _ _ _ rfl) ?_); show P _ _ (aR _ _ :: _) _ _ _))
  refine hP _ _ _ _ _ _ (Exists.intro (0) (And.intro (And.intro (rfl) (by show 0 < 3; decide)) ?_))
  refine And.intro (hN _ _ _ rfl) ?_
  show P _ _ (aR 10 2 :: _) _ _ _
  exact hP _ _ _ _ _ _ (h S1 g1 (hX.tk g1 ht))
theorem wTk_th {k : Nat} (hk : 2 ≤ k) : ∀ j g i, wTk k j g i → wTH j g i := by
  intro j g i z
  simp only [wTk] at z
  simp only [wTH]
  omega
theorem wR_th {f : Nat} (hf : 2 ≤ f) : ∀ j g i, wR f j g i → wTH j g i := by
  intro j g i z
  simp only [wR] at z
  simp only [wTH]
  omega
theorem wRn_th {f n : Nat} (hf : 2 ≤ f) : ∀ j g i, wRn f n j g i → wTH j g i := by
  intro j g i z
  simp only [wRn] at z
  simp only [wTH]
  omega
theorem w0_th : ∀ j g i, w0 j g i → wTH j g i := by
  intro j g i z
  simp only [w0] at z
  simp only [wTH]
  omega
def itF (tv : TV) (F : Fl) : Nat → Fl
  | 0 => F
  | k + 1 => rdF tv (itF tv F k)
theorem itF_n (tv : TV) (F : Fl) : ∀ k, (itF tv F k).n = F.n
  | 0 => rfl
  | k + 1 => by rw [← itF_n tv F k]; exact (rdF_all tv _).1
def rnI (G : Fl) (w a b : Nat) : Int32 := match w with
  | 0 => nI (oA G)
  | 1 => soN G G.n
  | _ => nI (G.ow a b)
theorem c_run {tv : TV} {nT d n w a b : Nat} {S : St} {K : KT} {F : Fl} {x y : Int32} (hd : 100 ≤ d) (hX : FX tv nT S 0 F) (hn : n ≤ 40) (hw : w ≤ 2) (hab : w = 2 → a < F.n ∧ b < F.n ∧ ¬ a = b ∧ x = nI a ∧ y = nI b) (h : ∀ S', Ag wTH S S' → K (some (aI (rnI (itF tv F n) w a b))) S') : Call d m_X5_run [aR 0 0, aI (nI n), aI x, aI y, aI (nI w)] S K := by
  refine Call.of (k := 99) hd (fun e he P hP => ?_)
  have hN := hX.1.1
  have hn5 := hX.2.2.1
  have rest : P 40 [some (aR 0 0), some (aI (nI n)), some (aI x), some (aI y), some (aI (nI w)), none, none] [aR 0 0] S 0 0 := by
    refine hP _ _ _ _ _ _ (q_think (by omega) hX (fun S1 g1 hX1 => ?_))
    have loop : ∀ p, p ≤ n → ∀ S2, Ag wTH S S2 → FX tv nT S2 2 (itF tv F p) → P 51 [some (aR 0 0), some (aI (nI n)), some (aI x), some (aI y), some (aI (nI w)), some (aR 10 2), some (aI (nI p))] [aI (nI n), aI (nI p)] S2 0 0 := by
      refine dn ?_ ?_
      · intro S2 g2 hX2
        have h := h S2 g2
        have hN := hX2.1.1
        have nn := itF_n tv F n
        refine hP _ _ _ _ _ _ (And.intro (fun _ => ?_) (fun hc => absurd (nI_le (Nat.le_refl n) (by omega)) hc))
        repeat (first | (refine hP _ _ _ _ _ _ ?_; show P _ _ _ _ _ _) | (refine hP _ _ _ _ _ _ (And.intro (hN _ _ _ rfl) ?_); show P _ _ (aR _ _ :: _) _ _ _))
        rcases (show w = 0 ∨ w = 1 ∨ w = 2 by omega) with rfl | rfl | rfl
        · refine hP _ _ _ _ _ _ (swP_to ?_)
          show P 96 _ _ _ _ _
          repeat (first | (refine hP _ _ _ _ _ _ ?_; show P _ _ _ _ _ _) | (refine hP _ _ _ _ _ _ (And.intro (hN _ _ _ rfl) ?_); show P _ _ (aR _ _ :: _) _ _ _))
          refine hP _ _ _ _ _ _ (q_all (by omega) hX2 ?_)
          repeat (first | (refine hP _ _ _ _ _ _ ?_; show P _ _ _ _ _ _) | (refine hP _ _ _ _ _ _ (And.intro (hN _ _ _ rfl) ?_); show P _ _ (aR _ _ :: _) _ _ _))
          exact hP _ _ _ _ _ _ (h)
        · refine hP _ _ _ _ _ _ (swP_to ?_)
          show P 102 _ _ _ _ _
          repeat (first | (refine hP _ _ _ _ _ _ ?_; show P _ _ _ _ _ _) | (refine hP _ _ _ _ _ _ (And.intro (hN _ _ _ rfl) ?_); show P _ _ (aR _ _ :: _) _ _ _))
          refine hP _ _ _ _ _ _ (q_stillOwed (by omega) hX2 ?_)
          repeat (first | (refine hP _ _ _ _ _ _ ?_; show P _ _ _ _ _ _) | (refine hP _ _ _ _ _ _ (And.intro (hN _ _ _ rfl) ?_); show P _ _ (aR _ _ :: _) _ _ _))
          exact hP _ _ _ _ _ _ (h)
        · obtain ⟨ha, hb, -, rfl, rfl⟩ := hab rfl
          refine hP _ _ _ _ _ _ (swP_to ?_)
          show P 108 _ _ _ _ _
          repeat (first | (refine hP _ _ _ _ _ _ ?_; show P _ _ _ _ _ _) | (refine hP _ _ _ _ _ _ (And.intro (hN _ _ _ rfl) ?_); show P _ _ (aR _ _ :: _) _ _ _))
          refine hP _ _ _ _ _ _ (q_owing (by omega) hX2 (by rw [nn]; exact ha) (by rw [nn]; exact hb) ?_)
          repeat (first | (refine hP _ _ _ _ _ _ ?_; show P _ _ _ _ _ _) | (refine hP _ _ _ _ _ _ (And.intro (hN _ _ _ rfl) ?_); show P _ _ (aR _ _ :: _) _ _ _))
          exact hP _ _ _ _ _ _ (h)
      · intro p hp ih S2 g2 hX2
        have hN := hX2.1.1
        rw [nI_succ p] at ih
        refine hP _ _ _ _ _ _ (And.intro (fun hc => absurd hc (nI_ge hp (by omega))) (fun _ => ?_))
        repeat (first | (refine hP _ _ _ _ _ _ ?_; show P _ _ _ _ _ _) | (refine hP _ _ _ _ _ _ (And.intro (hN _ _ _ rfl) ?_); show P _ _ (aR _ _ :: _) _ _ _))
        refine hP _ _ _ _ _ _ (q_danceRound (by omega) hX2 (fun S3 g3 hX3 _ => ?_))
        have := ih S3 (g2.tr (g3.mono (wRn_th (by omega)))) hX3
        repeat (first | (refine hP _ _ _ _ _ _ ?_; show P _ _ _ _ _ _) | (refine hP _ _ _ _ _ _ (And.intro (hN _ _ _ rfl) ?_); show P _ _ (aR _ _ :: _) _ _ _))
        exact this
    repeat (first | (refine hP _ _ _ _ _ _ ?_; show P _ _ _ _ _ _) | (refine hP _ _ _ _ _ _ (And.intro (hN _ _ _ rfl) ?_); show P _ _ (aR _ _ :: _) _ _ _))
    exact loop 0 (by omega) S1 (g1.mono (wTk_th (by omega))) hX1
  repeat (first | (refine hP _ _ _ _ _ _ ?_; show P _ _ _ _ _ _) | (refine hP _ _ _ _ _ _ (And.intro (hN _ _ _ rfl) ?_); show P _ _ (aR _ _ :: _) _ _ _))
  refine hP _ _ _ _ _ _ (And.intro (fun hc => absurd hc (nI_pos (by omega))) (fun _ => ?_))
  repeat (first | (refine hP _ _ _ _ _ _ ?_; show P _ _ _ _ _ _) | (refine hP _ _ _ _ _ _ (And.intro (hN _ _ _ rfl) ?_); show P _ _ (aR _ _ :: _) _ _ _))
  refine hP _ _ _ _ _ _ (And.intro (fun hc => absurd hc (nI_nlt (a := 40) (b := n) (by omega) (by decide))) (fun _ => ?_))
  repeat (first | (refine hP _ _ _ _ _ _ ?_; show P _ _ _ _ _ _) | (refine hP _ _ _ _ _ _ (And.intro (hN _ _ _ rfl) ?_); show P _ _ (aR _ _ :: _) _ _ _))
  refine hP _ _ _ _ _ _ (And.intro (fun hc => absurd hc (nI_pos (by omega))) (fun _ => ?_))
  repeat (first | (refine hP _ _ _ _ _ _ ?_; show P _ _ _ _ _ _) | (refine hP _ _ _ _ _ _ (And.intro (hN _ _ _ rfl) ?_); show P _ _ (aR _ _ :: _) _ _ _))
  refine hP _ _ _ _ _ _ (And.intro (fun hc => absurd hc (nI_nlt (a := 2) (b := w) (by omega) (by decide))) (fun _ => ?_))
  repeat (first | (refine hP _ _ _ _ _ _ ?_; show P _ _ _ _ _ _) | (refine hP _ _ _ _ _ _ (And.intro (hN _ _ _ rfl) ?_); show P _ _ (aR _ _ :: _) _ _ _))
  rcases (show w = 0 ∨ w = 1 ∨ w = 2 by omega) with rfl | rfl | rfl
  · repeat (first | (refine hP _ _ _ _ _ _ ?_; show P _ _ _ _ _ _) | (refine hP _ _ _ _ _ _ (And.intro (hN _ _ _ rfl) ?_); show P _ _ (aR _ _ :: _) _ _ _) | refine hP _ _ _ _ _ _ (And.intro (fun _ => ?_) (fun hc => absurd hc (by decide))) | refine hP _ _ _ _ _ _ (And.intro (fun hc => absurd hc (by decide)) (fun _ => ?_)))
    exact rest
  · repeat (first | (refine hP _ _ _ _ _ _ ?_; show P _ _ _ _ _ _) | (refine hP _ _ _ _ _ _ (And.intro (hN _ _ _ rfl) ?_); show P _ _ (aR _ _ :: _) _ _ _) | refine hP _ _ _ _ _ _ (And.intro (fun _ => ?_) (fun hc => absurd hc (by decide))) | refine hP _ _ _ _ _ _ (And.intro (fun hc => absurd hc (by decide)) (fun _ => ?_)))
    exact rest
  · obtain ⟨ha, hb, hne, rfl, rfl⟩ := hab rfl
    repeat (first | (refine hP _ _ _ _ _ _ ?_; show P _ _ _ _ _ _) | (refine hP _ _ _ _ _ _ (And.intro (hN _ _ _ rfl) ?_); show P _ _ (aR _ _ :: _) _ _ _) | refine hP _ _ _ _ _ _ (And.intro (fun _ => ?_) (fun hc => absurd hc (by decide))) | refine hP _ _ _ _ _ _ (And.intro (fun hc => absurd hc (by decide)) (fun _ => ?_)))
    refine hP _ _ _ _ _ _ (c_isTwo (by omega) hN hX.2.1.1 hn5 ?_)
    rw [isT_n hn5 (by omega) (by omega), decide_eq_true ha, decide_eq_true hb, decide_eq_true hne]
    repeat (first | (refine hP _ _ _ _ _ _ ?_; show P _ _ _ _ _ _) | (refine hP _ _ _ _ _ _ (And.intro (hN _ _ _ rfl) ?_); show P _ _ (aR _ _ :: _) _ _ _) | refine hP _ _ _ _ _ _ (And.intro (fun _ => ?_) (fun hc => absurd hc (by decide))) | refine hP _ _ _ _ _ _ (And.intro (fun hc => absurd hc (by decide)) (fun _ => ?_)))
    exact rest
theorem wgh.up {tv : TV} {S S' : St} {f : Nat} {F : Fl} {W : WW} (h : wgh tv S f F) (g : Ag W S S') (hw : ∀ j k, W j f k → ¬ (j = 15 ∨ j = 16 ∨ (j = 10 ∧ k = 10))) : wgh tv S' f F := by
  refine ⟨by rw [g.1 10 f 10 (fun z => hw _ _ z (by omega))]; exact h.1, fun k hk ho => ?_⟩
  rw [g.1 15 f k (fun z => hw _ _ z (by omega)), g.1 16 f k (fun z => hw _ _ z (by omega))]
  exact h.2 k hk ho
theorem sN_zi {f : Nat → Nat} : ∀ {n : Nat}, sN f n = 0 → ∀ i, i < n → f i = 0
  | 0, _, i, hi => absurd hi (by omega)
  | n + 1, h, i, hi => by
    simp only [sN] at h
    by_cases e : i = n
    · rw [e]
      omega
    · exact sN_zi (n := n) (by omega) i (by omega)
theorem mm_ge {F : Fl} : ∀ k a, a < k → mtN F a ≤ mmN F k
  | 0, a, ha => absurd ha (by omega)
  | k + 1, a, ha => by
    simp only [mmN]
    by_cases e : a = k
    · rw [e]
      split <;> omega
    · have := mm_ge (F := F) k a (by omega)
      split <;> omega
theorem mm_pos {F : Fl} (h : ¬ oA F = 0) : 0 < mmN F F.n := by
  apply Nat.pos_of_ne_zero
  intro z
  apply h
  refine sN_z (fun a ha => sN_z (fun b hb => ?_))
  have h1 := mm_ge (F := F) F.n a ha
  have h2 : mtN F a = 0 := by omega
  have h3 := sN_zi h2 b hb
  by_cases c : 0 < F.ow a b
  · simp [c] at h3
  · omega
theorem nn6 {l : Nat} (h : l < 3) : nnr 6 l = true := by
  rcases (show l = 0 ∨ l = 1 ∨ l = 2 by omega) with rfl | rfl | rfl <;> rfl
def wCs (l : Nat) : WW := fun j g _ => j = 4 ∨ j = 5 ∨ (2 + l ≤ g ∧ 10 ≤ j ∧ j ≤ 16)
def wCr (l : Nat) : WW := fun j g k => j = 4 ∨ j = 5 ∨ (3 + l ≤ g ∧ 10 ≤ j ∧ j ≤ 16) ∨ (g = l + 2 ∧ (j = 15 ∨ j = 16 ∨ (j = 10 ∧ k = 10)))
theorem wCs_ok (l : Nat) : okW (wCs l) := by
  intro j g k hj
  simp only [wCs] at hj
  omega
theorem wCs_F {l f : Nat} (h : f < 2 + l) : okF (wCs l) f := by
  intro j k hj
  simp only [wCs] at hj
  omega
theorem wCr_ok (l : Nat) : okW (wCr l) := by
  intro j g k hj
  simp only [wCr] at hj
  omega
theorem wCr_F {l f : Nat} (h : f ≤ 2 + l) : okF (wCr l) f := by
  intro j k hj
  simp only [wCr] at hj
  omega
theorem wCr_th (l : Nat) : ∀ j g k, wCr l j g k → wTH j g k := by
  intro j g k z
  simp only [wCr] at z
  simp only [wTH]
  omega
theorem c_clears {tv : TV} {nT : Nat} : ∀ n, n ≤ 3 → ∀ {l d : Nat} {S : St} {K : KT} {F : Fl}, n + l ≤ 3 → l ≤ 2 → 10 + n ≤ d → FX tv nT S (l + 2) F → (∀ S', Ag (wCr l) S S' → K (some (aI (b2 (clN tv n F)))) S') → Call d m_X5_clears [aR 0 0, aI (nI l), aI (nI n)] S K := by
  intro n
  induction n with
  | zero =>
    intro _ l d S K F hl hl2 hd hX h
    refine Call.of (k := 9) (by omega) (fun e he P hP => ?_)
    have hN := hX.1.1
    have h := h S (Ag.rf _ _)
    have hA := hX.2.2.bA
    have hmle := mmN_le F F.n
    have hn5 := hX.2.2.1
    repeat (first | (refine hP _ _ _ _ _ _ ?_; show P _ _ _ _ _ _) | (refine hP _ _ _ _ _ _ (And.intro (hN _ _ _ rfl) ?_); show P _ _ (aR _ _ :: _) _ _ _))
    refine hP _ _ _ _ _ _ (Exists.intro (l) (And.intro (And.intro (rfl) (by show l < 3; omega)) ?_))
    refine And.intro (hN _ _ _ (nn6 (by omega))) ?_
    show P _ _ (aR 10 (l + 2) :: _) _ _ _
    repeat (first | (refine hP _ _ _ _ _ _ ?_; show P _ _ _ _ _ _) | (refine hP _ _ _ _ _ _ (And.intro (hN _ _ _ rfl) ?_); show P _ _ (aR _ _ :: _) _ _ _))
    refine hP _ _ _ _ _ _ (q_all (by omega) hX ?_)
    repeat (first | (refine hP _ _ _ _ _ _ ?_; show P _ _ _ _ _ _) | (refine hP _ _ _ _ _ _ (And.intro (hN _ _ _ rfl) ?_); show P _ _ (aR _ _ :: _) _ _ _))
    refine hP _ _ _ _ _ _ (And.intro (fun hc => ?_) (fun hc => ?_))
    · have h0 : ¬ oA F = 0 := fun z => hc (by rw [z]; rfl)
      have hp := mm_pos h0
      rw [cl_cut (tv := tv) hp] at h
      repeat (first | (refine hP _ _ _ _ _ _ ?_; show P _ _ _ _ _ _) | (refine hP _ _ _ _ _ _ (And.intro (hN _ _ _ rfl) ?_); show P _ _ (aR _ _ :: _) _ _ _))
      refine hP _ _ _ _ _ _ (q_mostToMeet (by omega) hX ?_)
      repeat (first | (refine hP _ _ _ _ _ _ ?_; show P _ _ _ _ _ _) | (refine hP _ _ _ _ _ _ (And.intro (hN _ _ _ rfl) ?_); show P _ _ (aR _ _ :: _) _ _ _))
      refine hP _ _ _ _ _ _ (geI (x := 0) (y := mmN F F.n) (by omega) (by omega) (fun hc2 => absurd hc2 (by omega)) (fun hc2 => ?_))
      repeat (first | (refine hP _ _ _ _ _ _ ?_; show P _ _ _ _ _ _) | (refine hP _ _ _ _ _ _ (And.intro (hN _ _ _ rfl) ?_); show P _ _ (aR _ _ :: _) _ _ _))
      refine hP _ _ _ _ _ _ (And.intro (Or.inl rfl) h)
    · have h0 : oA F = 0 := (nI_eq (b := 0) (by omega) (by omega)).mp hc
      rw [cl_0 tv 0 F h0] at h
      repeat (first | (refine hP _ _ _ _ _ _ ?_; show P _ _ _ _ _ _) | (refine hP _ _ _ _ _ _ (And.intro (hN _ _ _ rfl) ?_); show P _ _ (aR _ _ :: _) _ _ _))
      refine hP _ _ _ _ _ _ (And.intro (Or.inr rfl) h)
  | succ n ihn =>
    intro hn3 l d S K F hl hl2 hd hX h
    refine Call.of (k := 10 + n) (by omega) (fun e he P hP => ?_)
    have hN := hX.1.1
    have hA := hX.2.2.bA
    have hmle := mmN_le F F.n
    have hn5 := hX.2.2.1
    repeat (first | (refine hP _ _ _ _ _ _ ?_; show P _ _ _ _ _ _) | (refine hP _ _ _ _ _ _ (And.intro (hN _ _ _ rfl) ?_); show P _ _ (aR _ _ :: _) _ _ _))
    refine hP _ _ _ _ _ _ (Exists.intro (l) (And.intro (And.intro (rfl) (by show l < 3; omega)) ?_))
    refine And.intro (hN _ _ _ (nn6 (by omega))) ?_
    show P _ _ (aR 10 (l + 2) :: _) _ _ _
    repeat (first | (refine hP _ _ _ _ _ _ ?_; show P _ _ _ _ _ _) | (refine hP _ _ _ _ _ _ (And.intro (hN _ _ _ rfl) ?_); show P _ _ (aR _ _ :: _) _ _ _))
    refine hP _ _ _ _ _ _ (q_all (by omega) hX ?_)
    repeat (first | (refine hP _ _ _ _ _ _ ?_; show P _ _ _ _ _ _) | (refine hP _ _ _ _ _ _ (And.intro (hN _ _ _ rfl) ?_); show P _ _ (aR _ _ :: _) _ _ _))
    refine hP _ _ _ _ _ _ (And.intro (fun hc => ?_) (fun hc => ?_))
    · have h0 : ¬ oA F = 0 := fun z => hc (by rw [z]; rfl)
      repeat (first | (refine hP _ _ _ _ _ _ ?_; show P _ _ _ _ _ _) | (refine hP _ _ _ _ _ _ (And.intro (hN _ _ _ rfl) ?_); show P _ _ (aR _ _ :: _) _ _ _))
      refine hP _ _ _ _ _ _ (q_mostToMeet (by omega) hX ?_)
      repeat (first | (refine hP _ _ _ _ _ _ ?_; show P _ _ _ _ _ _) | (refine hP _ _ _ _ _ _ (And.intro (hN _ _ _ rfl) ?_); show P _ _ (aR _ _ :: _) _ _ _))
      refine hP _ _ _ _ _ _ (geI (x := n + 1) (y := mmN F F.n) (by omega) (by omega) (fun hc2 => ?_) (fun hc2 => ?_))
      · repeat (first | (refine hP _ _ _ _ _ _ ?_; show P _ _ _ _ _ _) | (refine hP _ _ _ _ _ _ (And.intro (hN _ _ _ rfl) ?_); show P _ _ (aR _ _ :: _) _ _ _))
        refine hP _ _ _ _ _ _ (q_weigh (by omega) hX (fun S1 g1 hX1 hw1 => ?_))
        have hN1 := hX1.1.1
        have hN := hN1
        have g1 : Ag (wCr l) S S1 := g1.mono (fun j g k z => by simp only [wW] at z; simp only [wCr]; omega)
        have hz := hX1.1.2.2.2
        rcases n with _ | n
        · have hb := biN_in tv F 26 (Nat.le_refl _)
          have hp := pdN_le (tv := tv) hX.2.2 hb.2
          have h := h S1 g1
          rw [cl_1 hX.2.2] at h
          repeat (first | (refine hP _ _ _ _ _ _ ?_; show P _ _ _ _ _ _) | (refine hP _ _ _ _ _ _ (And.intro (hN _ _ _ rfl) ?_); show P _ _ (aR _ _ :: _) _ _ _) | refine hP _ _ _ _ _ _ (And.intro (fun _ => ?_) (fun hc => absurd hc (by decide))) | refine hP _ _ _ _ _ _ (And.intro (fun hc => absurd hc (by decide)) (fun _ => ?_)))
          refine hP _ _ _ _ _ _ (q_bestSet (by omega) hX1 hw1 ?_)
          repeat (first | (refine hP _ _ _ _ _ _ ?_; show P _ _ _ _ _ _) | (refine hP _ _ _ _ _ _ (And.intro (hN _ _ _ rfl) ?_); show P _ _ (aR _ _ :: _) _ _ _))
          refine hP _ _ _ _ _ _ (q_paidBy (by omega) hX1 hw1 hb.1 hb.2 ?_)
          repeat (first | (refine hP _ _ _ _ _ _ ?_; show P _ _ _ _ _ _) | (refine hP _ _ _ _ _ _ (And.intro (hN _ _ _ rfl) ?_); show P _ _ (aR _ _ :: _) _ _ _))
          refine hP _ _ _ _ _ _ (And.intro (fun hc3 => ?_) (fun hc3 => ?_))
          · rw [decide_eq_false (fun z => hc3 (by rw [z]))] at h
            repeat (first | (refine hP _ _ _ _ _ _ ?_; show P _ _ _ _ _ _) | (refine hP _ _ _ _ _ _ (And.intro (hN _ _ _ rfl) ?_); show P _ _ (aR _ _ :: _) _ _ _))
            refine hP _ _ _ _ _ _ (And.intro (Or.inl rfl) h)
          · rw [decide_eq_true ((nI_eq (by omega) (by omega)).mp hc3)] at h
            repeat (first | (refine hP _ _ _ _ _ _ ?_; show P _ _ _ _ _ _) | (refine hP _ _ _ _ _ _ (And.intro (hN _ _ _ rfl) ?_); show P _ _ (aR _ _ :: _) _ _ _))
            refine hP _ _ _ _ _ _ (And.intro (Or.inr rfl) h)
        · have loop : ∀ i, i ≤ 26 → ∀ S2, Ag (wCs (l + 1)) S1 S2 → an (fun i => okS tv F i && clN tv (n + 1) (dsF tv F i)) i = false → P 90 [some (aR 0 0), some (aI (nI l)), some (aI (nI (n + 1 + 1))), some (aR 10 (l + 2)), some (aI (nI (oA F))), some (aR 10 (l + 1 + 2)), some (aI (nI i))] [aI (nI 26), aI (nI i)] S2 0 0 := by
            refine dn ?_ ?_
            · intro S2 g2 ha
              have h := h S2 (g1.tr (g2.mono (fun j g k z => by simp only [wCs] at z; simp only [wCr]; omega)))
              rw [show clN tv (n + 1 + 1) F = false from ha] at h
              refine hP _ _ _ _ _ _ (And.intro (fun _ => ?_) (fun hc => absurd (nI_le (Nat.le_refl 26) (by decide)) hc))
              repeat (first | (refine hP _ _ _ _ _ _ ?_; show P _ _ _ _ _ _) | (refine hP _ _ _ _ _ _ (And.intro (hN _ _ _ rfl) ?_); show P _ _ (aR _ _ :: _) _ _ _))
              refine hP _ _ _ _ _ _ (And.intro (Or.inl rfl) h)
            · intro i hi ih S2 g2 ha
              have hX2 := hX1.up g2 (wCs_ok _) (wCs_F (by omega))
              have hw2 := hw1.up g2 (fun j k z => by simp only [wCs] at z; omega)
              have hN := hX2.1.1
              have hz := hX2.1.2.2.2
              rw [nI_succ i] at ih
              refine hP _ _ _ _ _ _ (And.intro (fun hc => absurd hc (nI_ge (b := 26) hi (by decide))) (fun _ => ?_))
              repeat (first | (refine hP _ _ _ _ _ _ ?_; show P _ _ _ _ _ _) | (refine hP _ _ _ _ _ _ (And.intro (hN _ _ _ rfl) ?_); show P _ _ (aR _ _ :: _) _ _ _))
              refine hP _ _ _ _ _ _ (Exists.intro (i) (And.intro (And.intro (rfl) (show i < 26 from hi)) ?_))
              rw [hz i hi]
              repeat (first | (refine hP _ _ _ _ _ _ ?_; show P _ _ _ _ _ _) | (refine hP _ _ _ _ _ _ (And.intro (hN _ _ _ rfl) ?_); show P _ _ (aR _ _ :: _) _ _ _))
              refine hP _ _ _ _ _ _ (q_mayAll (by omega) hX2 hw2 hi ?_)
              repeat (first | (refine hP _ _ _ _ _ _ ?_; show P _ _ _ _ _ _) | (refine hP _ _ _ _ _ _ (And.intro (hN _ _ _ rfl) ?_); show P _ _ (aR _ _ :: _) _ _ _))
              refine hP _ _ _ _ _ _ (bn2 (fun ho => ?_) (fun ho => ?_))
              · repeat (first | (refine hP _ _ _ _ _ _ ?_; show P _ _ _ _ _ _) | (refine hP _ _ _ _ _ _ (And.intro (hN _ _ _ rfl) ?_); show P _ _ (aR _ _ :: _) _ _ _))
                exact ih S2 g2 (by simp only [an, ha, ho]; rfl)
              · repeat (first | (refine hP _ _ _ _ _ _ ?_; show P _ _ _ _ _ _) | (refine hP _ _ _ _ _ _ (And.intro (hN _ _ _ rfl) ?_); show P _ _ (aR _ _ :: _) _ _ _))
                refine hP _ _ _ _ _ _ (q_takeFrom (by omega) hN (by omega) (fun S3 g3 ht3 => ?_))
                have hX3 := hX2.tk g3 ht3
                have hw3 := hw2.up g3 (fun j k z => by simp only [wTk] at z; omega)
                have hN := hX3.1.1
                have hz := hX3.1.2.2.2
                repeat (first | (refine hP _ _ _ _ _ _ ?_; show P _ _ _ _ _ _) | (refine hP _ _ _ _ _ _ (And.intro (hN _ _ _ rfl) ?_); show P _ _ (aR _ _ :: _) _ _ _))
                refine hP _ _ _ _ _ _ (Exists.intro (i) (And.intro (And.intro (rfl) (show i < 26 from hi)) ?_))
                rw [hz i hi]
                repeat (first | (refine hP _ _ _ _ _ _ ?_; show P _ _ _ _ _ _) | (refine hP _ _ _ _ _ _ (And.intro (hN _ _ _ rfl) ?_); show P _ _ (aR _ _ :: _) _ _ _))
                refine hP _ _ _ _ _ _ (q_danceSet (by omega) hX3 hw3 hi ho (fun S4 g4 hX4 => ?_))
                have hN := hX4.1.1
                repeat (first | (refine hP _ _ _ _ _ _ ?_; show P _ _ _ _ _ _) | (refine hP _ _ _ _ _ _ (And.intro (hN _ _ _ rfl) ?_); show P _ _ (aR _ _ :: _) _ _ _))
                rw [show nI l + 1 = nI (l + 1) from nI_1 l, show nI (n + 1 + 1) - 1 = nI (n + 1) from nI_pred (n + 1)]
                refine hP _ _ _ _ _ _ (ihn (by omega) (l := l + 1) (by omega) (by omega) (by omega) hX4 (fun S5 g5 => ?_))
                have g25 : Ag (wCs (l + 1)) S2 S5 := ((g3.mono (fun j g k z => by simp only [wTk] at z; simp only [wCs]; omega)).tr (g4.mono (fun j g k z => by simp only [wD] at z; simp only [wCs]; omega))).tr (g5.mono (fun j g k z => by simp only [wCr] at z; simp only [wCs]; omega))
                have hN := hX4.1.1.up g5
                repeat (first | (refine hP _ _ _ _ _ _ ?_; show P _ _ _ _ _ _) | (refine hP _ _ _ _ _ _ (And.intro (hN _ _ _ rfl) ?_); show P _ _ (aR _ _ :: _) _ _ _))
                refine hP _ _ _ _ _ _ (bn2 (fun hc => ?_) (fun hc => ?_))
                · repeat (first | (refine hP _ _ _ _ _ _ ?_; show P _ _ _ _ _ _) | (refine hP _ _ _ _ _ _ (And.intro (hN _ _ _ rfl) ?_); show P _ _ (aR _ _ :: _) _ _ _))
                  exact ih S5 (g2.tr g25) (by simp only [an, ha, ho, hc]; rfl)
                · have h := h S5 (g1.tr ((g2.tr g25).mono (fun j g k z => by simp only [wCs] at z; simp only [wCr]; omega)))
                  have hcl : clN tv (n + 1 + 1) F = true := an_iff.mpr ⟨i, hi, by rw [ho, hc]; rfl⟩
                  rw [hcl] at h
                  repeat (first | (refine hP _ _ _ _ _ _ ?_; show P _ _ _ _ _ _) | (refine hP _ _ _ _ _ _ (And.intro (hN _ _ _ rfl) ?_); show P _ _ (aR _ _ :: _) _ _ _))
                  refine hP _ _ _ _ _ _ (And.intro (Or.inr rfl) h)
          repeat (first | (refine hP _ _ _ _ _ _ ?_; show P _ _ _ _ _ _) | (refine hP _ _ _ _ _ _ (And.intro (hN _ _ _ rfl) ?_); show P _ _ (aR _ _ :: _) _ _ _))
          refine hP _ _ _ _ _ _ (And.intro (fun _ => ?_) (fun hc3 => absurd ((nI_eq (b := 1) (by omega) (by decide)).mp hc3) (by omega)))
          repeat (first | (refine hP _ _ _ _ _ _ ?_; show P _ _ _ _ _ _) | (refine hP _ _ _ _ _ _ (And.intro (hN _ _ _ rfl) ?_); show P _ _ (aR _ _ :: _) _ _ _))
          rw [show nI l + 1 = nI (l + 1) from nI_1 l]
          refine hP _ _ _ _ _ _ (And.intro (fun _ => ?_) (fun hc => absurd (nI_lt (a := l + 1) (b := 3) (by omega) (by decide)) hc))
          repeat (first | (refine hP _ _ _ _ _ _ ?_; show P _ _ _ _ _ _) | (refine hP _ _ _ _ _ _ (And.intro (hN _ _ _ rfl) ?_); show P _ _ (aR _ _ :: _) _ _ _))
          refine hP _ _ _ _ _ _ (Exists.intro (l + 1) (And.intro (And.intro (nI_1 l) (by show l + 1 < 3; omega)) ?_))
          refine And.intro (hN _ _ _ (nn6 (by omega))) ?_
          show P _ _ (aR 10 (l + 1 + 2) :: _) _ _ _
          repeat (first | (refine hP _ _ _ _ _ _ ?_; show P _ _ _ _ _ _) | (refine hP _ _ _ _ _ _ (And.intro (hN _ _ _ rfl) ?_); show P _ _ (aR _ _ :: _) _ _ _))
          exact loop 0 (by omega) S1 (Ag.rf _ _) rfl
      · have h := h S (Ag.rf _ _)
        rw [cl_cut (tv := tv) (by omega)] at h
        repeat (first | (refine hP _ _ _ _ _ _ ?_; show P _ _ _ _ _ _) | (refine hP _ _ _ _ _ _ (And.intro (hN _ _ _ rfl) ?_); show P _ _ (aR _ _ :: _) _ _ _))
        refine hP _ _ _ _ _ _ (And.intro (Or.inl rfl) h)
    · have h0 : oA F = 0 := (nI_eq (b := 0) (by omega) (by omega)).mp hc
      have h := h S (Ag.rf _ _)
      rw [cl_0 tv _ F h0] at h
      repeat (first | (refine hP _ _ _ _ _ _ ?_; show P _ _ _ _ _ _) | (refine hP _ _ _ _ _ _ (And.intro (hN _ _ _ rfl) ?_); show P _ _ (aR _ _ :: _) _ _ _))
      refine hP _ _ _ _ _ _ (And.intro (Or.inr rfl) h)
theorem c_soonest {tv : TV} {nT d : Nat} {S : St} {K : KT} {F : Fl} (hd : 20 ≤ d) (hX : FX tv nT S 0 F) (h : ∀ S', Ag wTH S S' → K (some (aI (snN tv F 4 0))) S') : Call d m_X5_soonest [aR 0 0] S K := by
  refine Call.of (k := 19) hd (fun e he P hP => ?_)
  have hN := hX.1.1
  generalize hr : snN tv F 4 0 = r at h
  repeat (first | (refine hP _ _ _ _ _ _ ?_; show P _ _ _ _ _ _) | (refine hP _ _ _ _ _ _ (And.intro (hN _ _ _ rfl) ?_); show P _ _ (aR _ _ :: _) _ _ _))
  refine hP _ _ _ _ _ _ (q_think (by omega) hX (fun S0 g0 hX0 => ?_))
  have loop : ∀ k, k ≤ 4 → ∀ S1, Ag (wCr 0) S0 S1 → snN tv F (4 - k) k = r → P 9 [some (aR 0 0), some (aI (nI k))] [aI 3, aI (nI k)] S1 0 0 := by
    refine dn ?_ ?_
    · intro S1 g1 he
      have h := h S1 ((g0.mono (wTk_th (by omega))).tr (g1.mono (wCr_th _)))
      rw [← he] at h
      refine hP _ _ _ _ _ _ (And.intro (fun _ => ?_) (fun hc => absurd (nI_lt (a := 3) (b := 4) (by decide) (by decide)) hc))
      repeat (first | (refine hP _ _ _ _ _ _ ?_; show P _ _ _ _ _ _) | (refine hP _ _ _ _ _ _ (And.intro (hN _ _ _ rfl) ?_); show P _ _ (aR _ _ :: _) _ _ _))
      exact hP _ _ _ _ _ _ (h)
    · intro k hk ih S1 g1 he
      have hX1 := hX0.up g1 (wCr_ok _) (wCr_F (by omega))
      rw [show 4 - k = (4 - (k + 1)) + 1 by omega] at he
      simp only [snN] at he
      refine hP _ _ _ _ _ _ (And.intro (fun hc => absurd hc (nI_nlt (a := 3) (b := k) (by omega) (by decide))) (fun _ => ?_))
      have hN := hX1.1.1
      repeat (first | (refine hP _ _ _ _ _ _ ?_; show P _ _ _ _ _ _) | (refine hP _ _ _ _ _ _ (And.intro (hN _ _ _ rfl) ?_); show P _ _ (aR _ _ :: _) _ _ _))
      refine hP _ _ _ _ _ _ (c_clears k (by omega) (l := 0) (by omega) (by omega) (by omega) hX1 (fun S2 g2 => ?_))
      have g12 := g1.tr g2
      repeat (first | (refine hP _ _ _ _ _ _ ?_; show P _ _ _ _ _ _) | (refine hP _ _ _ _ _ _ (And.intro (hN _ _ _ rfl) ?_); show P _ _ (aR _ _ :: _) _ _ _))
      refine hP _ _ _ _ _ _ (bn2 (fun hc => ?_) (fun hc => ?_))
      · rw [if_neg (by rw [hc]; decide)] at he
        have := ih S2 g12 he
        rw [nI_succ] at this
        repeat (first | (refine hP _ _ _ _ _ _ ?_; show P _ _ _ _ _ _) | (refine hP _ _ _ _ _ _ (And.intro (hN _ _ _ rfl) ?_); show P _ _ (aR _ _ :: _) _ _ _))
        exact this
      · rw [if_pos hc] at he
        have h := h S2 ((g0.mono (wTk_th (by omega))).tr (g12.mono (wCr_th _)))
        rw [← he] at h
        repeat (first | (refine hP _ _ _ _ _ _ ?_; show P _ _ _ _ _ _) | (refine hP _ _ _ _ _ _ (And.intro (hN _ _ _ rfl) ?_); show P _ _ (aR _ _ :: _) _ _ _))
        exact hP _ _ _ _ _ _ (h)
  have hN := hX0.1.1
  repeat (first | (refine hP _ _ _ _ _ _ ?_; show P _ _ _ _ _ _) | (refine hP _ _ _ _ _ _ (And.intro (hN _ _ _ rfl) ?_); show P _ _ (aR _ _ :: _) _ _ _))
  exact loop 0 (by omega) S0 (Ag.rf _ _) hr
theorem c_sitters {tv : TV} {nT d : Nat} {S : St} {K : KT} {F : Fl} (hd : 20 ≤ d) (hX : FX tv nT S 0 F) (h : ∀ S', Ag wTH S S' → K (some (aI (siN tv F))) S') : Call d m_X5_sitters [aR 0 0] S K := by
  refine Call.of (k := 19) hd (fun e he P hP => ?_)
  have hN := hX.1.1
  repeat (first | (refine hP _ _ _ _ _ _ ?_; show P _ _ _ _ _ _) | (refine hP _ _ _ _ _ _ (And.intro (hN _ _ _ rfl) ?_); show P _ _ (aR _ _ :: _) _ _ _))
  refine hP _ _ _ _ _ _ (q_think (by omega) hX (fun S0 g0 hX0 => ?_))
  have hN := hX0.1.1
  repeat (first | (refine hP _ _ _ _ _ _ ?_; show P _ _ _ _ _ _) | (refine hP _ _ _ _ _ _ (And.intro (hN _ _ _ rfl) ?_); show P _ _ (aR _ _ :: _) _ _ _))
  refine hP _ _ _ _ _ _ (q_danceRound (by omega) hX0 (fun S1 g1 hX1 hz => ?_))
  have hN := hX1.1.1
  have h := h S1 ((g0.mono (wTk_th (by omega))).tr (g1.mono (wRn_th (by omega))))
  repeat (first | (refine hP _ _ _ _ _ _ ?_; show P _ _ _ _ _ _) | (refine hP _ _ _ _ _ _ (And.intro (hN _ _ _ rfl) ?_); show P _ _ (aR _ _ :: _) _ _ _))
  rw [hX1.2.1.1, hz, (rdF_all tv F).1]
  exact hP _ _ _ _ _ _ (h)
/-- what best() tells -/
def beI (tv : TV) (F : Fl) (w : Nat) : Int32 := match w with
  | 0 => nI (setN (biN tv F 26))
  | 1 => nI (pdN tv F (biN tv F 26))
  | 2 => siN tv F
  | 3 => nI (rdP tv F)
  | 4 => snN tv F 4 0
  | 5 => nI (ltN F)
  | 6 => nI (rgN F)
  | 7 => enN tv F
  | _ => (kpN F F.n).1
theorem c_best {tv : TV} {nT d w : Nat} {S : St} {K : KT} {F : Fl} (hd : 100 ≤ d) (hX : FX tv nT S 0 F) (hw : w ≤ 8) (h : ∀ S', Ag wTH S S' → K (some (aI (beI tv F w))) S') : Call d m_X5_best [aR 0 0, aI (nI w)] S K := by
  refine Call.of (k := 99) hd (fun e he P hP => ?_)
  have hN := hX.1.1
  have w_th : ∀ j g k, wW 0 j g k → wTH j g k := fun j g k z => by
    simp only [wW] at z
    simp only [wTH]
    omega
  have hb := biN_in tv F 26 (Nat.le_refl _)
  repeat (first | (refine hP _ _ _ _ _ _ ?_; show P _ _ _ _ _ _) | (refine hP _ _ _ _ _ _ (And.intro (hN _ _ _ rfl) ?_); show P _ _ (aR _ _ :: _) _ _ _))
  rcases (show w = 0 ∨ w = 1 ∨ w = 2 ∨ w = 3 ∨ w = 4 ∨ w = 5 ∨ w = 6 ∨ w = 7 ∨ w = 8 by omega) with rfl | rfl | rfl | rfl | rfl | rfl | rfl | rfl | rfl
  · refine hP _ _ _ _ _ _ (swP_to ?_)
    show P 52 _ _ _ _ _
    repeat (first | (refine hP _ _ _ _ _ _ ?_; show P _ _ _ _ _ _) | (refine hP _ _ _ _ _ _ (And.intro (hN _ _ _ rfl) ?_); show P _ _ (aR _ _ :: _) _ _ _))
    refine hP _ _ _ _ _ _ (q_weigh (by omega) hX (fun S1 g1 hX1 hw1 => ?_))
    have hN := hX1.1.1
    repeat (first | (refine hP _ _ _ _ _ _ ?_; show P _ _ _ _ _ _) | (refine hP _ _ _ _ _ _ (And.intro (hN _ _ _ rfl) ?_); show P _ _ (aR _ _ :: _) _ _ _))
    refine hP _ _ _ _ _ _ (q_bestSet (by omega) hX1 hw1 ?_)
    repeat (first | (refine hP _ _ _ _ _ _ ?_; show P _ _ _ _ _ _) | (refine hP _ _ _ _ _ _ (And.intro (hN _ _ _ rfl) ?_); show P _ _ (aR _ _ :: _) _ _ _))
    exact hP _ _ _ _ _ _ (h S1 (g1.mono w_th))
  · refine hP _ _ _ _ _ _ (swP_to ?_)
    show P 67 _ _ _ _ _
    repeat (first | (refine hP _ _ _ _ _ _ ?_; show P _ _ _ _ _ _) | (refine hP _ _ _ _ _ _ (And.intro (hN _ _ _ rfl) ?_); show P _ _ (aR _ _ :: _) _ _ _))
    refine hP _ _ _ _ _ _ (q_weigh (by omega) hX (fun S1 g1 hX1 hw1 => ?_))
    have hN := hX1.1.1
    repeat (first | (refine hP _ _ _ _ _ _ ?_; show P _ _ _ _ _ _) | (refine hP _ _ _ _ _ _ (And.intro (hN _ _ _ rfl) ?_); show P _ _ (aR _ _ :: _) _ _ _))
    refine hP _ _ _ _ _ _ (q_bestSet (by omega) hX1 hw1 ?_)
    repeat (first | (refine hP _ _ _ _ _ _ ?_; show P _ _ _ _ _ _) | (refine hP _ _ _ _ _ _ (And.intro (hN _ _ _ rfl) ?_); show P _ _ (aR _ _ :: _) _ _ _))
    refine hP _ _ _ _ _ _ (q_paidBy (by omega) hX1 hw1 hb.1 hb.2 ?_)
    repeat (first | (refine hP _ _ _ _ _ _ ?_; show P _ _ _ _ _ _) | (refine hP _ _ _ _ _ _ (And.intro (hN _ _ _ rfl) ?_); show P _ _ (aR _ _ :: _) _ _ _))
    exact hP _ _ _ _ _ _ (h S1 (g1.mono w_th))
  · refine hP _ _ _ _ _ _ (swP_to ?_)
    show P 89 _ _ _ _ _
    repeat (first | (refine hP _ _ _ _ _ _ ?_; show P _ _ _ _ _ _) | (refine hP _ _ _ _ _ _ (And.intro (hN _ _ _ rfl) ?_); show P _ _ (aR _ _ :: _) _ _ _))
    refine hP _ _ _ _ _ _ (c_sitters (by omega) hX (fun S1 g1 => ?_))
    repeat (first | (refine hP _ _ _ _ _ _ ?_; show P _ _ _ _ _ _) | (refine hP _ _ _ _ _ _ (And.intro (hN _ _ _ rfl) ?_); show P _ _ (aR _ _ :: _) _ _ _))
    exact hP _ _ _ _ _ _ (h S1 g1)
  · refine hP _ _ _ _ _ _ (swP_to ?_)
    show P 94 _ _ _ _ _
    repeat (first | (refine hP _ _ _ _ _ _ ?_; show P _ _ _ _ _ _) | (refine hP _ _ _ _ _ _ (And.intro (hN _ _ _ rfl) ?_); show P _ _ (aR _ _ :: _) _ _ _))
    refine hP _ _ _ _ _ _ (q_think (by omega) hX (fun S0 g0 hX0 => ?_))
    have hN := hX0.1.1
    repeat (first | (refine hP _ _ _ _ _ _ ?_; show P _ _ _ _ _ _) | (refine hP _ _ _ _ _ _ (And.intro (hN _ _ _ rfl) ?_); show P _ _ (aR _ _ :: _) _ _ _))
    refine hP _ _ _ _ _ _ (q_danceRound (by omega) hX0 (fun S1 g1 hX1 _ => ?_))
    repeat (first | (refine hP _ _ _ _ _ _ ?_; show P _ _ _ _ _ _) | (refine hP _ _ _ _ _ _ (And.intro (hN _ _ _ rfl) ?_); show P _ _ (aR _ _ :: _) _ _ _))
    exact hP _ _ _ _ _ _ (h S1 ((g0.mono (wTk_th (by omega))).tr (g1.mono (wRn_th (by omega)))))
  · refine hP _ _ _ _ _ _ (swP_to ?_)
    show P 102 _ _ _ _ _
    repeat (first | (refine hP _ _ _ _ _ _ ?_; show P _ _ _ _ _ _) | (refine hP _ _ _ _ _ _ (And.intro (hN _ _ _ rfl) ?_); show P _ _ (aR _ _ :: _) _ _ _))
    refine hP _ _ _ _ _ _ (c_soonest (by omega) hX (fun S1 g1 => ?_))
    repeat (first | (refine hP _ _ _ _ _ _ ?_; show P _ _ _ _ _ _) | (refine hP _ _ _ _ _ _ (And.intro (hN _ _ _ rfl) ?_); show P _ _ (aR _ _ :: _) _ _ _))
    exact hP _ _ _ _ _ _ (h S1 g1)
  · refine hP _ _ _ _ _ _ (swP_to ?_)
    show P 107 _ _ _ _ _
    repeat (first | (refine hP _ _ _ _ _ _ ?_; show P _ _ _ _ _ _) | (refine hP _ _ _ _ _ _ (And.intro (hN _ _ _ rfl) ?_); show P _ _ (aR _ _ :: _) _ _ _))
    refine hP _ _ _ _ _ _ (q_least (by omega) hX ?_)
    repeat (first | (refine hP _ _ _ _ _ _ ?_; show P _ _ _ _ _ _) | (refine hP _ _ _ _ _ _ (And.intro (hN _ _ _ rfl) ?_); show P _ _ (aR _ _ :: _) _ _ _))
    exact hP _ _ _ _ _ _ (h S (Ag.rf _ _))
  · refine hP _ _ _ _ _ _ (swP_to ?_)
    show P 115 _ _ _ _ _
    repeat (first | (refine hP _ _ _ _ _ _ ?_; show P _ _ _ _ _ _) | (refine hP _ _ _ _ _ _ (And.intro (hN _ _ _ rfl) ?_); show P _ _ (aR _ _ :: _) _ _ _))
    refine hP _ _ _ _ _ _ (q_ring (by omega) hX ?_)
    repeat (first | (refine hP _ _ _ _ _ _ ?_; show P _ _ _ _ _ _) | (refine hP _ _ _ _ _ _ (And.intro (hN _ _ _ rfl) ?_); show P _ _ (aR _ _ :: _) _ _ _))
    exact hP _ _ _ _ _ _ (h S (Ag.rf _ _))
  · refine hP _ _ _ _ _ _ (swP_to ?_)
    show P 123 _ _ _ _ _
    repeat (first | (refine hP _ _ _ _ _ _ ?_; show P _ _ _ _ _ _) | (refine hP _ _ _ _ _ _ (And.intro (hN _ _ _ rfl) ?_); show P _ _ (aR _ _ :: _) _ _ _))
    refine hP _ _ _ _ _ _ (q_think (by omega) hX (fun S0 g0 hX0 => ?_))
    have hN := hX0.1.1
    repeat (first | (refine hP _ _ _ _ _ _ ?_; show P _ _ _ _ _ _) | (refine hP _ _ _ _ _ _ (And.intro (hN _ _ _ rfl) ?_); show P _ _ (aR _ _ :: _) _ _ _))
    refine hP _ _ _ _ _ _ (q_ends (by omega) hX0 (fun S1 g1 => ?_))
    repeat (first | (refine hP _ _ _ _ _ _ ?_; show P _ _ _ _ _ _) | (refine hP _ _ _ _ _ _ (And.intro (hN _ _ _ rfl) ?_); show P _ _ (aR _ _ :: _) _ _ _))
    exact hP _ _ _ _ _ _ (h S1 ((g0.mono (wTk_th (by omega))).tr (g1.mono (wR_th (by omega)))))
  · refine hP _ _ _ _ _ _ (swP_to ?_)
    show P 131 _ _ _ _ _
    repeat (first | (refine hP _ _ _ _ _ _ ?_; show P _ _ _ _ _ _) | (refine hP _ _ _ _ _ _ (And.intro (hN _ _ _ rfl) ?_); show P _ _ (aR _ _ :: _) _ _ _))
    refine hP _ _ _ _ _ _ (q_keeps (by omega) hX ?_)
    repeat (first | (refine hP _ _ _ _ _ _ ?_; show P _ _ _ _ _ _) | (refine hP _ _ _ _ _ _ (And.intro (hN _ _ _ rfl) ?_); show P _ _ (aR _ _ :: _) _ _ _))
    exact hP _ _ _ _ _ _ (h S (Ag.rf _ _))
