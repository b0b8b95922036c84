/-! copy -/
theorem nI_p1 {a b : Nat} (ha : 1 ≤ a) (hb : 1 ≤ b) (ha2 : a < 2 ^ 31) (hb2 : b < 2 ^ 31) : nI a - 1 = nI b - 1 ↔ a = b := by
  obtain ⟨u, rfl⟩ : ∃ u, a = u + 1 := ⟨a - 1, by omega⟩
  obtain ⟨w, rfl⟩ : ∃ w, b = w + 1 := ⟨b - 1, by omega⟩
  rw [nI_pred, nI_pred, nI_eq (by omega) (by omega)]
  omega
theorem nI_p1n {a : Nat} (ha : 1 ≤ a) (ha2 : a < 2 ^ 31) : ¬ nI a - 1 = -1 := by
  obtain ⟨u, rfl⟩ : ∃ u, a = u + 1 := ⟨a - 1, by omega⟩
  rw [nI_pred]
  exact nI_m1 (by omega)
theorem hoB_ex {sz : Nat} {i n : Int32} (hs : sz ≤ 40) (h : hoB sz i n = true) : ∃ a m, i = nI a ∧ n = nI m ∧ a + m ≤ sz := by
  have h := of_decide_eq_true h
  obtain ⟨h1, h2, h3, h4⟩ := h
  obtain ⟨a, ha, rfl⟩ := nI_of (Int32.not_lt.mpr h1)
  obtain ⟨m, hm, rfl⟩ := nI_of (Int32.not_lt.mpr h2)
  have hm2 : m ≤ sz := by
    by_cases c : m ≤ sz
    · exact c
    · exact absurd h3 (nI_ge (by omega) (by omega))
  rw [nI_subR hm2 (by omega)] at h4
  refine ⟨a, m, rfl, rfl, ?_⟩
  by_cases c : a ≤ sz - m
  · omega
  · exact absurd h4 (nI_ge (by omega) (by omega))
theorem hoB_no {sz : Nat} {i n : Int32} (hs : sz ≤ 40) (h : hoB sz i n = false) (h1 : ¬ i < 0) (h2 : ¬ n < 0) : nI sz - n < i := by
  have h := of_decide_eq_false h
  obtain ⟨a, ha, rfl⟩ := nI_of h1
  obtain ⟨m, hm, rfl⟩ := nI_of h2
  have e1 : (nI a).toInt = a := nI_toInt (by omega)
  have e2 : (nI m).toInt = m := nI_toInt (by omega)
  have e3 : (nI sz).toInt = sz := nI_toInt (by omega)
  have e0 : (0 : Int32).toInt = 0 := by decide
  have e4 : (nI sz - nI m).toInt = (sz : Int) - m := by
    rw [Int32.toInt_sub, e2, e3, Int.bmod_eq_of_le (by omega) (by omega)]
  rw [Int32.lt_iff_toInt_lt, e1, e4]
  rw [Int32.le_iff_toInt_le, Int32.le_iff_toInt_le, Int32.le_iff_toInt_le, Int32.le_iff_toInt_le, e0, e1, e2, e3, e4] at h
  omega
theorem hoB_yes {sz a m : Nat} (hs : sz ≤ 40) (h : a + m ≤ sz) : ¬ nI sz - nI m < nI a := by
  rw [nI_subR (by omega) (by omega)]
  exact nI_nlt (by omega) (by omega)
def cpV (u v : Nat × Nat × (Nat → Int32)) (a b m : Nat) : Nat × Nat × (Nat → Int32) := (v.1, v.2.1, fun k => if b ≤ k ∧ k < b + m then u.2.2 (a + (k - b)) else v.2.2 k)
/-- the model's way, from where all is well -/
theorem n_copyx {d g a h b m : Nat} {S : St} {K : KT} {sh : Shs} (hd : 3 ≤ d) (hN : NN S) (hm0 : SHm S sh) (hcl : ∀ i, i < 4 → (sh i).2.1 ≤ 40) (hg : g < 4) (hh : h < 4) (hs0 : ¬ (sh g).1 = 0) (hs1 : (sh g).1 = (sh h).1) (h1 : a + m ≤ (sh g).2.1) (h2 : b + m ≤ (sh h).2.1) (hK : ∀ S', Ag mSH S S' → SHm S' (upS sh h (cpV (sh g) (sh h) a b m)) → K (some (aI (nI m))) S') : Call d m_X6_copy [aR 40 0, aI (nI g), aI (nI a), aI (nI h), aI (nI b), aI (nI m)] S K := by
  refine Call.of (k := 2) hd (fun e he P hP => ?_)
  have hN0 := hN
  have htg : S.1 55 0 g = 1 := by rw [hm0.there hg, decide_eq_true hs0]; rfl
  have hth : S.1 55 0 h = 1 := by rw [hm0.there hh, decide_eq_true (by rw [← hs1]; exact hs0)]; rfl
  obtain ⟨m1, m2, m3⟩ := (hm0 g hg).2 hs0
  obtain ⟨n1, n2, n3⟩ := (hm0 h hh).2 (by rw [← hs1]; exact hs0)
  have n0 := (hm0 h hh).1
  have c1 := hcl g hg
  have c2 := hcl h hh
  have fin : ∀ S', Ag (fun j _ k => j = 58 ∧ 40 * h ≤ k ∧ k < 40 * h + 40) S S' → cyM S S' g a h b 0 m → K (some (aI (nI m))) S' := by
    intro S' g1 cy
    refine hK S' (g1.mono (fun j i k z => by simp only [mSH]; omega)) (hm0.set hcl g1 (fun j i k z => by omega) ⟨by rw [g1.1 55 0 h (by simp)]; exact n0, fun _ => ⟨by rw [g1.1 56 0 h (by simp)]; exact n1, by rw [g1.1 57 0 h (by simp)]; exact n2, fun k hk => ?_⟩⟩)
    have hk : k < (sh h).2.1 := hk
    show _ = if b ≤ k ∧ k < b + m then (sh g).2.2 (a + (k - b)) else (sh h).2.2 k
    rw [cy (40 * h + k)]
    by_cases c : b ≤ k ∧ k < b + m
    · rw [if_pos (by omega), if_pos c, show 40 * g + a + (40 * h + k - (40 * h + b)) = 40 * g + (a + (k - b)) by omega]
      exact m3 _ (by omega)
    · rw [if_neg (by omega), if_neg c]
      exact n3 k hk
  have go : ∀ u : Nat, (u = if g = h ∧ a < b then 1 else 0) → P 125 [some (aR 40 0), some (aI (nI g)), some (aI (nI a)), some (aI (nI h)), some (aI (nI b)), some (aI (nI m)), some (aI (nI u)), some (aI (nI 0)), none] [aI (nI m), aI (nI 0)] S 0 0 := by
    intro u hu
    refine n_copyL (N1 := 0) (P := P) hN0 hP hg hh (by omega) (by omega) hu fin 0 (Nat.zero_le _) S none (Ag.rf _ _) (fun p => ?_)
    by_cases e : u = 1
    · rw [if_pos e, if_pos e, if_neg (by omega)]
    · rw [if_neg e, if_neg e, if_neg (by omega)]
  repeat (first | (refine hP _ _ _ _ _ _ ?_; show P _ _ _ _ _ _) | (refine hP _ _ _ _ _ _ (And.intro (hN _ _ _ rfl) ?_); show P _ _ (aR _ _ :: _) _ _ _))
  refine hP _ _ _ _ _ _ (n_isSheet (by omega) ?_)
  rw [isD_N (by omega) (by omega), decide_eq_true hg]
  repeat (first | (refine hP _ _ _ _ _ _ ?_; show P _ _ _ _ _ _) | (refine hP _ _ _ _ _ _ (And.intro (hN _ _ _ rfl) ?_); show P _ _ (aR _ _ :: _) _ _ _) | refine hP _ _ _ _ _ _ (And.intro (fun _ => ?_) (fun hc => absurd hc (by decide))) | refine hP _ _ _ _ _ _ (And.intro (fun hc => absurd hc (by decide)) (fun _ => ?_)))
  refine hP _ _ _ _ _ _ (n_isSheet (by omega) ?_)
  rw [isD_N (by omega) (by omega), decide_eq_true hh]
  repeat (first | (refine hP _ _ _ _ _ _ ?_; show P _ _ _ _ _ _) | (refine hP _ _ _ _ _ _ (And.intro (hN _ _ _ rfl) ?_); show P _ _ (aR _ _ :: _) _ _ _) | refine hP _ _ _ _ _ _ (And.intro (fun _ => ?_) (fun hc => absurd hc (by decide))) | refine hP _ _ _ _ _ _ (And.intro (fun hc => absurd hc (by decide)) (fun _ => ?_)))
  refine hP _ _ _ _ _ _ (Exists.intro (g) (And.intro (And.intro (rfl) (show g < 4 from hg)) ?_))
  rw [htg]
  repeat (first | (refine hP _ _ _ _ _ _ ?_; show P _ _ _ _ _ _) | (refine hP _ _ _ _ _ _ (And.intro (hN _ _ _ rfl) ?_); show P _ _ (aR _ _ :: _) _ _ _) | refine hP _ _ _ _ _ _ (And.intro (fun _ => ?_) (fun hc => absurd hc (by decide))) | refine hP _ _ _ _ _ _ (And.intro (fun hc => absurd hc (by decide)) (fun _ => ?_)))
  refine hP _ _ _ _ _ _ (Exists.intro (h) (And.intro (And.intro (rfl) (show h < 4 from hh)) ?_))
  rw [hth]
  repeat (first | (refine hP _ _ _ _ _ _ ?_; show P _ _ _ _ _ _) | (refine hP _ _ _ _ _ _ (And.intro (hN _ _ _ rfl) ?_); show P _ _ (aR _ _ :: _) _ _ _) | refine hP _ _ _ _ _ _ (And.intro (fun _ => ?_) (fun hc => absurd hc (by decide))) | refine hP _ _ _ _ _ _ (And.intro (fun hc => absurd hc (by decide)) (fun _ => ?_)))
  refine hP _ _ _ _ _ _ (Exists.intro (g) (And.intro (And.intro (rfl) (show g < 4 from hg)) ?_))
  rw [m1]
  repeat (first | (refine hP _ _ _ _ _ _ ?_; show P _ _ _ _ _ _) | (refine hP _ _ _ _ _ _ (And.intro (hN _ _ _ rfl) ?_); show P _ _ (aR _ _ :: _) _ _ _))
  refine hP _ _ _ _ _ _ (Exists.intro (h) (And.intro (And.intro (rfl) (show h < 4 from hh)) ?_))
  rw [n1, hs1]
  refine hP _ _ _ _ _ _ (And.intro (fun _ => ?_) (fun hc => absurd rfl hc))
  repeat (first | (refine hP _ _ _ _ _ _ ?_; show P _ _ _ _ _ _) | (refine hP _ _ _ _ _ _ (And.intro (hN _ _ _ rfl) ?_); show P _ _ (aR _ _ :: _) _ _ _))
  refine hP _ _ _ _ _ _ (And.intro (fun hc => absurd hc (nI_pos (by omega))) (fun _ => ?_))
  repeat (first | (refine hP _ _ _ _ _ _ ?_; show P _ _ _ _ _ _) | (refine hP _ _ _ _ _ _ (And.intro (hN _ _ _ rfl) ?_); show P _ _ (aR _ _ :: _) _ _ _))
  refine hP _ _ _ _ _ _ (And.intro (fun hc => absurd hc (nI_pos (by omega))) (fun _ => ?_))
  repeat (first | (refine hP _ _ _ _ _ _ ?_; show P _ _ _ _ _ _) | (refine hP _ _ _ _ _ _ (And.intro (hN _ _ _ rfl) ?_); show P _ _ (aR _ _ :: _) _ _ _))
  refine hP _ _ _ _ _ _ (And.intro (fun hc => absurd hc (nI_pos (by omega))) (fun _ => ?_))
  repeat (first | (refine hP _ _ _ _ _ _ ?_; show P _ _ _ _ _ _) | (refine hP _ _ _ _ _ _ (And.intro (hN _ _ _ rfl) ?_); show P _ _ (aR _ _ :: _) _ _ _))
  refine hP _ _ _ _ _ _ (Exists.intro (g) (And.intro (And.intro (rfl) (show g < 4 from hg)) ?_))
  rw [m2]
  repeat (first | (refine hP _ _ _ _ _ _ ?_; show P _ _ _ _ _ _) | (refine hP _ _ _ _ _ _ (And.intro (hN _ _ _ rfl) ?_); show P _ _ (aR _ _ :: _) _ _ _))
  refine hP _ _ _ _ _ _ (And.intro (fun hc => absurd hc (hoB_yes c1 h1)) (fun _ => ?_))
  repeat (first | (refine hP _ _ _ _ _ _ ?_; show P _ _ _ _ _ _) | (refine hP _ _ _ _ _ _ (And.intro (hN _ _ _ rfl) ?_); show P _ _ (aR _ _ :: _) _ _ _))
  refine hP _ _ _ _ _ _ (Exists.intro (h) (And.intro (And.intro (rfl) (show h < 4 from hh)) ?_))
  rw [n2]
  repeat (first | (refine hP _ _ _ _ _ _ ?_; show P _ _ _ _ _ _) | (refine hP _ _ _ _ _ _ (And.intro (hN _ _ _ rfl) ?_); show P _ _ (aR _ _ :: _) _ _ _))
  refine hP _ _ _ _ _ _ (And.intro (fun _ => ?_) (fun hc => absurd (Int32.not_lt.mp (hoB_yes c2 h2)) hc))
  repeat (first | (refine hP _ _ _ _ _ _ ?_; show P _ _ _ _ _ _) | (refine hP _ _ _ _ _ _ (And.intro (hN _ _ _ rfl) ?_); show P _ _ (aR _ _ :: _) _ _ _))
  refine hP _ _ _ _ _ _ (And.intro (fun hc => ?_) (fun hc => ?_))
  · have go := go 0 (by rw [if_neg (fun z => hc (by rw [z.1]))])
    repeat (first | (refine hP _ _ _ _ _ _ ?_; show P _ _ _ _ _ _) | (refine hP _ _ _ _ _ _ (And.intro (hN _ _ _ rfl) ?_); show P _ _ (aR _ _ :: _) _ _ _))
    exact go
  · have e : g = h := (nI_eq (by omega) (by omega)).mp hc
    repeat (first | (refine hP _ _ _ _ _ _ ?_; show P _ _ _ _ _ _) | (refine hP _ _ _ _ _ _ (And.intro (hN _ _ _ rfl) ?_); show P _ _ (aR _ _ :: _) _ _ _))
    refine hP _ _ _ _ _ _ (geI (x := a) (y := b) (by omega) (by omega) (fun hc2 => ?_) (fun hc2 => ?_))
    · have go := go 0 (by rw [if_neg (fun z => by omega)])
      repeat (first | (refine hP _ _ _ _ _ _ ?_; show P _ _ _ _ _ _) | (refine hP _ _ _ _ _ _ (And.intro (hN _ _ _ rfl) ?_); show P _ _ (aR _ _ :: _) _ _ _))
      exact go
    · have go := go 1 (by rw [if_pos ⟨e, by omega⟩])
      repeat (first | (refine hP _ _ _ _ _ _ ?_; show P _ _ _ _ _ _) | (refine hP _ _ _ _ _ _ (And.intro (hN _ _ _ rfl) ?_); show P _ _ (aR _ _ :: _) _ _ _))
      exact go
theorem n_copy_no {d g h : Nat} {S : St} {K : KT} {sh : Shs} {i j n : Int32} (hd : 3 ≤ d) (hN : NN S) (hm0 : SHm S sh) (hcl : ∀ i, i < 4 → (sh i).2.1 ≤ 40) (hg : g < 4) (hh : h < 4) (hs0 : ¬ (sh g).1 = 0) (hs1 : (sh g).1 = (sh h).1) (hb : hoB (sh g).2.1 i n = false ∨ hoB (sh h).2.1 j n = false) (hK : K (some (aI (-12))) S) : Call d m_X6_copy [aR 40 0, aI (nI g), aI i, aI (nI h), aI j, aI n] S K := by
  refine Call.of (k := 2) hd (fun e he P hP => ?_)
  have htg : S.1 55 0 g = 1 := by rw [hm0.there hg, decide_eq_true hs0]; rfl
  have hth : S.1 55 0 h = 1 := by rw [hm0.there hh, decide_eq_true (by rw [← hs1]; exact hs0)]; rfl
  obtain ⟨m1, m2, m3⟩ := (hm0 g hg).2 hs0
  obtain ⟨n1, n2, n3⟩ := (hm0 h hh).2 (by rw [← hs1]; exact hs0)
  have c1 := hcl g hg
  have c2 := hcl h hh
  repeat (first | (refine hP _ _ _ _ _ _ ?_; show P _ _ _ _ _ _) | (refine hP _ _ _ _ _ _ (And.intro (hN _ _ _ rfl) ?_); show P _ _ (aR _ _ :: _) _ _ _))
  refine hP _ _ _ _ _ _ (n_isSheet (by omega) ?_)
  rw [isD_N (by omega) (by omega), decide_eq_true hg]
  repeat (first | (refine hP _ _ _ _ _ _ ?_; show P _ _ _ _ _ _) | (refine hP _ _ _ _ _ _ (And.intro (hN _ _ _ rfl) ?_); show P _ _ (aR _ _ :: _) _ _ _) | refine hP _ _ _ _ _ _ (And.intro (fun _ => ?_) (fun hc => absurd hc (by decide))) | refine hP _ _ _ _ _ _ (And.intro (fun hc => absurd hc (by decide)) (fun _ => ?_)))
  refine hP _ _ _ _ _ _ (n_isSheet (by omega) ?_)
  rw [isD_N (by omega) (by omega), decide_eq_true hh]
  repeat (first | (refine hP _ _ _ _ _ _ ?_; show P _ _ _ _ _ _) | (refine hP _ _ _ _ _ _ (And.intro (hN _ _ _ rfl) ?_); show P _ _ (aR _ _ :: _) _ _ _) | refine hP _ _ _ _ _ _ (And.intro (fun _ => ?_) (fun hc => absurd hc (by decide))) | refine hP _ _ _ _ _ _ (And.intro (fun hc => absurd hc (by decide)) (fun _ => ?_)))
  refine hP _ _ _ _ _ _ (Exists.intro (g) (And.intro (And.intro (rfl) (show g < 4 from hg)) ?_))
  rw [htg]
  repeat (first | (refine hP _ _ _ _ _ _ ?_; show P _ _ _ _ _ _) | (refine hP _ _ _ _ _ _ (And.intro (hN _ _ _ rfl) ?_); show P _ _ (aR _ _ :: _) _ _ _) | refine hP _ _ _ _ _ _ (And.intro (fun _ => ?_) (fun hc => absurd hc (by decide))) | refine hP _ _ _ _ _ _ (And.intro (fun hc => absurd hc (by decide)) (fun _ => ?_)))
  refine hP _ _ _ _ _ _ (Exists.intro (h) (And.intro (And.intro (rfl) (show h < 4 from hh)) ?_))
  rw [hth]
  repeat (first | (refine hP _ _ _ _ _ _ ?_; show P _ _ _ _ _ _) | (refine hP _ _ _ _ _ _ (And.intro (hN _ _ _ rfl) ?_); show P _ _ (aR _ _ :: _) _ _ _) | refine hP _ _ _ _ _ _ (And.intro (fun _ => ?_) (fun hc => absurd hc (by decide))) | refine hP _ _ _ _ _ _ (And.intro (fun hc => absurd hc (by decide)) (fun _ => ?_)))
  refine hP _ _ _ _ _ _ (Exists.intro (g) (And.intro (And.intro (rfl) (show g < 4 from hg)) ?_))
  rw [m1]
  repeat (first | (refine hP _ _ _ _ _ _ ?_; show P _ _ _ _ _ _) | (refine hP _ _ _ _ _ _ (And.intro (hN _ _ _ rfl) ?_); show P _ _ (aR _ _ :: _) _ _ _))
  refine hP _ _ _ _ _ _ (Exists.intro (h) (And.intro (And.intro (rfl) (show h < 4 from hh)) ?_))
  rw [n1, hs1]
  refine hP _ _ _ _ _ _ (And.intro (fun _ => ?_) (fun hc => absurd rfl hc))
  repeat (first | (refine hP _ _ _ _ _ _ ?_; show P _ _ _ _ _ _) | (refine hP _ _ _ _ _ _ (And.intro (hN _ _ _ rfl) ?_); show P _ _ (aR _ _ :: _) _ _ _))
  refine hP _ _ _ _ _ _ (And.intro (fun z1 => ?_) (fun z1 => ?_))
  · repeat (first | (refine hP _ _ _ _ _ _ ?_; show P _ _ _ _ _ _) | (refine hP _ _ _ _ _ _ (And.intro (hN _ _ _ rfl) ?_); show P _ _ (aR _ _ :: _) _ _ _))
    exact hP _ _ _ _ _ _ (hK)
  · repeat (first | (refine hP _ _ _ _ _ _ ?_; show P _ _ _ _ _ _) | (refine hP _ _ _ _ _ _ (And.intro (hN _ _ _ rfl) ?_); show P _ _ (aR _ _ :: _) _ _ _))
    refine hP _ _ _ _ _ _ (And.intro (fun z2 => ?_) (fun z2 => ?_))
    · repeat (first | (refine hP _ _ _ _ _ _ ?_; show P _ _ _ _ _ _) | (refine hP _ _ _ _ _ _ (And.intro (hN _ _ _ rfl) ?_); show P _ _ (aR _ _ :: _) _ _ _))
      exact hP _ _ _ _ _ _ (hK)
    · repeat (first | (refine hP _ _ _ _ _ _ ?_; show P _ _ _ _ _ _) | (refine hP _ _ _ _ _ _ (And.intro (hN _ _ _ rfl) ?_); show P _ _ (aR _ _ :: _) _ _ _))
      refine hP _ _ _ _ _ _ (And.intro (fun z3 => ?_) (fun z3 => ?_))
      · repeat (first | (refine hP _ _ _ _ _ _ ?_; show P _ _ _ _ _ _) | (refine hP _ _ _ _ _ _ (And.intro (hN _ _ _ rfl) ?_); show P _ _ (aR _ _ :: _) _ _ _))
        exact hP _ _ _ _ _ _ (hK)
      · repeat (first | (refine hP _ _ _ _ _ _ ?_; show P _ _ _ _ _ _) | (refine hP _ _ _ _ _ _ (And.intro (hN _ _ _ rfl) ?_); show P _ _ (aR _ _ :: _) _ _ _))
        refine hP _ _ _ _ _ _ (Exists.intro (g) (And.intro (And.intro (rfl) (show g < 4 from hg)) ?_))
        rw [m2]
        repeat (first | (refine hP _ _ _ _ _ _ ?_; show P _ _ _ _ _ _) | (refine hP _ _ _ _ _ _ (And.intro (hN _ _ _ rfl) ?_); show P _ _ (aR _ _ :: _) _ _ _))
        refine hP _ _ _ _ _ _ (And.intro (fun z4 => ?_) (fun z4 => ?_))
        · repeat (first | (refine hP _ _ _ _ _ _ ?_; show P _ _ _ _ _ _) | (refine hP _ _ _ _ _ _ (And.intro (hN _ _ _ rfl) ?_); show P _ _ (aR _ _ :: _) _ _ _))
          exact hP _ _ _ _ _ _ (hK)
        · repeat (first | (refine hP _ _ _ _ _ _ ?_; show P _ _ _ _ _ _) | (refine hP _ _ _ _ _ _ (And.intro (hN _ _ _ rfl) ?_); show P _ _ (aR _ _ :: _) _ _ _))
          refine hP _ _ _ _ _ _ (Exists.intro (h) (And.intro (And.intro (rfl) (show h < 4 from hh)) ?_))
          rw [n2]
          repeat (first | (refine hP _ _ _ _ _ _ ?_; show P _ _ _ _ _ _) | (refine hP _ _ _ _ _ _ (And.intro (hN _ _ _ rfl) ?_); show P _ _ (aR _ _ :: _) _ _ _))
          refine hP _ _ _ _ _ _ (And.intro (fun z5 => ?_) (fun z5 => ?_))
          · rcases hb with z | z
            · exact absurd (hoB_no c1 z z2 z1) z4
            · exact absurd (hoB_no c2 z z3 z1) (Int32.not_lt.mpr z5)
          · repeat (first | (refine hP _ _ _ _ _ _ ?_; show P _ _ _ _ _ _) | (refine hP _ _ _ _ _ _ (And.intro (hN _ _ _ rfl) ?_); show P _ _ (aR _ _ :: _) _ _ _))
            exact hP _ _ _ _ _ _ (hK)
theorem op_copy (x i y j n : Int32) : OpA m_X5_copy m_X6_copy [aI x, aI i, aI y, aI j, aI n] isI := by
  intro d S K hd hT hK
  obtain ⟨F, I, sh, T, nT, tb, hT⟩ := hT
  have hX := hT.fx
  have hN0 := hX.1.1
  have hc0 := hT.2.2.2.1.2.2.2.2.2.1
  have hm0 := hT.2.2.2.2.2.2.2.2.1
  have hcl : ∀ i, i < 4 → (sh i).2.1 ≤ 40 := fun i hi => (hc0 i hi).2.2.2.1
  have hTT : TTx S := ⟨F, I, sh, T, nT, tb, hT⟩
  refine Call.of (k := 199) hd (fun e he P hP => ?_)
  have hN := hN0
  repeat (first | (refine hP _ _ _ _ _ _ ?_; show P _ _ _ _ _ _) | (refine hP _ _ _ _ _ _ (And.intro (hN _ _ _ rfl) ?_); show P _ _ (aR _ _ :: _) _ _ _))
  refine hP _ _ _ _ _ _ (c_isSheet (by omega) ?_)
  cases hx : isD 4 x with
  | false =>
    have fin := hK S (aI (-2)) ⟨_, rfl⟩ (by omega) (fun d' K' hd' hK' => by
      have hK' := hK' S hTT
      refine Call.of (k := 199) hd' (fun e he P hP => ?_)
      repeat (first | (refine hP _ _ _ _ _ _ ?_; show P _ _ _ _ _ _) | (refine hP _ _ _ _ _ _ (And.intro (hN _ _ _ rfl) ?_); show P _ _ (aR _ _ :: _) _ _ _))
      refine hP _ _ _ _ _ _ (n_isSheet (by omega) ?_)
      rw [hx]
      repeat (first | (refine hP _ _ _ _ _ _ ?_; show P _ _ _ _ _ _) | (refine hP _ _ _ _ _ _ (And.intro (hN _ _ _ rfl) ?_); show P _ _ (aR _ _ :: _) _ _ _) | refine hP _ _ _ _ _ _ (And.intro (fun _ => ?_) (fun hc => absurd hc (by decide))) | refine hP _ _ _ _ _ _ (And.intro (fun hc => absurd hc (by decide)) (fun _ => ?_)))
      exact hP _ _ _ _ _ _ (hK'))
    repeat (first | (refine hP _ _ _ _ _ _ ?_; show P _ _ _ _ _ _) | (refine hP _ _ _ _ _ _ (And.intro (hN _ _ _ rfl) ?_); show P _ _ (aR _ _ :: _) _ _ _) | refine hP _ _ _ _ _ _ (And.intro (fun _ => ?_) (fun hc => absurd hc (by decide))) | refine hP _ _ _ _ _ _ (And.intro (fun hc => absurd hc (by decide)) (fun _ => ?_)))
    exact hP _ _ _ _ _ _ (fin)
  | true =>
    obtain ⟨g, hg, -, rfl⟩ := isD_of hx
    repeat (first | (refine hP _ _ _ _ _ _ ?_; show P _ _ _ _ _ _) | (refine hP _ _ _ _ _ _ (And.intro (hN _ _ _ rfl) ?_); show P _ _ (aR _ _ :: _) _ _ _) | refine hP _ _ _ _ _ _ (And.intro (fun _ => ?_) (fun hc => absurd hc (by decide))) | refine hP _ _ _ _ _ _ (And.intro (fun hc => absurd hc (by decide)) (fun _ => ?_)))
    refine hP _ _ _ _ _ _ (c_isSheet (by omega) ?_)
    cases hy : isD 4 y with
    | false =>
      have fin := hK S (aI (-2)) ⟨_, rfl⟩ (by omega) (fun d' K' hd' hK' => by
        have hK' := hK' S hTT
        refine Call.of (k := 199) hd' (fun e he P hP => ?_)
        repeat (first | (refine hP _ _ _ _ _ _ ?_; show P _ _ _ _ _ _) | (refine hP _ _ _ _ _ _ (And.intro (hN _ _ _ rfl) ?_); show P _ _ (aR _ _ :: _) _ _ _))
        refine hP _ _ _ _ _ _ (n_isSheet (by omega) ?_)
        rw [hx]
        repeat (first | (refine hP _ _ _ _ _ _ ?_; show P _ _ _ _ _ _) | (refine hP _ _ _ _ _ _ (And.intro (hN _ _ _ rfl) ?_); show P _ _ (aR _ _ :: _) _ _ _) | refine hP _ _ _ _ _ _ (And.intro (fun _ => ?_) (fun hc => absurd hc (by decide))) | refine hP _ _ _ _ _ _ (And.intro (fun hc => absurd hc (by decide)) (fun _ => ?_)))
        refine hP _ _ _ _ _ _ (n_isSheet (by omega) ?_)
        rw [hy]
        repeat (first | (refine hP _ _ _ _ _ _ ?_; show P _ _ _ _ _ _) | (refine hP _ _ _ _ _ _ (And.intro (hN _ _ _ rfl) ?_); show P _ _ (aR _ _ :: _) _ _ _) | refine hP _ _ _ _ _ _ (And.intro (fun _ => ?_) (fun hc => absurd hc (by decide))) | refine hP _ _ _ _ _ _ (And.intro (fun hc => absurd hc (by decide)) (fun _ => ?_)))
        exact hP _ _ _ _ _ _ (hK'))
      repeat (first | (refine hP _ _ _ _ _ _ ?_; show P _ _ _ _ _ _) | (refine hP _ _ _ _ _ _ (And.intro (hN _ _ _ rfl) ?_); show P _ _ (aR _ _ :: _) _ _ _) | refine hP _ _ _ _ _ _ (And.intro (fun _ => ?_) (fun hc => absurd hc (by decide))) | refine hP _ _ _ _ _ _ (And.intro (fun hc => absurd hc (by decide)) (fun _ => ?_)))
      exact hP _ _ _ _ _ _ (fin)
    | true =>
      obtain ⟨h, hh, -, rfl⟩ := isD_of hy
      obtain ⟨a1, a2, a3, a4, a5⟩ := hc0 g hg
      obtain ⟨b1, b2', b3, b4, b5⟩ := hc0 h hh
      have htg := hm0.there hg
      have hth := hm0.there hh
      repeat (first | (refine hP _ _ _ _ _ _ ?_; show P _ _ _ _ _ _) | (refine hP _ _ _ _ _ _ (And.intro (hN _ _ _ rfl) ?_); show P _ _ (aR _ _ :: _) _ _ _) | refine hP _ _ _ _ _ _ (And.intro (fun _ => ?_) (fun hc => absurd hc (by decide))) | refine hP _ _ _ _ _ _ (And.intro (fun hc => absurd hc (by decide)) (fun _ => ?_)))
      refine hP _ _ _ _ _ _ (Exists.intro (g) (And.intro (And.intro (rfl) (show g < 4 from hg)) ?_))
      refine And.intro (hN _ _ _ (nn18 hg)) ?_
      show P _ _ (aR 20 g :: _) _ _ _
      repeat (first | (refine hP _ _ _ _ _ _ ?_; show P _ _ _ _ _ _) | (refine hP _ _ _ _ _ _ (And.intro (hN _ _ _ rfl) ?_); show P _ _ (aR _ _ :: _) _ _ _))
      refine hP _ _ _ _ _ _ (Exists.intro (h) (And.intro (And.intro (rfl) (show h < 4 from hh)) ?_))
      refine And.intro (hN _ _ _ (nn18 hh)) ?_
      show P _ _ (aR 20 h :: _) _ _ _
      repeat (first | (refine hP _ _ _ _ _ _ ?_; show P _ _ _ _ _ _) | (refine hP _ _ _ _ _ _ (And.intro (hN _ _ _ rfl) ?_); show P _ _ (aR _ _ :: _) _ _ _))
      rw [a1]
      by_cases hs0 : (sh g).1 = 0
      · have fin := hK S (aI (-11)) ⟨_, rfl⟩ (by omega) (fun d' K' hd' hK' => by
          have hK' := hK' S hTT
          refine Call.of (k := 199) hd' (fun e he P hP => ?_)
          repeat (first | (refine hP _ _ _ _ _ _ ?_; show P _ _ _ _ _ _) | (refine hP _ _ _ _ _ _ (And.intro (hN _ _ _ rfl) ?_); show P _ _ (aR _ _ :: _) _ _ _))
          refine hP _ _ _ _ _ _ (n_isSheet (by omega) ?_)
          rw [hx]
          repeat (first | (refine hP _ _ _ _ _ _ ?_; show P _ _ _ _ _ _) | (refine hP _ _ _ _ _ _ (And.intro (hN _ _ _ rfl) ?_); show P _ _ (aR _ _ :: _) _ _ _) | refine hP _ _ _ _ _ _ (And.intro (fun _ => ?_) (fun hc => absurd hc (by decide))) | refine hP _ _ _ _ _ _ (And.intro (fun hc => absurd hc (by decide)) (fun _ => ?_)))
          refine hP _ _ _ _ _ _ (n_isSheet (by omega) ?_)
          rw [hy]
          repeat (first | (refine hP _ _ _ _ _ _ ?_; show P _ _ _ _ _ _) | (refine hP _ _ _ _ _ _ (And.intro (hN _ _ _ rfl) ?_); show P _ _ (aR _ _ :: _) _ _ _) | refine hP _ _ _ _ _ _ (And.intro (fun _ => ?_) (fun hc => absurd hc (by decide))) | refine hP _ _ _ _ _ _ (And.intro (fun hc => absurd hc (by decide)) (fun _ => ?_)))
          refine hP _ _ _ _ _ _ (Exists.intro (g) (And.intro (And.intro (rfl) (show g < 4 from hg)) ?_))
          rw [htg, hs0]
          repeat (first | (refine hP _ _ _ _ _ _ ?_; show P _ _ _ _ _ _) | (refine hP _ _ _ _ _ _ (And.intro (hN _ _ _ rfl) ?_); show P _ _ (aR _ _ :: _) _ _ _) | refine hP _ _ _ _ _ _ (And.intro (fun _ => ?_) (fun hc => absurd hc (by decide))) | refine hP _ _ _ _ _ _ (And.intro (fun hc => absurd hc (by decide)) (fun _ => ?_)))
          exact hP _ _ _ _ _ _ (hK'))
        rw [hs0]
        repeat (first | (refine hP _ _ _ _ _ _ ?_; show P _ _ _ _ _ _) | (refine hP _ _ _ _ _ _ (And.intro (hN _ _ _ rfl) ?_); show P _ _ (aR _ _ :: _) _ _ _) | refine hP _ _ _ _ _ _ (And.intro (fun _ => ?_) (fun hc => absurd hc (by decide))) | refine hP _ _ _ _ _ _ (And.intro (fun hc => absurd hc (by decide)) (fun _ => ?_)))
        exact hP _ _ _ _ _ _ (fin)
      · have ht1 : S.1 55 0 g = 1 := by rw [htg, decide_eq_true hs0]; rfl
        refine hP _ _ _ _ _ _ (And.intro (fun hc => absurd hc (nI_p1n (by omega) (by omega))) (fun _ => ?_))
        repeat (first | (refine hP _ _ _ _ _ _ ?_; show P _ _ _ _ _ _) | (refine hP _ _ _ _ _ _ (And.intro (hN _ _ _ rfl) ?_); show P _ _ (aR _ _ :: _) _ _ _))
        rw [b1]
        by_cases hs1 : (sh h).1 = 0
        · have fin := hK S (aI (-11)) ⟨_, rfl⟩ (by omega) (fun d' K' hd' hK' => by
            have hK' := hK' S hTT
            refine Call.of (k := 199) hd' (fun e he P hP => ?_)
            repeat (first | (refine hP _ _ _ _ _ _ ?_; show P _ _ _ _ _ _) | (refine hP _ _ _ _ _ _ (And.intro (hN _ _ _ rfl) ?_); show P _ _ (aR _ _ :: _) _ _ _))
            refine hP _ _ _ _ _ _ (n_isSheet (by omega) ?_)
            rw [hx]
            repeat (first | (refine hP _ _ _ _ _ _ ?_; show P _ _ _ _ _ _) | (refine hP _ _ _ _ _ _ (And.intro (hN _ _ _ rfl) ?_); show P _ _ (aR _ _ :: _) _ _ _) | refine hP _ _ _ _ _ _ (And.intro (fun _ => ?_) (fun hc => absurd hc (by decide))) | refine hP _ _ _ _ _ _ (And.intro (fun hc => absurd hc (by decide)) (fun _ => ?_)))
            refine hP _ _ _ _ _ _ (n_isSheet (by omega) ?_)
            rw [hy]
            repeat (first | (refine hP _ _ _ _ _ _ ?_; show P _ _ _ _ _ _) | (refine hP _ _ _ _ _ _ (And.intro (hN _ _ _ rfl) ?_); show P _ _ (aR _ _ :: _) _ _ _) | refine hP _ _ _ _ _ _ (And.intro (fun _ => ?_) (fun hc => absurd hc (by decide))) | refine hP _ _ _ _ _ _ (And.intro (fun hc => absurd hc (by decide)) (fun _ => ?_)))
            refine hP _ _ _ _ _ _ (Exists.intro (g) (And.intro (And.intro (rfl) (show g < 4 from hg)) ?_))
            rw [ht1]
            repeat (first | (refine hP _ _ _ _ _ _ ?_; show P _ _ _ _ _ _) | (refine hP _ _ _ _ _ _ (And.intro (hN _ _ _ rfl) ?_); show P _ _ (aR _ _ :: _) _ _ _) | refine hP _ _ _ _ _ _ (And.intro (fun _ => ?_) (fun hc => absurd hc (by decide))) | refine hP _ _ _ _ _ _ (And.intro (fun hc => absurd hc (by decide)) (fun _ => ?_)))
            refine hP _ _ _ _ _ _ (Exists.intro (h) (And.intro (And.intro (rfl) (show h < 4 from hh)) ?_))
            rw [hth, hs1]
            repeat (first | (refine hP _ _ _ _ _ _ ?_; show P _ _ _ _ _ _) | (refine hP _ _ _ _ _ _ (And.intro (hN _ _ _ rfl) ?_); show P _ _ (aR _ _ :: _) _ _ _) | refine hP _ _ _ _ _ _ (And.intro (fun _ => ?_) (fun hc => absurd hc (by decide))) | refine hP _ _ _ _ _ _ (And.intro (fun hc => absurd hc (by decide)) (fun _ => ?_)))
            exact hP _ _ _ _ _ _ (hK'))
          rw [hs1]
          repeat (first | (refine hP _ _ _ _ _ _ ?_; show P _ _ _ _ _ _) | (refine hP _ _ _ _ _ _ (And.intro (hN _ _ _ rfl) ?_); show P _ _ (aR _ _ :: _) _ _ _) | refine hP _ _ _ _ _ _ (And.intro (fun _ => ?_) (fun hc => absurd hc (by decide))) | refine hP _ _ _ _ _ _ (And.intro (fun hc => absurd hc (by decide)) (fun _ => ?_)))
          exact hP _ _ _ _ _ _ (fin)
        · have ht2 : S.1 55 0 h = 1 := by rw [hth, decide_eq_true hs1]; rfl
          refine hP _ _ _ _ _ _ (And.intro (fun _ => ?_) (fun hc => absurd hc (nI_p1n (by omega) (by omega))))
          repeat (first | (refine hP _ _ _ _ _ _ ?_; show P _ _ _ _ _ _) | (refine hP _ _ _ _ _ _ (And.intro (hN _ _ _ rfl) ?_); show P _ _ (aR _ _ :: _) _ _ _))
          rw [a1, b1]
          by_cases hss : (sh g).1 = (sh h).1
          · refine hP _ _ _ _ _ _ (And.intro (fun _ => ?_) (fun hc => absurd ((nI_p1 (by omega) (by omega) (by omega) (by omega)).mpr hss) hc))
            repeat (first | (refine hP _ _ _ _ _ _ ?_; show P _ _ _ _ _ _) | (refine hP _ _ _ _ _ _ (And.intro (hN _ _ _ rfl) ?_); show P _ _ (aR _ _ :: _) _ _ _))
            have no : (hoB (sh g).2.1 i n = false ∨ hoB (sh h).2.1 j n = false) → K (some (aI (-12))) S := fun hb =>
              hK S (aI (-12)) ⟨_, rfl⟩ (by omega) (fun d' K' hd' hK' => n_copy_no (by omega) hN0 hm0 hcl hg hh hs0 hss hb (hK' S hTT))
            refine hP _ _ _ _ _ _ (c_holds (by omega) hN a3 ?_)
            cases hi : hoB (sh g).2.1 i n with
            | false =>
              have fin := no (Or.inl hi)
              repeat (first | (refine hP _ _ _ _ _ _ ?_; show P _ _ _ _ _ _) | (refine hP _ _ _ _ _ _ (And.intro (hN _ _ _ rfl) ?_); show P _ _ (aR _ _ :: _) _ _ _) | refine hP _ _ _ _ _ _ (And.intro (fun _ => ?_) (fun hc => absurd hc (by decide))) | refine hP _ _ _ _ _ _ (And.intro (fun hc => absurd hc (by decide)) (fun _ => ?_)))
              exact hP _ _ _ _ _ _ (fin)
            | true =>
              repeat (first | (refine hP _ _ _ _ _ _ ?_; show P _ _ _ _ _ _) | (refine hP _ _ _ _ _ _ (And.intro (hN _ _ _ rfl) ?_); show P _ _ (aR _ _ :: _) _ _ _) | refine hP _ _ _ _ _ _ (And.intro (fun _ => ?_) (fun hc => absurd hc (by decide))) | refine hP _ _ _ _ _ _ (And.intro (fun hc => absurd hc (by decide)) (fun _ => ?_)))
              refine hP _ _ _ _ _ _ (c_holds (by omega) hN b3 ?_)
              cases hj : hoB (sh h).2.1 j n with
              | false =>
                have fin := no (Or.inr hj)
                repeat (first | (refine hP _ _ _ _ _ _ ?_; show P _ _ _ _ _ _) | (refine hP _ _ _ _ _ _ (And.intro (hN _ _ _ rfl) ?_); show P _ _ (aR _ _ :: _) _ _ _) | refine hP _ _ _ _ _ _ (And.intro (fun _ => ?_) (fun hc => absurd hc (by decide))) | refine hP _ _ _ _ _ _ (And.intro (fun hc => absurd hc (by decide)) (fun _ => ?_)))
                exact hP _ _ _ _ _ _ (fin)
              | true =>
                obtain ⟨a, m, rfl, rfl, ham⟩ := hoB_ex a4 hi
                obtain ⟨b, m', rfl, em, hbm⟩ := hoB_ex b4 hj
                have em : m = m' := (nI_eq (by omega) (by omega)).mp em
                subst em
                repeat (first | (refine hP _ _ _ _ _ _ ?_; show P _ _ _ _ _ _) | (refine hP _ _ _ _ _ _ (And.intro (hN _ _ _ rfl) ?_); show P _ _ (aR _ _ :: _) _ _ _) | refine hP _ _ _ _ _ _ (And.intro (fun _ => ?_) (fun hc => absurd hc (by decide))) | refine hP _ _ _ _ _ _ (And.intro (fun hc => absurd hc (by decide)) (fun _ => ?_)))
                refine hP _ _ _ _ _ _ (Exists.intro a (Exists.intro b (Exists.intro m ⟨rfl, rfl, rfl, (by show _ ≤ 40; omega), (by show _ ≤ 40; omega), (by omega), ?_⟩)))
                repeat (first | (refine hP _ _ _ _ _ _ ?_; show P _ _ _ _ _ _) | (refine hP _ _ _ _ _ _ (And.intro (hN _ _ _ rfl) ?_); show P _ _ (aR _ _ :: _) _ _ _))
                have fin : ∀ S1 : St, Ag (fun j i _ => i = h ∧ j = 21) S S1 → SHc S1 (upS sh h (cpV (sh g) (sh h) a b m)) → K (some (aI (nI m))) S1 := by
                  intro S1 g1 hc1
                  have g1w : Ag wSH S S1 := g1.mono (fun j i k z => by simp only [wSH]; omega)
                  have hm1 : SHm S1 sh := hm0.up (fun j i k u w => g1.1 j i k (by omega))
                  exact hK S1 _ ⟨_, rfl⟩ (by rw [g1.2]; omega) (fun d' K' hd' hK' => n_copyx (by omega) (hN0.up g1) hm1 hcl hg hh hs0 hss ham hbm (fun S2 g2 hm2 => hK' S2 ⟨_, _, _, _, _, _, hT.sh2 g1w hc1 g2 hm2⟩))
                have g1 : Ag (fun j i _ => i = h ∧ j = 21) S ((fun x y k => if x = 21 ∧ y = h ∧ b ≤ k ∧ k < b + m then S.1 21 g (a + (k - b)) else S.1 x y k), S.2) := ⟨fun x y k z => if_neg (fun w => z ⟨w.2.1, w.1⟩), rfl⟩
                have hv : ∀ k, k < (sh h).2.1 → (if (21 : Nat) = 21 ∧ h = h ∧ b ≤ k ∧ k < b + m then S.1 21 g (a + (k - b)) else S.1 21 h k) = if b ≤ k ∧ k < b + m then (sh g).2.2 (a + (k - b)) else (sh h).2.2 k := by
                  intro k hk
                  by_cases c : b ≤ k ∧ k < b + m
                  · rw [if_pos ⟨rfl, rfl, c⟩, if_pos c]
                    exact a5 _ (by omega)
                  · rw [if_neg (fun z => c z.2.2), if_neg c]
                    exact b5 k hk
                have hc1 : SHc ((fun x y k => if x = 21 ∧ y = h ∧ b ≤ k ∧ k < b + m then S.1 21 g (a + (k - b)) else S.1 x y k), S.2) (upS sh h (cpV (sh g) (sh h) a b m)) := hc0.set g1 (fun j i k z e => by omega) ⟨by rw [g1.1 20 h 0 (by simp)]; exact b1, b2', by rw [g1.1 20 h 1 (by simp)]; exact b3, b4, hv⟩
                exact hP _ _ _ _ _ _ (fin _ g1 hc1)
          · obtain ⟨m1, m2, m3⟩ := (hm0 g hg).2 hs0
            obtain ⟨n1, n2, n3⟩ := (hm0 h hh).2 hs1
            have fin := hK S (aI (-13)) ⟨_, rfl⟩ (by omega) (fun d' K' hd' hK' => by
              have hK' := hK' S hTT
              refine Call.of (k := 199) hd' (fun e he P hP => ?_)
              repeat (first | (refine hP _ _ _ _ _ _ ?_; show P _ _ _ _ _ _) | (refine hP _ _ _ _ _ _ (And.intro (hN _ _ _ rfl) ?_); show P _ _ (aR _ _ :: _) _ _ _))
              refine hP _ _ _ _ _ _ (n_isSheet (by omega) ?_)
              rw [hx]
              repeat (first | (refine hP _ _ _ _ _ _ ?_; show P _ _ _ _ _ _) | (refine hP _ _ _ _ _ _ (And.intro (hN _ _ _ rfl) ?_); show P _ _ (aR _ _ :: _) _ _ _) | refine hP _ _ _ _ _ _ (And.intro (fun _ => ?_) (fun hc => absurd hc (by decide))) | refine hP _ _ _ _ _ _ (And.intro (fun hc => absurd hc (by decide)) (fun _ => ?_)))
              refine hP _ _ _ _ _ _ (n_isSheet (by omega) ?_)
              rw [hy]
              repeat (first | (refine hP _ _ _ _ _ _ ?_; show P _ _ _ _ _ _) | (refine hP _ _ _ _ _ _ (And.intro (hN _ _ _ rfl) ?_); show P _ _ (aR _ _ :: _) _ _ _) | refine hP _ _ _ _ _ _ (And.intro (fun _ => ?_) (fun hc => absurd hc (by decide))) | refine hP _ _ _ _ _ _ (And.intro (fun hc => absurd hc (by decide)) (fun _ => ?_)))
              refine hP _ _ _ _ _ _ (Exists.intro (g) (And.intro (And.intro (rfl) (show g < 4 from hg)) ?_))
              rw [ht1]
              repeat (first | (refine hP _ _ _ _ _ _ ?_; show P _ _ _ _ _ _) | (refine hP _ _ _ _ _ _ (And.intro (hN _ _ _ rfl) ?_); show P _ _ (aR _ _ :: _) _ _ _) | refine hP _ _ _ _ _ _ (And.intro (fun _ => ?_) (fun hc => absurd hc (by decide))) | refine hP _ _ _ _ _ _ (And.intro (fun hc => absurd hc (by decide)) (fun _ => ?_)))
              refine hP _ _ _ _ _ _ (Exists.intro (h) (And.intro (And.intro (rfl) (show h < 4 from hh)) ?_))
              rw [ht2]
              repeat (first | (refine hP _ _ _ _ _ _ ?_; show P _ _ _ _ _ _) | (refine hP _ _ _ _ _ _ (And.intro (hN _ _ _ rfl) ?_); show P _ _ (aR _ _ :: _) _ _ _) | refine hP _ _ _ _ _ _ (And.intro (fun _ => ?_) (fun hc => absurd hc (by decide))) | refine hP _ _ _ _ _ _ (And.intro (fun hc => absurd hc (by decide)) (fun _ => ?_)))
              refine hP _ _ _ _ _ _ (Exists.intro (g) (And.intro (And.intro (rfl) (show g < 4 from hg)) ?_))
              rw [m1]
              repeat (first | (refine hP _ _ _ _ _ _ ?_; show P _ _ _ _ _ _) | (refine hP _ _ _ _ _ _ (And.intro (hN _ _ _ rfl) ?_); show P _ _ (aR _ _ :: _) _ _ _))
              refine hP _ _ _ _ _ _ (Exists.intro (h) (And.intro (And.intro (rfl) (show h < 4 from hh)) ?_))
              rw [n1]
              refine hP _ _ _ _ _ _ (And.intro (fun hc => absurd hc (fun z => hss ((nI_p1 (by omega) (by omega) (by omega) (by omega)).mp z))) (fun _ => ?_))
              repeat (first | (refine hP _ _ _ _ _ _ ?_; show P _ _ _ _ _ _) | (refine hP _ _ _ _ _ _ (And.intro (hN _ _ _ rfl) ?_); show P _ _ (aR _ _ :: _) _ _ _))
              exact hP _ _ _ _ _ _ (hK'))
            refine hP _ _ _ _ _ _ (And.intro (fun hc => absurd ((nI_p1 (by omega) (by omega) (by omega) (by omega)).mp hc) hss) (fun _ => ?_))
            repeat (first | (refine hP _ _ _ _ _ _ ?_; show P _ _ _ _ _ _) | (refine hP _ _ _ _ _ _ (And.intro (hN _ _ _ rfl) ?_); show P _ _ (aR _ _ :: _) _ _ _))
            exact hP _ _ _ _ _ _ (fin)
