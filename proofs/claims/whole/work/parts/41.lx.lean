/-! The class's reader: tokens -/
def TP (S : St) (T : Tx) : Prop := S.1 7 0 1 = nI T.1 ∧ T.1 ≤ 160 ∧ ∀ k, k < T.1 → S.1 8 0 k = nI (T.2 k) ∧ T.2 k ≤ 255
def wLx : WW := fun j g k => j = 7 ∧ g = 0 ∧ 5 ≤ k ∧ k ≤ 8
theorem TP.up {S S' : St} {T : Tx} {W : WW} (h : TP S T) (h1 : Ag W S S') (hw : ∀ k, ¬ W 7 0 1 ∧ ¬ W 8 0 k) : TP S' T := by
  refine ⟨?_, h.2.1, fun k hk => ?_⟩
  · rw [h1.1 7 0 1 (hw 0).1]; exact h.1
  · rw [h1.1 8 0 k (hw k).2]; exact h.2.2 k hk
theorem TP.lx {S S' : St} {T : Tx} (h : TP S T) (h1 : Ag wLx S S') : TP S' T := h.up h1 (fun k => by simp [wLx])
theorem lf_lf (p : Nat → Bool) (T : Tx) (k : Nat) : lf p T (lf p T k) = lf p T k := by
  have key : ∀ m k, T.1 - k = m → lf p T (lf p T k) = lf p T k := by
    intro m
    induction m with
    | zero => intro k hk; rw [lf_n (k := k) (by omega), lf_n (k := k) (by omega)]
    | succ m ih =>
      intro k hk
      by_cases hc2 : k < T.1 ∧ p (T.2 k) = true
      · rw [lf_s hc2]
        exact ih (k + 1) (by omega)
      · rw [lf_n hc2, lf_n hc2]
  exact key _ k rfl
theorem lf_no {p : Nat → Bool} {T : Tx} {k : Nat} (h : lf p T k < T.1) : p (T.2 (lf p T k)) = false := by
  cases e : p (T.2 (lf p T k)) with
  | false => rfl
  | true =>
    have h1 := lf_lf p T k
    have h2 := lf_gt (p := p) (T := T) (k := lf p T k) ⟨h, e⟩
    omega
theorem q_isDigit {d c : Nat} {S : St} {K : KT} (hd : 1 ≤ d) (hc : c ≤ 255) (h : K (some (aI (b2 (isDg c)))) S) : Call d m_X1_isDigit [aI (nI c)] S K := by
  refine Call.of (k := 0) hd (fun e he P hP => ?_)
  have hN : True := trivial
  repeat (first | (refine hP _ _ _ _ _ _ ?_; show P _ _ _ _ _ _) | refine hP _ _ _ _ _ _ (And.intro (hN _ _ _ rfl) ?_))
  refine hP _ _ _ _ _ _ (And.intro (fun h1 => ?_) (fun h1 => ?_))
  · have : ¬ 48 ≤ c := fun z => absurd h1 (nI_nlt (a := c) (b := 48) z (by omega))
    have e : isDg c = false := by simp [isDg, this]
    rw [e] at h
    repeat (first | (refine hP _ _ _ _ _ _ ?_; show P _ _ _ _ _ _) | refine hP _ _ _ _ _ _ (And.intro (hN _ _ _ rfl) ?_))
    refine hP _ _ _ _ _ _ (And.intro (Or.inl rfl) h)
  · have g1 : 48 ≤ c := by
      apply Classical.byContradiction
      intro z
      exact h1 (nI_lt (a := c) (b := 48) (by omega) (by decide))
    repeat (first | (refine hP _ _ _ _ _ _ ?_; show P _ _ _ _ _ _) | refine hP _ _ _ _ _ _ (And.intro (hN _ _ _ rfl) ?_))
    refine hP _ _ _ _ _ _ (And.intro (fun h2 => ?_) (fun h2 => ?_))
    · have : ¬ c ≤ 57 := fun z => absurd h2 (nI_nlt (a := 57) (b := c) z (by decide))
      have e : isDg c = false := by simp [isDg, this]
      rw [e] at h
      repeat (first | (refine hP _ _ _ _ _ _ ?_; show P _ _ _ _ _ _) | refine hP _ _ _ _ _ _ (And.intro (hN _ _ _ rfl) ?_))
      refine hP _ _ _ _ _ _ (And.intro (Or.inl rfl) h)
    · have g2 : c ≤ 57 := by
        apply Classical.byContradiction
        intro z
        exact h2 (nI_lt (a := 57) (b := c) (by omega) (by omega))
      have e : isDg c = true := by simp [isDg, g1, g2]
      rw [e] at h
      repeat (first | (refine hP _ _ _ _ _ _ ?_; show P _ _ _ _ _ _) | refine hP _ _ _ _ _ _ (And.intro (hN _ _ _ rfl) ?_))
      refine hP _ _ _ _ _ _ (And.intro (Or.inr rfl) h)
theorem q_isLetter {d c : Nat} {S : St} {K : KT} (hd : 1 ≤ d) (hc : c ≤ 255) (h : K (some (aI (b2 (isLt c)))) S) : Call d m_X1_isLetter [aI (nI c)] S K := by
  refine Call.of (k := 0) hd (fun e he P hP => ?_)
  have hN : True := trivial
  repeat (first | (refine hP _ _ _ _ _ _ ?_; show P _ _ _ _ _ _) | refine hP _ _ _ _ _ _ (And.intro (hN _ _ _ rfl) ?_))
  refine hP _ _ _ _ _ _ (And.intro (fun h1 => ?_) (fun h1 => ?_))
  · have : ¬ 97 ≤ c := fun z => absurd h1 (nI_nlt (a := c) (b := 97) z (by omega))
    have e : isLt c = false := by simp [isLt, this]
    rw [e] at h
    repeat (first | (refine hP _ _ _ _ _ _ ?_; show P _ _ _ _ _ _) | refine hP _ _ _ _ _ _ (And.intro (hN _ _ _ rfl) ?_))
    refine hP _ _ _ _ _ _ (And.intro (Or.inl rfl) h)
  · have g1 : 97 ≤ c := by
      apply Classical.byContradiction
      intro z
      exact h1 (nI_lt (a := c) (b := 97) (by omega) (by decide))
    repeat (first | (refine hP _ _ _ _ _ _ ?_; show P _ _ _ _ _ _) | refine hP _ _ _ _ _ _ (And.intro (hN _ _ _ rfl) ?_))
    refine hP _ _ _ _ _ _ (And.intro (fun h2 => ?_) (fun h2 => ?_))
    · have : ¬ c ≤ 122 := fun z => absurd h2 (nI_nlt (a := 122) (b := c) z (by decide))
      have e : isLt c = false := by simp [isLt, this]
      rw [e] at h
      repeat (first | (refine hP _ _ _ _ _ _ ?_; show P _ _ _ _ _ _) | refine hP _ _ _ _ _ _ (And.intro (hN _ _ _ rfl) ?_))
      refine hP _ _ _ _ _ _ (And.intro (Or.inl rfl) h)
    · have g2 : c ≤ 122 := by
        apply Classical.byContradiction
        intro z
        exact h2 (nI_lt (a := 122) (b := c) (by omega) (by omega))
      have e : isLt c = true := by simp [isLt, g1, g2]
      rw [e] at h
      repeat (first | (refine hP _ _ _ _ _ _ ?_; show P _ _ _ _ _ _) | refine hP _ _ _ _ _ _ (And.intro (hN _ _ _ rfl) ?_))
      refine hP _ _ _ _ _ _ (And.intro (Or.inr rfl) h)
theorem al_false {f : Nat → Bool} {n k : Nat} (hk : k < n) (h : f k = false) : al f n = false := by
  cases e : al f n with
  | false => rfl
  | true => rw [al_iff.mp e k hk] at h; cases h
theorem q_spells {d g s e' : Nat} {S : St} {K : KT} {T : Tx} {w : List Nat} (hd : 1 ≤ d) (hN : NN S) (hT : TP S T) (hg : strG g = w.map nI) (hw : w.length ≤ 10) (hwb : ∀ k, k < w.length → w.getD k 0 ≤ 255) (hs : s ≤ e') (he' : e' ≤ T.1) (h5 : S.1 7 0 5 = nI e') (h8 : S.1 7 0 8 = nI s) (h : K (some (aI (b2 (wdE T s (e' - s) w)))) S) : Call d m_X1_spells [aR 7 0, aR 70 g] S K := by
  refine Call.of (k := 0) hd (fun e he P hP => ?_)
  obtain ⟨t1, t2, t3⟩ := hT
  have hlen : (strG g).length = w.length := by rw [hg, List.length_map]
  have hget : ∀ k, k < w.length → (strG g).getD k 0 = nI (w.getD k 0) := by
    intro k hk
    rw [hg]
    simp [List.getD, hk]
  have loop : (e' - s = w.length) → ∀ k, k ≤ w.length → al (fun i => decide (T.2 (s + i) = w.getD i 0)) k = true → P 25 [some (aR 7 0), some (aR 70 g), some (aI (nI k))] [aI (nI (strG g).length), aI (nI k)] S 0 0 := by
    intro hlen2
    refine dn ?_ ?_
    · intro ha
      have ew : wdE T s (e' - s) w = true := by simp only [wdE, decide_eq_true hlen2, ha]; rfl
      rw [ew] at h
      rw [hlen]
      refine hP _ _ _ _ _ _ (And.intro (fun _ => ?_) (fun hc => absurd (nI_le (Nat.le_refl _) (by omega)) hc))
      repeat (first | (refine hP _ _ _ _ _ _ ?_; show P _ _ _ _ _ _) | (refine hP _ _ _ _ _ _ (And.intro (hN _ _ _ rfl) ?_); show P _ _ (aR _ _ :: _) _ _ _))
      refine hP _ _ _ _ _ _ (And.intro (Or.inr rfl) h)
    · intro k hk ih ha
      obtain ⟨b1, b2'⟩ := t3 (s + k) (by omega)
      have hwk := hwb k hk
      rw [hlen]
      refine hP _ _ _ _ _ _ (And.intro (fun hc => absurd hc (nI_ge hk (by omega))) (fun _ => ?_))
      repeat (first | (refine hP _ _ _ _ _ _ ?_; show P _ _ _ _ _ _) | (refine hP _ _ _ _ _ _ (And.intro (hN _ _ _ rfl) ?_); show P _ _ (aR _ _ :: _) _ _ _))
      rw [h8]
      refine hP _ _ _ _ _ _ (Exists.intro (s + k) (And.intro (And.intro (nI_add s k) (by show _ < 160; omega)) ?_))
      rw [b1]
      repeat (first | (refine hP _ _ _ _ _ _ ?_; show P _ _ _ _ _ _) | (refine hP _ _ _ _ _ _ (And.intro (hN _ _ _ rfl) ?_); show P _ _ (aR _ _ :: _) _ _ _))
      refine hP _ _ _ _ _ _ (Exists.intro k (And.intro rfl (And.intro (by show k < (strG g).length; omega) ?_)))
      rw [hget k hk]
      refine hP _ _ _ _ _ _ (And.intro (fun hc => ?_) (fun hc => ?_))
      · have hc' : T.2 (s + k) = w.getD k 0 := (nI_eq (by omega) (by omega)).mp hc
        have ih := ih (by simp only [al, ha, decide_eq_true hc']; rfl)
        rw [nI_succ] at ih
        repeat (first | (refine hP _ _ _ _ _ _ ?_; show P _ _ _ _ _ _) | (refine hP _ _ _ _ _ _ (And.intro (hN _ _ _ rfl) ?_); show P _ _ (aR _ _ :: _) _ _ _))
        exact ih
      · have hc' : ¬ T.2 (s + k) = w.getD k 0 := fun z => hc (by rw [z])
        have ew : wdE T s (e' - s) w = false := by
          unfold wdE
          rw [al_false (k := k) hk (decide_eq_false hc'), Bool.and_false]
        rw [ew] at h
        repeat (first | (refine hP _ _ _ _ _ _ ?_; show P _ _ _ _ _ _) | (refine hP _ _ _ _ _ _ (And.intro (hN _ _ _ rfl) ?_); show P _ _ (aR _ _ :: _) _ _ _))
        refine hP _ _ _ _ _ _ (And.intro (Or.inl rfl) h)
  repeat (first | (refine hP _ _ _ _ _ _ ?_; show P _ _ _ _ _ _) | (refine hP _ _ _ _ _ _ (And.intro (hN _ _ _ rfl) ?_); show P _ _ (aR _ _ :: _) _ _ _))
  rw [h5, h8, pk_sub hs, hlen]
  refine hP _ _ _ _ _ _ (And.intro (fun hc => ?_) (fun hc => ?_))
  · have hc' : e' - s = w.length := (nI_eq (by omega) (by omega)).mp hc
    repeat (first | (refine hP _ _ _ _ _ _ ?_; show P _ _ _ _ _ _) | (refine hP _ _ _ _ _ _ (And.intro (hN _ _ _ rfl) ?_); show P _ _ (aR _ _ :: _) _ _ _))
    exact loop hc' 0 (by omega) rfl
  · have hc' : ¬ e' - s = w.length := fun z => hc (by rw [z])
    have ew : wdE T s (e' - s) w = false := by simp only [wdE, decide_eq_false hc']; rfl
    rw [ew] at h
    repeat (first | (refine hP _ _ _ _ _ _ ?_; show P _ _ _ _ _ _) | (refine hP _ _ _ _ _ _ (And.intro (hN _ _ _ rfl) ?_); show P _ _ (aR _ _ :: _) _ _ _))
    refine hP _ _ _ _ _ _ (And.intro (Or.inl rfl) h)
theorem Ag.lx {S : St} {k : Nat} {v : Int32} (h1 : 5 ≤ k) (h2 : k ≤ 8) : Ag wLx S (ivSet S 7 0 k v) := Ag.iv ⟨rfl, rfl, h1, h2⟩
theorem q_nextNumber {d s : Nat} {S : St} {K : KT} {T : Tx} (hd : 2 ≤ d) (hN : NN S) (hT : TP S T) (hs : s ≤ T.1) (h5 : S.1 7 0 5 = nI s) (h8 : S.1 7 0 8 = nI s) (h : ∀ S', Ag wLx S S' → S'.1 7 0 5 = nI (lf isDg T s) → S'.1 7 0 6 = nI (if 4 < lf isDg T s - s then 1 else 2) → S'.1 7 0 7 = nI (nvN T s (lf isDg T s - s)) → S'.1 7 0 8 = nI s → K none S') : Call d m_X1_nextNumber [aR 7 0] S K := by
  refine Call.of (k := 1) hd (fun e he P hP => ?_)
  have h160 := hT.2.1
  have hle := lf_le isDg T hs
  have hge := lf_ge isDg T s
  have stop : ∀ S1, Ag wLx S S1 → S1.1 7 0 5 = nI (lf isDg T s) → S1.1 7 0 7 = nI (nvN T s (lf isDg T s - s)) → S1.1 7 0 8 = nI s → P 68 [some (aR 7 0)] [] S1 0 0 := by
    intro S1 g1 a5 a7 a8
    have hN := hN.up g1
    repeat (first | (refine hP _ _ _ _ _ _ ?_; show P _ _ _ _ _ _) | (refine hP _ _ _ _ _ _ (And.intro (hN _ _ _ rfl) ?_); show P _ _ (aR _ _ :: _) _ _ _))
    rw [a5, a8, pk_sub hge]
    refine hP _ _ _ _ _ _ (gtI (x := lf isDg T s - s) (y := 4) (by omega) (by omega) (fun hc => ?_) (fun hc => ?_))
    · repeat (first | (refine hP _ _ _ _ _ _ ?_; show P _ _ _ _ _ _) | (refine hP _ _ _ _ _ _ (And.intro (hN _ _ _ rfl) ?_); show P _ _ (aR _ _ :: _) _ _ _))
      exact hP _ _ _ _ _ _ (h _ (g1.tr (Ag.lx (by omega) (by omega))) (by rw [iv_ne (by omega)]; exact a5) (by rw [if_neg hc]; exact iv_at) (by rw [iv_ne (by omega)]; exact a7) (by rw [iv_ne (by omega)]; exact a8))
    · repeat (first | (refine hP _ _ _ _ _ _ ?_; show P _ _ _ _ _ _) | (refine hP _ _ _ _ _ _ (And.intro (hN _ _ _ rfl) ?_); show P _ _ (aR _ _ :: _) _ _ _))
      exact hP _ _ _ _ _ _ (h _ (g1.tr (Ag.lx (by omega) (by omega))) (by rw [iv_ne (by omega)]; exact a5) (by rw [if_pos hc]; exact iv_at) (by rw [iv_ne (by omega)]; exact a7) (by rw [iv_ne (by omega)]; exact a8))
  have loop : ∀ p, p ≤ lf isDg T s → (s ≤ p → ∀ S1, Ag wLx S S1 → S1.1 7 0 5 = nI p → S1.1 7 0 7 = nI (nvN T s (p - s)) → S1.1 7 0 8 = nI s → P 13 [some (aR 7 0)] [aI (S1.1 7 0 1), aI (S1.1 7 0 5)] S1 0 0) := by
    refine dn ?_ ?_
    · intro _ S1 g1 a5 a7 a8
      have hN := hN.up g1
      obtain ⟨t1, t2, t3⟩ := hT.lx g1
      rw [t1, a5]
      refine hP _ _ _ _ _ _ (geI (by omega) (by omega) (fun hc => ?_) (fun hc => ?_))
      · exact stop S1 g1 a5 a7 a8
      · have hlt : lf isDg T s < T.1 := by omega
        have hno : isDg (T.2 (lf isDg T s)) = false := by
          cases e : isDg (T.2 (lf isDg T s)) with
          | false => rfl
          | true =>
            exfalso
            have h1 := lf_lf isDg T s
            have h2 := lf_gt (p := isDg) (T := T) (k := lf isDg T s) ⟨hlt, e⟩
            omega
        repeat (first | (refine hP _ _ _ _ _ _ ?_; show P _ _ _ _ _ _) | (refine hP _ _ _ _ _ _ (And.intro (hN _ _ _ rfl) ?_); show P _ _ (aR _ _ :: _) _ _ _))
        rw [a5]
        refine hP _ _ _ _ _ _ (Exists.intro (lf isDg T s) (And.intro (And.intro (rfl) (by show _ < 160; omega)) ?_))
        rw [(t3 _ hlt).1]
        refine hP _ _ _ _ _ _ (q_isDigit (by omega) (t3 _ hlt).2 ?_)
        rw [hno]
        refine hP _ _ _ _ _ _ (And.intro (fun _ => ?_) (fun hc => absurd rfl hc))
        exact stop S1 g1 a5 a7 a8
    · intro p hp ih hsp S1 g1 a5 a7 a8
      have hN := hN.up g1
      obtain ⟨t1, t2, t3⟩ := hT.lx g1
      have hpt : p < T.1 := by omega
      have hyes : isDg (T.2 p) = true := lf_in _ s rfl p hsp hp
      have h48 : 48 ≤ T.2 p ∧ T.2 p ≤ 57 := by simpa [isDg] using hyes
      rw [t1, a5]
      refine hP _ _ _ _ _ _ (And.intro (fun hc => absurd hc (nI_ge hpt (by omega))) (fun _ => ?_))
      repeat (first | (refine hP _ _ _ _ _ _ ?_; show P _ _ _ _ _ _) | (refine hP _ _ _ _ _ _ (And.intro (hN _ _ _ rfl) ?_); show P _ _ (aR _ _ :: _) _ _ _))
      rw [a5]
      refine hP _ _ _ _ _ _ (Exists.intro (p) (And.intro (And.intro (rfl) (by show _ < 160; omega)) ?_))
      rw [(t3 _ hpt).1]
      refine hP _ _ _ _ _ _ (q_isDigit (by omega) (t3 _ hpt).2 ?_)
      rw [hyes]
      refine hP _ _ _ _ _ _ (And.intro (fun hc => absurd hc (by decide)) (fun _ => ?_))
      repeat (first | (refine hP _ _ _ _ _ _ ?_; show P _ _ _ _ _ _) | (refine hP _ _ _ _ _ _ (And.intro (hN _ _ _ rfl) ?_); show P _ _ (aR _ _ :: _) _ _ _))
      rw [a5]
      refine hP _ _ _ _ _ _ (Exists.intro (p) (And.intro (And.intro (rfl) (by show _ < 160; omega)) ?_))
      rw [(t3 _ hpt).1]
      repeat (first | (refine hP _ _ _ _ _ _ ?_; show P _ _ _ _ _ _) | (refine hP _ _ _ _ _ _ (And.intro (hN _ _ _ rfl) ?_); show P _ _ (aR _ _ :: _) _ _ _))
      have e7 : S1.1 7 0 7 * 10 + nI (T.2 p) - 48 = nI (nvN T s (p + 1 - s)) := by
        rw [a7, show (10 : Int32) = nI 10 from rfl, show (48 : Int32) = nI 48 from rfl, pk_mul, nI_add, pk_sub (by omega), show p + 1 - s = (p - s) + 1 by omega]
        simp only [nvN]
        rw [show s + (p - s) = p by omega]
        congr 1
        omega
      rw [e7]
      have e5 : (ivSet S1 7 0 7 (nI (nvN T s (p + 1 - s)))).1 7 0 5 + 1 = nI (p + 1) := by rw [iv_ne (by omega), a5, nI_1]
      show P _ _ _ (ivSet (ivSet S1 7 0 7 (nI (nvN T s (p + 1 - s)))) 7 0 5 ((ivSet S1 7 0 7 (nI (nvN T s (p + 1 - s)))).1 7 0 5 + 1)) _ _
      rw [e5]
      exact ih (by omega) _ ((g1.tr (Ag.lx (by omega) (by omega))).tr (Ag.lx (by omega) (by omega))) iv_at (by rw [iv_ne (by omega)]; exact iv_at) (by rw [iv_ne (by omega), iv_ne (by omega)]; exact a8)
  repeat (first | (refine hP _ _ _ _ _ _ ?_; show P _ _ _ _ _ _) | (refine hP _ _ _ _ _ _ (And.intro (hN _ _ _ rfl) ?_); show P _ _ (aR _ _ :: _) _ _ _))
  refine loop s hge (Nat.le_refl _) (ivSet S 7 0 7 0) (Ag.lx (by omega) (by omega)) (by rw [iv_ne (by omega)]; exact h5) ?_ (by rw [iv_ne (by omega)]; exact h8)
  rw [Nat.sub_self]
  exact iv_at
