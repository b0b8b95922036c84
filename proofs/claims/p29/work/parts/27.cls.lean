/-! the class, out of claim whole -/
abbrev Shs : Type := Nat → Nat × Nat × (Nat → Int32)
def PV (F : Fl) (I : Option Fl) (nT : Nat) : Prop := WF nT F ∧ F.rd ≤ 999 ∧ F.ni ≤ 999 ∧ ∀ G, I = some G → WF nT G ∧ G.rd ≤ 999 ∧ G.ni ≤ 999 ∧ G.n ≤ F.n ∧ ∀ a, a < G.n → G.ki a = F.ki a
def grN (k : Nat) : Nat := [999, 999, 9, 99, 99].getD k 0
def unI (k : Nat) : Int32 := [-1, 0, 0, 1, 2, 0].getD k 0
/-- the static rows -/
def STA (S : St) : Prop := (∀ k, k < 10 → S.1 61 0 k = nI (prA k) ∧ S.1 62 0 k = nI (prB k)) ∧ (∀ k, k < 26 → S.1 63 0 k = nI (setN k)) ∧ (∀ k, k < 5 → S.1 64 0 k = nI (grN k)) ∧ ∀ k, k < 6 → S.1 65 0 k = unI k
def IMc (S : St) (I : Option Fl) : Prop := match I with
  | none => S.1 0 0 6 = 0
  | some G => S.1 0 0 6 = 1 ∧ HF S 1 G ∧ zB S 1 G.n
def SHc (S : St) (sh : Shs) : Prop := ∀ g, g < 4 → S.1 20 g 0 = nI (sh g).1 - 1 ∧ (sh g).1 ≤ 3 ∧ S.1 20 g 1 = nI (sh g).2.1 ∧ (sh g).2.1 ≤ 40 ∧ ∀ k, k < (sh g).2.1 → S.1 21 g k = (sh g).2.2 k
def IMm (S : St) (I : Option Fl) : Prop := match I with
  | none => S.1 40 0 37 = -1
  | some G => S.1 40 0 37 = nI G.n ∧ S.1 40 0 38 = nI G.rd ∧ S.1 40 0 39 = nI G.ni ∧ S.1 40 0 40 = nI G.ru ∧ (∀ a, a < G.n → S.1 54 0 (2 * a) = nI (G.nu a) ∧ S.1 54 0 (2 * a + 1) = nI (G.dn a)) ∧ ∀ a b, a < G.n → b < G.n → S.1 53 0 (5 * a + b) = nI (G.ow a b)
def SHm (S : St) (sh : Shs) : Prop := ∀ g, g < 4 → (S.1 55 0 g = if (sh g).1 = 0 then 0 else 1) ∧ ((sh g).1 ≠ 0 → S.1 56 0 g = nI (sh g).1 - 1 ∧ S.1 57 0 g = nI (sh g).2.1 ∧ ∀ k, k < (sh g).2.1 → S.1 58 0 (40 * g + k) = (sh g).2.2 k)
def TPm (S : St) (T : Tx) : Prop := S.1 40 0 6 = nI T.1 ∧ ∀ k, k < T.1 → S.1 43 0 k = nI (T.2 k)
theorem STA.up {S S' : St} {W : WW} (h : STA S) (h1 : Ag W S S') (hw : ∀ j g k, W j g k → ¬ 60 ≤ j) : STA S' := by
  refine ⟨fun k hk => ?_, fun k hk => ?_, fun k hk => ?_, fun k hk => ?_⟩
  · rw [h1.1 61 0 k (fun z => hw _ _ _ z (by omega)), h1.1 62 0 k (fun z => hw _ _ _ z (by omega))]
    exact h.1 k hk
  · rw [h1.1 63 0 k (fun z => hw _ _ _ z (by omega))]
    exact h.2.1 k hk
  · rw [h1.1 64 0 k (fun z => hw _ _ _ z (by omega))]
    exact h.2.2.1 k hk
  · rw [h1.1 65 0 k (fun z => hw _ _ _ z (by omega))]
    exact h.2.2.2 k hk
theorem zB.up {S S' : St} {W : WW} {f n : Nat} (h : zB S f n) (h1 : Ag W S S') (hw : ∀ j k, W j f k → ¬ (j = 13 ∨ j = 14)) : zB S' f n := by
  refine ⟨fun a ha h5 => ?_, fun a b ha hb hn => ?_⟩
  · rw [h1.1 13 f a (fun z => hw _ _ z (by omega))]
    exact h.1 a ha h5
  · rw [h1.1 14 f _ (fun z => hw _ _ z (by omega))]
    exact h.2 a b ha hb hn
theorem IMc.up {S S' : St} {W : WW} {I : Option Fl} (h : IMc S I) (h1 : Ag W S S') (hw : ∀ j g k, W j g k → ¬ (j = 0 ∧ k = 6) ∧ ¬ (g = 1 ∧ (11 ≤ j ∧ j ≤ 14 ∨ j = 10 ∧ 1 ≤ k ∧ k ≤ 4))) : IMc S' I := by
  cases I with
  | none =>
    show S'.1 0 0 6 = 0
    rw [h1.1 0 0 6 (fun z => (hw _ _ _ z).1 ⟨rfl, rfl⟩)]
    exact h
  | some G =>
    refine ⟨?_, h.2.1.up h1 (fun j k z => ?_), h.2.2.up h1 (fun j k z => ?_)⟩
    · rw [h1.1 0 0 6 (fun z => (hw _ _ _ z).1 ⟨rfl, rfl⟩)]
      exact h.1
    · have := (hw _ _ _ z).2
      omega
    · have := (hw _ _ _ z).2
      omega
theorem SHc.up {S S' : St} {W : WW} {sh : Shs} (h : SHc S sh) (h1 : Ag W S S') (hw : ∀ j g k, W j g k → ¬ (j = 20 ∨ j = 21)) : SHc S' sh := by
  intro g hg
  obtain ⟨a1, a2, a3, a4, a5⟩ := h g hg
  refine ⟨?_, a2, ?_, a4, fun k hk => ?_⟩
  · rw [h1.1 20 g 0 (fun z => hw _ _ _ z (by omega))]; exact a1
  · rw [h1.1 20 g 1 (fun z => hw _ _ _ z (by omega))]; exact a3
  · rw [h1.1 21 g k (fun z => hw _ _ _ z (by omega))]; exact a5 k hk
/-- what a class's method may change that leaves the state but floor 0 -/
def wFl : WW := fun j g k => j = 4 ∨ j = 5 ∨ j = 19 ∨ (10 ≤ j ∧ j ≤ 16 ∧ (g = 0 ∨ 2 ≤ g))
def wTH : WW := fun j g k => j = 4 ∨ j = 5 ∨ j = 19 ∨ (10 ≤ j ∧ j ≤ 16 ∧ (2 ≤ g ∨ (g = 0 ∧ (15 ≤ j ∨ (j = 10 ∧ 9 ≤ k)))))
theorem IMm.up {S S' : St} {I : Option Fl} (h : IMm S I) (h1 : ∀ j g k, j = 40 ∧ 37 ≤ k ∨ j = 53 ∨ j = 54 → S'.1 j g k = S.1 j g k) : IMm S' I := by
  cases I with
  | none =>
    show S'.1 40 0 37 = -1
    rw [h1 40 0 37 (by omega)]
    exact h
  | some G =>
    obtain ⟨a1, a2, a3, a4, a5, a6⟩ := h
    refine ⟨?_, ?_, ?_, ?_, fun a ha => ⟨?_, ?_⟩, fun a b ha hb => ?_⟩
    · rw [h1 40 0 37 (by omega)]; exact a1
    · rw [h1 40 0 38 (by omega)]; exact a2
    · rw [h1 40 0 39 (by omega)]; exact a3
    · rw [h1 40 0 40 (by omega)]; exact a4
    · rw [h1 54 0 _ (by omega)]; exact (a5 a ha).1
    · rw [h1 54 0 _ (by omega)]; exact (a5 a ha).2
    · rw [h1 53 0 _ (by omega)]; exact a6 a b ha hb
theorem SHm.up {S S' : St} {sh : Shs} (h : SHm S sh) (h1 : ∀ j g k, 55 ≤ j → j ≤ 58 → S'.1 j g k = S.1 j g k) : SHm S' sh := by
  intro g hg
  obtain ⟨a1, a2⟩ := h g hg
  refine ⟨by rw [h1 55 0 g (by omega) (by omega)]; exact a1, fun hn => ?_⟩
  obtain ⟨b1, b2', b3⟩ := a2 hn
  refine ⟨?_, ?_, fun k hk => ?_⟩
  · rw [h1 56 0 g (by omega) (by omega)]; exact b1
  · rw [h1 57 0 g (by omega) (by omega)]; exact b2'
  · rw [h1 58 0 _ (by omega) (by omega)]; exact b3 k hk
theorem TPm.up {S S' : St} {T : Tx} (h : TPm S T) (h1 : ∀ j g k, j = 40 ∧ k = 6 ∨ j = 43 → S'.1 j g k = S.1 j g k) : TPm S' T :=
  ⟨by rw [h1 40 0 6 (by omega)]; exact h.1, fun k hk => by rw [h1 43 0 k (by omega)]; exact h.2 k hk⟩
def isT (n : Nat) (x y : Int32) : Bool := isD n x && (isD n y && decide (¬ x = y))
theorem isD_of {n : Nat} {x : Int32} (h : isD n x = true) : ∃ a, a < n ∧ a < 2 ^ 31 ∧ x = nI a := by
  simp only [isD, decide_eq_true_eq] at h
  obtain ⟨h0, h1⟩ := h
  obtain ⟨a, ha, rfl⟩ := nI_of (Int32.not_lt.mpr h0)
  refine ⟨a, ?_, ha, rfl⟩
  rcases Nat.lt_or_ge a n with z | z
  · exact z
  · by_cases hn : n < 2 ^ 31
    · exact absurd h1 (nI_nlt z ha)
    · omega
theorem isT_of {n : Nat} {x y : Int32} (h : isT n x y = true) : ∃ a b, a < n ∧ b < n ∧ ¬ a = b ∧ x = nI a ∧ y = nI b := by
  simp only [isT, Bool.and_eq_true, decide_eq_true_eq] at h
  obtain ⟨a, ha, -, rfl⟩ := isD_of h.1
  obtain ⟨b, hb, -, rfl⟩ := isD_of h.2.1
  exact ⟨a, b, ha, hb, fun z => h.2.2 (by rw [z]), rfl, rfl⟩
theorem isT_n {n a b : Nat} (hn : n ≤ 5) (ha : a < 2 ^ 31) (hb : b < 2 ^ 31) : isT n (nI a) (nI b) = (decide (a < n) && (decide (b < n) && decide (¬ a = b))) := by
  unfold isT
  rw [isD_n ha hn, isD_n hb hn]
  have : (nI a = nI b) ↔ a = b := nI_eq ha hb
  simp only [this]
theorem c_isDancer {d n : Nat} {S : St} {K : KT} {x : Int32} (hd : 1 ≤ d) (hN : NN S) (h1 : S.1 10 0 1 = nI n) (hn : n ≤ 5) (h : K (some (aI (b2 (isD n x)))) S) : Call d m_X5_isDancer [aR 0 0, aI x] S K := by
  refine Call.of (k := 0) hd (fun e he P hP => ?_)
  repeat (first | (refine hP _ _ _ _ _ _ ?_; show P _ _ _ _ _ _) | (refine hP _ _ _ _ _ _ (And.intro (hN _ _ _ rfl) ?_); show P _ _ (aR _ _ :: _) _ _ _))
  refine hP _ _ _ _ _ _ (And.intro (fun hc => ?_) (fun hc => ?_))
  · have e : isD n x = false := decide_eq_false (fun z => absurd hc (Int32.not_lt.mpr z.1))
    rw [e] at h
    repeat (first | (refine hP _ _ _ _ _ _ ?_; show P _ _ _ _ _ _) | (refine hP _ _ _ _ _ _ (And.intro (hN _ _ _ rfl) ?_); show P _ _ (aR _ _ :: _) _ _ _))
    refine hP _ _ _ _ _ _ (And.intro (Or.inl rfl) h)
  · repeat (first | (refine hP _ _ _ _ _ _ ?_; show P _ _ _ _ _ _) | (refine hP _ _ _ _ _ _ (And.intro (hN _ _ _ rfl) ?_); show P _ _ (aR _ _ :: _) _ _ _))
    rw [h1]
    refine hP _ _ _ _ _ _ (And.intro (fun hc2 => ?_) (fun hc2 => ?_))
    · have e : isD n x = false := decide_eq_false (fun z => absurd z.2 (Int32.not_lt.mpr hc2))
      rw [e] at h
      repeat (first | (refine hP _ _ _ _ _ _ ?_; show P _ _ _ _ _ _) | (refine hP _ _ _ _ _ _ (And.intro (hN _ _ _ rfl) ?_); show P _ _ (aR _ _ :: _) _ _ _))
      refine hP _ _ _ _ _ _ (And.intro (Or.inl rfl) h)
    · have e : isD n x = true := decide_eq_true ⟨Int32.not_lt.mp hc, Int32.not_le.mp hc2⟩
      rw [e] at h
      repeat (first | (refine hP _ _ _ _ _ _ ?_; show P _ _ _ _ _ _) | (refine hP _ _ _ _ _ _ (And.intro (hN _ _ _ rfl) ?_); show P _ _ (aR _ _ :: _) _ _ _))
      refine hP _ _ _ _ _ _ (And.intro (Or.inr rfl) h)
theorem c_isTwo {d n : Nat} {S : St} {K : KT} {x y : Int32} (hd : 2 ≤ d) (hN : NN S) (h1 : S.1 10 0 1 = nI n) (hn : n ≤ 5) (h : K (some (aI (b2 (isT n x y)))) S) : Call d m_X5_isTwo [aR 0 0, aI x, aI y] S K := by
  refine Call.of (k := 1) hd (fun e he P hP => ?_)
  unfold isT at h
  repeat (first | (refine hP _ _ _ _ _ _ ?_; show P _ _ _ _ _ _) | (refine hP _ _ _ _ _ _ (And.intro (hN _ _ _ rfl) ?_); show P _ _ (aR _ _ :: _) _ _ _))
  refine hP _ _ _ _ _ _ (c_isDancer (by omega) hN h1 hn ?_)
  repeat (first | (refine hP _ _ _ _ _ _ ?_; show P _ _ _ _ _ _) | (refine hP _ _ _ _ _ _ (And.intro (hN _ _ _ rfl) ?_); show P _ _ (aR _ _ :: _) _ _ _))
  refine hP _ _ _ _ _ _ (bn2 (fun e1 => ?_) (fun e1 => ?_))
  · rw [e1, Bool.false_and] at h
    repeat (first | (refine hP _ _ _ _ _ _ ?_; show P _ _ _ _ _ _) | (refine hP _ _ _ _ _ _ (And.intro (hN _ _ _ rfl) ?_); show P _ _ (aR _ _ :: _) _ _ _))
    refine hP _ _ _ _ _ _ (And.intro (Or.inl rfl) h)
  · rw [e1, Bool.true_and] at h
    repeat (first | (refine hP _ _ _ _ _ _ ?_; show P _ _ _ _ _ _) | (refine hP _ _ _ _ _ _ (And.intro (hN _ _ _ rfl) ?_); show P _ _ (aR _ _ :: _) _ _ _))
    refine hP _ _ _ _ _ _ (c_isDancer (by omega) hN h1 hn ?_)
    repeat (first | (refine hP _ _ _ _ _ _ ?_; show P _ _ _ _ _ _) | (refine hP _ _ _ _ _ _ (And.intro (hN _ _ _ rfl) ?_); show P _ _ (aR _ _ :: _) _ _ _))
    refine hP _ _ _ _ _ _ (bn2 (fun e2 => ?_) (fun e2 => ?_))
    · rw [e2, Bool.false_and] at h
      repeat (first | (refine hP _ _ _ _ _ _ ?_; show P _ _ _ _ _ _) | (refine hP _ _ _ _ _ _ (And.intro (hN _ _ _ rfl) ?_); show P _ _ (aR _ _ :: _) _ _ _))
      refine hP _ _ _ _ _ _ (And.intro (Or.inl rfl) h)
    · rw [e2, Bool.true_and] at h
      repeat (first | (refine hP _ _ _ _ _ _ ?_; show P _ _ _ _ _ _) | (refine hP _ _ _ _ _ _ (And.intro (hN _ _ _ rfl) ?_); show P _ _ (aR _ _ :: _) _ _ _))
      refine hP _ _ _ _ _ _ (And.intro (fun hc => ?_) (fun hc => ?_))
      · rw [decide_eq_false (fun z => z hc)] at h
        repeat (first | (refine hP _ _ _ _ _ _ ?_; show P _ _ _ _ _ _) | (refine hP _ _ _ _ _ _ (And.intro (hN _ _ _ rfl) ?_); show P _ _ (aR _ _ :: _) _ _ _))
        refine hP _ _ _ _ _ _ (And.intro (Or.inl rfl) h)
      · rw [decide_eq_true hc] at h
        repeat (first | (refine hP _ _ _ _ _ _ ?_; show P _ _ _ _ _ _) | (refine hP _ _ _ _ _ _ (And.intro (hN _ _ _ rfl) ?_); show P _ _ (aR _ _ :: _) _ _ _))
        refine hP _ _ _ _ _ _ (And.intro (Or.inr rfl) h)
/-- who owes, to whom: named by 10 times the one and the other -/
def dpx (n : Nat) (x : Int32) : Option (Nat × Nat) := if 0 ≤ x ∧ x.toNatClampNeg / 10 < n ∧ x.toNatClampNeg % 10 < n ∧ ¬ x.toNatClampNeg / 10 = x.toNatClampNeg % 10 then some (x.toNatClampNeg / 10, x.toNatClampNeg % 10) else none
theorem dpx_lt {n : Nat} {x : Int32} {q : Nat × Nat} (h : dpx n x = some q) : q.1 < n ∧ q.2 < n ∧ ¬ q.1 = q.2 := by
  unfold dpx at h
  split at h
  · rename_i hc
    simp only [Option.some.injEq] at h
    rw [← h]
    exact hc.2
  · cases h
theorem dpx_n {n m : Nat} (hm : m < 2 ^ 31) : dpx n (nI m) = if m / 10 < n ∧ m % 10 < n ∧ ¬ m / 10 = m % 10 then some (m / 10, m % 10) else none := by
  unfold dpx
  rw [nI_clamp hm]
  have h0 : 0 ≤ nI m := nI_pos' hm
  simp only [h0, true_and]
theorem dpx_neg {n : Nat} {x : Int32} (h : x < 0) : dpx n x = none := if_neg (fun z => absurd h (Int32.not_lt.mpr z.1))
theorem c_debtPlace {d n : Nat} {S : St} {K : KT} {x : Int32} (hd : 3 ≤ d) (hN : NN S) (h1 : S.1 10 0 1 = nI n) (hn : n ≤ 5) (h : K (some (aI (match dpx n x with
    | some q => nI (5 * q.1 + q.2)
    | none => -1))) S) : Call d m_X5_debtPlace [aR 0 0, aI x] S K := by
  refine Call.of (k := 2) hd (fun e he P hP => ?_)
  repeat (first | (refine hP _ _ _ _ _ _ ?_; show P _ _ _ _ _ _) | (refine hP _ _ _ _ _ _ (And.intro (hN _ _ _ rfl) ?_); show P _ _ (aR _ _ :: _) _ _ _))
  refine hP _ _ _ _ _ _ (And.intro (by decide) ?_)
  repeat (first | (refine hP _ _ _ _ _ _ ?_; show P _ _ _ _ _ _) | (refine hP _ _ _ _ _ _ (And.intro (hN _ _ _ rfl) ?_); show P _ _ (aR _ _ :: _) _ _ _))
  refine hP _ _ _ _ _ _ (And.intro (by decide) ?_)
  repeat (first | (refine hP _ _ _ _ _ _ ?_; show P _ _ _ _ _ _) | (refine hP _ _ _ _ _ _ (And.intro (hN _ _ _ rfl) ?_); show P _ _ (aR _ _ :: _) _ _ _))
  refine hP _ _ _ _ _ _ (And.intro (fun hc => ?_) (fun hc => ?_))
  · rw [dpx_neg hc] at h
    repeat (first | (refine hP _ _ _ _ _ _ ?_; show P _ _ _ _ _ _) | (refine hP _ _ _ _ _ _ (And.intro (hN _ _ _ rfl) ?_); show P _ _ (aR _ _ :: _) _ _ _))
    exact hP _ _ _ _ _ _ (h)
  · obtain ⟨m, hm, rfl⟩ := nI_of hc
    have e1 : nI m / 10 = nI (m / 10) := pk_div (d := 10) hm (by decide) (by decide)
    have e2 : nI m - nI (m / 10) * 10 = nI (m % 10) := by
      rw [← e1]
      exact pk_rem (d := 10) hm (by decide) (by decide)
    rw [dpx_n hm] at h
    repeat (first | (refine hP _ _ _ _ _ _ ?_; show P _ _ _ _ _ _) | (refine hP _ _ _ _ _ _ (And.intro (hN _ _ _ rfl) ?_); show P _ _ (aR _ _ :: _) _ _ _))
    rw [e1, e2]
    refine hP _ _ _ _ _ _ (c_isTwo (by omega) hN h1 hn ?_)
    rw [isT_n hn (by omega) (by omega)]
    repeat (first | (refine hP _ _ _ _ _ _ ?_; show P _ _ _ _ _ _) | (refine hP _ _ _ _ _ _ (And.intro (hN _ _ _ rfl) ?_); show P _ _ (aR _ _ :: _) _ _ _))
    refine hP _ _ _ _ _ _ (bn2 (fun hb => ?_) (fun hb => ?_))
    · rw [if_neg (fun z => by simp [z.1, z.2.1, z.2.2] at hb)] at h
      repeat (first | (refine hP _ _ _ _ _ _ ?_; show P _ _ _ _ _ _) | (refine hP _ _ _ _ _ _ (And.intro (hN _ _ _ rfl) ?_); show P _ _ (aR _ _ :: _) _ _ _))
      exact hP _ _ _ _ _ _ (h)
    · simp only [Bool.and_eq_true, decide_eq_true_eq] at hb
      rw [if_pos hb] at h
      repeat (first | (refine hP _ _ _ _ _ _ ?_; show P _ _ _ _ _ _) | (refine hP _ _ _ _ _ _ (And.intro (hN _ _ _ rfl) ?_); show P _ _ (aR _ _ :: _) _ _ _))
      rw [ix5]
      exact hP _ _ _ _ _ _ (h)
/-- what told() tells -/
def tdI (tv : TV) (F : Fl) (x : Int32) (w : Nat) : Int32 := match w with
  | 0 => nI F.rd
  | 1 => nI F.ni
  | 4 => (match dpx F.n x with
    | some q => nI (F.ow q.1 q.2)
    | none => -2)
  | w => if isD F.n x = true then (match w with
    | 2 => nI (F.nu x.toNatClampNeg)
    | 3 => nI (F.dn x.toNatClampNeg)
    | 5 => nI (F.ki x.toNatClampNeg)
    | 6 => nI (brN tv F x.toNatClampNeg)
    | 7 => nI (oS F x.toNatClampNeg)
    | _ => nI (oT F x.toNatClampNeg)) else -2
theorem c_told {tv : TV} {nT d w : Nat} {S : St} {K : KT} {F : Fl} {x : Int32} (hd : 4 ≤ d) (hX : FX tv nT S 0 F) (hw : w ≤ 8) (h : ∀ S', Ag w0 S S' → K (some (aI (tdI tv F x w))) S') : Call d m_X5_told [aR 0 0, aI x, aI (nI w)] S K := by
  refine Call.of (k := 3) hd (fun e he P hP => ?_)
  have hN := hX.1.1
  have hn5 := hX.2.2.1
  have h1 := hX.2.1.1
  have one : (w = 2 ∨ w = 3 ∨ w = 5 ∨ w = 6 ∨ w = 7 ∨ w = 8) → P 57 [some (aR 0 0), some (aI x), some (aI (nI w)), none] [aI x, aR 0 0] S 0 0 := by
    intro hww
    refine hP _ _ _ _ _ _ (c_isDancer (by omega) hN h1 hn5 ?_)
    repeat (first | (refine hP _ _ _ _ _ _ ?_; show P _ _ _ _ _ _) | (refine hP _ _ _ _ _ _ (And.intro (hN _ _ _ rfl) ?_); show P _ _ (aR _ _ :: _) _ _ _))
    cases e : isD F.n x with
    | false =>
      have h := h S (Ag.rf _ _)
      refine hP _ _ _ _ _ _ (And.intro (fun hc => absurd rfl hc) (fun _ => ?_))
      repeat (first | (refine hP _ _ _ _ _ _ ?_; show P _ _ _ _ _ _) | (refine hP _ _ _ _ _ _ (And.intro (hN _ _ _ rfl) ?_); show P _ _ (aR _ _ :: _) _ _ _))
      have et : tdI tv F x w = -2 := by rcases hww with rfl | rfl | rfl | rfl | rfl | rfl <;> simp [tdI, e]
      rw [et] at h
      exact hP _ _ _ _ _ _ (h)
    | true =>
      obtain ⟨a, ha, ha2, rfl⟩ := isD_of e
      refine hP _ _ _ _ _ _ (And.intro (fun _ => ?_) (fun hc => absurd hc (by decide)))
      have hc := nI_clamp ha2
      rcases hww with rfl | rfl | rfl | rfl | rfl | rfl
      · have h := h S (Ag.rf _ _)
        rw [show tdI tv F (nI a) 2 = nI (F.nu a) from by simp [tdI, e, hc]] at h
        repeat (first | (refine hP _ _ _ _ _ _ ?_; show P _ _ _ _ _ _) | (refine hP _ _ _ _ _ _ (And.intro (hN _ _ _ rfl) ?_); show P _ _ (aR _ _ :: _) _ _ _))
        refine hP _ _ _ _ _ _ (swP_to ?_)
        show P 108 _ _ _ _ _
        repeat (first | (refine hP _ _ _ _ _ _ ?_; show P _ _ _ _ _ _) | (refine hP _ _ _ _ _ _ (And.intro (hN _ _ _ rfl) ?_); show P _ _ (aR _ _ :: _) _ _ _))
        refine hP _ _ _ _ _ _ (Exists.intro (a) (And.intro (And.intro (rfl) (by show a < 5; omega)) ?_))
        rw [hX.2.1.nu ha]
        exact hP _ _ _ _ _ _ (h)
      · have h := h S (Ag.rf _ _)
        rw [show tdI tv F (nI a) 3 = nI (F.dn a) from by simp [tdI, e, hc]] at h
        repeat (first | (refine hP _ _ _ _ _ _ ?_; show P _ _ _ _ _ _) | (refine hP _ _ _ _ _ _ (And.intro (hN _ _ _ rfl) ?_); show P _ _ (aR _ _ :: _) _ _ _))
        refine hP _ _ _ _ _ _ (swP_to ?_)
        show P 118 _ _ _ _ _
        repeat (first | (refine hP _ _ _ _ _ _ ?_; show P _ _ _ _ _ _) | (refine hP _ _ _ _ _ _ (And.intro (hN _ _ _ rfl) ?_); show P _ _ (aR _ _ :: _) _ _ _))
        refine hP _ _ _ _ _ _ (Exists.intro (a) (And.intro (And.intro (rfl) (by show a < 5; omega)) ?_))
        rw [hX.2.1.dn ha]
        exact hP _ _ _ _ _ _ (h)
      · have h := h S (Ag.rf _ _)
        rw [show tdI tv F (nI a) 5 = nI (F.ki a) from by simp [tdI, e, hc]] at h
        repeat (first | (refine hP _ _ _ _ _ _ ?_; show P _ _ _ _ _ _) | (refine hP _ _ _ _ _ _ (And.intro (hN _ _ _ rfl) ?_); show P _ _ (aR _ _ :: _) _ _ _))
        refine hP _ _ _ _ _ _ (swP_to ?_)
        show P 128 _ _ _ _ _
        repeat (first | (refine hP _ _ _ _ _ _ ?_; show P _ _ _ _ _ _) | (refine hP _ _ _ _ _ _ (And.intro (hN _ _ _ rfl) ?_); show P _ _ (aR _ _ :: _) _ _ _))
        refine hP _ _ _ _ _ _ (Exists.intro (a) (And.intro (And.intro (rfl) (by show a < 5; omega)) ?_))
        rw [hX.2.1.ki ha]
        exact hP _ _ _ _ _ _ (h)
      · rw [show tdI tv F (nI a) 6 = nI (brN tv F a) from by simp [tdI, e, hc]] at h
        repeat (first | (refine hP _ _ _ _ _ _ ?_; show P _ _ _ _ _ _) | (refine hP _ _ _ _ _ _ (And.intro (hN _ _ _ rfl) ?_); show P _ _ (aR _ _ :: _) _ _ _))
        refine hP _ _ _ _ _ _ (swP_to ?_)
        show P 138 _ _ _ _ _
        repeat (first | (refine hP _ _ _ _ _ _ ?_; show P _ _ _ _ _ _) | (refine hP _ _ _ _ _ _ (And.intro (hN _ _ _ rfl) ?_); show P _ _ (aR _ _ :: _) _ _ _))
        refine hP _ _ _ _ _ _ (q_breath (by omega) hX ha (fun S1 g1 => ?_))
        repeat (first | (refine hP _ _ _ _ _ _ ?_; show P _ _ _ _ _ _) | (refine hP _ _ _ _ _ _ (And.intro (hN _ _ _ rfl) ?_); show P _ _ (aR _ _ :: _) _ _ _))
        exact hP _ _ _ _ _ _ (h S1 g1)
      · have h := h S (Ag.rf _ _)
        rw [show tdI tv F (nI a) 7 = nI (oS F a) from by simp [tdI, e, hc]] at h
        repeat (first | (refine hP _ _ _ _ _ _ ?_; show P _ _ _ _ _ _) | (refine hP _ _ _ _ _ _ (And.intro (hN _ _ _ rfl) ?_); show P _ _ (aR _ _ :: _) _ _ _))
        refine hP _ _ _ _ _ _ (swP_to ?_)
        show P 147 _ _ _ _ _
        repeat (first | (refine hP _ _ _ _ _ _ ?_; show P _ _ _ _ _ _) | (refine hP _ _ _ _ _ _ (And.intro (hN _ _ _ rfl) ?_); show P _ _ (aR _ _ :: _) _ _ _))
        refine hP _ _ _ _ _ _ (q_owes (by omega) hX ha ?_)
        repeat (first | (refine hP _ _ _ _ _ _ ?_; show P _ _ _ _ _ _) | (refine hP _ _ _ _ _ _ (And.intro (hN _ _ _ rfl) ?_); show P _ _ (aR _ _ :: _) _ _ _))
        exact hP _ _ _ _ _ _ (h)
      · have h := h S (Ag.rf _ _)
        rw [show tdI tv F (nI a) 8 = nI (oT F a) from by simp [tdI, e, hc]] at h
        repeat (first | (refine hP _ _ _ _ _ _ ?_; show P _ _ _ _ _ _) | (refine hP _ _ _ _ _ _ (And.intro (hN _ _ _ rfl) ?_); show P _ _ (aR _ _ :: _) _ _ _))
        refine hP _ _ _ _ _ _ (swP_to ?_)
        show P 156 _ _ _ _ _
        repeat (first | (refine hP _ _ _ _ _ _ ?_; show P _ _ _ _ _ _) | (refine hP _ _ _ _ _ _ (And.intro (hN _ _ _ rfl) ?_); show P _ _ (aR _ _ :: _) _ _ _))
        refine hP _ _ _ _ _ _ (q_owedTo (by omega) hX ha ?_)
        repeat (first | (refine hP _ _ _ _ _ _ ?_; show P _ _ _ _ _ _) | (refine hP _ _ _ _ _ _ (And.intro (hN _ _ _ rfl) ?_); show P _ _ (aR _ _ :: _) _ _ _))
        exact hP _ _ _ _ _ _ (h)
  rcases (show w = 0 ∨ w = 1 ∨ w = 2 ∨ w = 3 ∨ w = 4 ∨ w = 5 ∨ w = 6 ∨ w = 7 ∨ w = 8 by omega) with rfl | rfl | rfl | rfl | rfl | rfl | rfl | rfl | rfl
  · have h := h S (Ag.rf _ _)
    repeat (first | (refine hP _ _ _ _ _ _ ?_; show P _ _ _ _ _ _) | (refine hP _ _ _ _ _ _ (And.intro (hN _ _ _ rfl) ?_); show P _ _ (aR _ _ :: _) _ _ _) | refine hP _ _ _ _ _ _ (And.intro (fun _ => ?_) (fun hc => absurd hc (by decide))) | refine hP _ _ _ _ _ _ (And.intro (fun hc => absurd hc (by decide)) (fun _ => ?_)))
    rw [hX.2.1.2.1]
    exact hP _ _ _ _ _ _ (h)
  · have h := h S (Ag.rf _ _)
    repeat (first | (refine hP _ _ _ _ _ _ ?_; show P _ _ _ _ _ _) | (refine hP _ _ _ _ _ _ (And.intro (hN _ _ _ rfl) ?_); show P _ _ (aR _ _ :: _) _ _ _) | refine hP _ _ _ _ _ _ (And.intro (fun _ => ?_) (fun hc => absurd hc (by decide))) | refine hP _ _ _ _ _ _ (And.intro (fun hc => absurd hc (by decide)) (fun _ => ?_)))
    rw [hX.2.1.2.2.1]
    exact hP _ _ _ _ _ _ (h)
  · repeat (first | (refine hP _ _ _ _ _ _ ?_; show P _ _ _ _ _ _) | (refine hP _ _ _ _ _ _ (And.intro (hN _ _ _ rfl) ?_); show P _ _ (aR _ _ :: _) _ _ _) | refine hP _ _ _ _ _ _ (And.intro (fun _ => ?_) (fun hc => absurd hc (by decide))) | refine hP _ _ _ _ _ _ (And.intro (fun hc => absurd hc (by decide)) (fun _ => ?_)))
    exact one (by omega)
  · repeat (first | (refine hP _ _ _ _ _ _ ?_; show P _ _ _ _ _ _) | (refine hP _ _ _ _ _ _ (And.intro (hN _ _ _ rfl) ?_); show P _ _ (aR _ _ :: _) _ _ _) | refine hP _ _ _ _ _ _ (And.intro (fun _ => ?_) (fun hc => absurd hc (by decide))) | refine hP _ _ _ _ _ _ (And.intro (fun hc => absurd hc (by decide)) (fun _ => ?_)))
    exact one (by omega)
  · have h := h S (Ag.rf _ _)
    repeat (first | (refine hP _ _ _ _ _ _ ?_; show P _ _ _ _ _ _) | (refine hP _ _ _ _ _ _ (And.intro (hN _ _ _ rfl) ?_); show P _ _ (aR _ _ :: _) _ _ _) | refine hP _ _ _ _ _ _ (And.intro (fun _ => ?_) (fun hc => absurd hc (by decide))) | refine hP _ _ _ _ _ _ (And.intro (fun hc => absurd hc (by decide)) (fun _ => ?_)))
    refine hP _ _ _ _ _ _ (c_debtPlace (by omega) hN h1 hn5 ?_)
    repeat (first | (refine hP _ _ _ _ _ _ ?_; show P _ _ _ _ _ _) | (refine hP _ _ _ _ _ _ (And.intro (hN _ _ _ rfl) ?_); show P _ _ (aR _ _ :: _) _ _ _))
    cases e : dpx F.n x with
    | none =>
      rw [show tdI tv F x 4 = -2 from by simp [tdI, e]] at h
      repeat (first | (refine hP _ _ _ _ _ _ ?_; show P _ _ _ _ _ _) | (refine hP _ _ _ _ _ _ (And.intro (hN _ _ _ rfl) ?_); show P _ _ (aR _ _ :: _) _ _ _) | refine hP _ _ _ _ _ _ (And.intro (fun _ => ?_) (fun hc => absurd hc (by decide))) | refine hP _ _ _ _ _ _ (And.intro (fun hc => absurd hc (by decide)) (fun _ => ?_)))
      exact hP _ _ _ _ _ _ (h)
    | some q =>
      obtain ⟨q1, q2, q3⟩ := dpx_lt e
      rw [show tdI tv F x 4 = nI (F.ow q.1 q.2) from by simp [tdI, e]] at h
      refine hP _ _ _ _ _ _ (And.intro (fun _ => ?_) (fun hc => absurd (nI_pos' (by omega)) hc))
      repeat (first | (refine hP _ _ _ _ _ _ ?_; show P _ _ _ _ _ _) | (refine hP _ _ _ _ _ _ (And.intro (hN _ _ _ rfl) ?_); show P _ _ (aR _ _ :: _) _ _ _))
      refine hP _ _ _ _ _ _ (Exists.intro (5 * q.1 + q.2) (And.intro (And.intro (rfl) (by show _ < 25; omega)) ?_))
      rw [hX.2.1.ow q1 q2]
      exact hP _ _ _ _ _ _ (h)
  · repeat (first | (refine hP _ _ _ _ _ _ ?_; show P _ _ _ _ _ _) | (refine hP _ _ _ _ _ _ (And.intro (hN _ _ _ rfl) ?_); show P _ _ (aR _ _ :: _) _ _ _) | refine hP _ _ _ _ _ _ (And.intro (fun _ => ?_) (fun hc => absurd hc (by decide))) | refine hP _ _ _ _ _ _ (And.intro (fun hc => absurd hc (by decide)) (fun _ => ?_)))
    exact one (by omega)
  · repeat (first | (refine hP _ _ _ _ _ _ ?_; show P _ _ _ _ _ _) | (refine hP _ _ _ _ _ _ (And.intro (hN _ _ _ rfl) ?_); show P _ _ (aR _ _ :: _) _ _ _) | refine hP _ _ _ _ _ _ (And.intro (fun _ => ?_) (fun hc => absurd hc (by decide))) | refine hP _ _ _ _ _ _ (And.intro (fun hc => absurd hc (by decide)) (fun _ => ?_)))
    exact one (by omega)
  · repeat (first | (refine hP _ _ _ _ _ _ ?_; show P _ _ _ _ _ _) | (refine hP _ _ _ _ _ _ (And.intro (hN _ _ _ rfl) ?_); show P _ _ (aR _ _ :: _) _ _ _) | refine hP _ _ _ _ _ _ (And.intro (fun _ => ?_) (fun hc => absurd hc (by decide))) | refine hP _ _ _ _ _ _ (And.intro (fun hc => absurd hc (by decide)) (fun _ => ?_)))
    exact one (by omega)
  · repeat (first | (refine hP _ _ _ _ _ _ ?_; show P _ _ _ _ _ _) | (refine hP _ _ _ _ _ _ (And.intro (hN _ _ _ rfl) ?_); show P _ _ (aR _ _ :: _) _ _ _) | refine hP _ _ _ _ _ _ (And.intro (fun _ => ?_) (fun hc => absurd hc (by decide))) | refine hP _ _ _ _ _ _ (And.intro (fun hc => absurd hc (by decide)) (fun _ => ?_)))
    exact one (by omega)
