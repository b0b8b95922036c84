/-! the class, out of claim whole -/
/-- the first place from k on, m at most, where p holds -/
def ff (p : Nat → Bool) : Nat → Nat → Int32
  | 0, _ => -1
  | m + 1, k => if p k = true then nI k else ff p m (k + 1)
/-- does one pay of k otherwise than a row tells -/
def foP (tv : TV) (F : Fl) (a : Nat) (v : Nat → Int32) (k : Nat) : Bool := decide (¬ nI (pyN tv F a k) = v k)
def foN (tv : TV) (F : Fl) (a : Nat) (sz : Nat) (v : Nat → Int32) : Int32 := ff (foP tv F a v) sz 0
theorem q_firstOtherwise {tv : TV} {nT d a g sz : Nat} {S : St} {K : KT} {f : Nat} {F : Fl} {v : Nat → Int32} (hd : 4 ≤ d) (hX : FX tv nT S f F) (ha : a < F.n) (hsz : S.1 20 g 1 = nI sz) (hs40 : sz ≤ 40) (hv : ∀ k, k < sz → S.1 21 g k = v k) (h : ∀ S', Ag w0 S S' → K (some (aI (foN tv F a sz v))) S') : Call d m_X0_firstOtherwise [aR 10 f, aR 20 g, aI (nI a)] S K := by
  refine Call.of (k := 3) hd (fun e he P hP => ?_)
  have hN := hX.1.1
  have loop : ∀ k, k ≤ sz → ∀ S1, Ag w0 S S1 → ff (foP tv F a v) (sz - k) k = foN tv F a sz v → P 7 [some (aR 10 f), some (aR 20 g), some (aI (nI a)), some (aI (nI k))] [aI (S1.1 20 g 1), aI (nI k)] S1 0 0 := by
    refine dn ?_ ?_
    · intro S1 g1 he
      have hX1 := hX.sc g1
      have hN := hX1.1.1
      have h := h S1 g1
      rw [← he, Nat.sub_self] at h
      repeat (first | (refine hP _ _ _ _ _ _ ?_; show P _ _ _ _ _ _) | (refine hP _ _ _ _ _ _ (And.intro (hN _ _ _ rfl) ?_); show P _ _ (aR _ _ :: _) _ _ _))
      rw [show S1.1 20 g 1 = nI sz by rw [g1.1 20 g 1 (by simp [w0])]; exact hsz]
      refine hP _ _ _ _ _ _ (And.intro (fun _ => ?_) (fun hc => absurd (nI_le (Nat.le_refl _) (by omega)) hc))
      repeat (first | (refine hP _ _ _ _ _ _ ?_; show P _ _ _ _ _ _) | (refine hP _ _ _ _ _ _ (And.intro (hN _ _ _ rfl) ?_); show P _ _ (aR _ _ :: _) _ _ _))
      exact hP _ _ _ _ _ _ (h)
    · intro k hk ih S1 g1 he
      have hX1 := hX.sc g1
      have hN := hX1.1.1
      rw [show sz - k = (sz - (k + 1)) + 1 by omega] at he
      simp only [ff] at he
      repeat (first | (refine hP _ _ _ _ _ _ ?_; show P _ _ _ _ _ _) | (refine hP _ _ _ _ _ _ (And.intro (hN _ _ _ rfl) ?_); show P _ _ (aR _ _ :: _) _ _ _))
      rw [show S1.1 20 g 1 = nI sz by rw [g1.1 20 g 1 (by simp [w0])]; exact hsz]
      refine hP _ _ _ _ _ _ (And.intro (fun hc => absurd hc (nI_ge hk (by omega))) (fun _ => ?_))
      repeat (first | (refine hP _ _ _ _ _ _ ?_; show P _ _ _ _ _ _) | (refine hP _ _ _ _ _ _ (And.intro (hN _ _ _ rfl) ?_); show P _ _ (aR _ _ :: _) _ _ _))
      refine hP _ _ _ _ _ _ (q_pays (by omega) hX1 ha (fun S2 h2 => ?_))
      have g2 := g1.tr h2
      have hX2 := hX.sc g2
      have hN := hX2.1.1
      repeat (first | (refine hP _ _ _ _ _ _ ?_; show P _ _ _ _ _ _) | (refine hP _ _ _ _ _ _ (And.intro (hN _ _ _ rfl) ?_); show P _ _ (aR _ _ :: _) _ _ _))
      refine hP _ _ _ _ _ _ (Exists.intro (k) (And.intro (And.intro (rfl) (by show _ < 40; omega)) ?_))
      rw [show S2.1 21 g k = v k by rw [g2.1 21 g k (by simp [w0])]; exact hv k hk]
      refine hP _ _ _ _ _ _ (And.intro (fun hc => ?_) (fun hc => ?_))
      · have hp : foP tv F a v k = false := by simp [foP, hc]
        rw [hp, if_neg (by decide)] at he
        repeat (first | (refine hP _ _ _ _ _ _ ?_; show P _ _ _ _ _ _) | (refine hP _ _ _ _ _ _ (And.intro (hN _ _ _ rfl) ?_); show P _ _ (aR _ _ :: _) _ _ _))
        have := ih S2 g2 he
        rw [nI_succ] at this
        exact this
      · have hp : foP tv F a v k = true := by simp [foP, hc]
        rw [hp, if_pos rfl] at he
        have h := h S2 g2
        rw [← he] at h
        repeat (first | (refine hP _ _ _ _ _ _ ?_; show P _ _ _ _ _ _) | (refine hP _ _ _ _ _ _ (And.intro (hN _ _ _ rfl) ?_); show P _ _ (aR _ _ :: _) _ _ _))
        exact hP _ _ _ _ _ _ (h)
  repeat (first | (refine hP _ _ _ _ _ _ ?_; show P _ _ _ _ _ _) | (refine hP _ _ _ _ _ _ (And.intro (hN _ _ _ rfl) ?_); show P _ _ (aR _ _ :: _) _ _ _))
  exact loop 0 (by omega) S (Ag.rf _ _) rfl
theorem q_paysAs {tv : TV} {nT d a g sz : Nat} {S : St} {K : KT} {f : Nat} {F : Fl} {v : Nat → Int32} (hd : 5 ≤ d) (hX : FX tv nT S f F) (ha : a < F.n) (hsz : S.1 20 g 1 = nI sz) (hs40 : sz ≤ 40) (hv : ∀ k, k < sz → S.1 21 g k = v k) (h : ∀ S', Ag w0 S S' → K (some (aI (b2 (decide (foN tv F a sz v = -1))))) S') : Call d m_X0_paysAs [aR 10 f, aR 20 g, aI (nI a)] S K := by
  refine Call.of (k := 4) hd (fun e he P hP => ?_)
  have hN := hX.1.1
  repeat (first | (refine hP _ _ _ _ _ _ ?_; show P _ _ _ _ _ _) | (refine hP _ _ _ _ _ _ (And.intro (hN _ _ _ rfl) ?_); show P _ _ (aR _ _ :: _) _ _ _))
  refine hP _ _ _ _ _ _ (q_firstOtherwise (by omega) hX ha hsz hs40 hv (fun S1 h1 => ?_))
  have h := h S1 h1
  repeat (first | (refine hP _ _ _ _ _ _ ?_; show P _ _ _ _ _ _) | (refine hP _ _ _ _ _ _ (And.intro (hN _ _ _ rfl) ?_); show P _ _ (aR _ _ :: _) _ _ _))
  refine hP _ _ _ _ _ _ (And.intro (fun hc => ?_) (fun hc => ?_))
  · have hc' : ¬ foN tv F a sz v = -1 := hc
    rw [decide_eq_false hc'] at h
    repeat (first | (refine hP _ _ _ _ _ _ ?_; show P _ _ _ _ _ _) | (refine hP _ _ _ _ _ _ (And.intro (hN _ _ _ rfl) ?_); show P _ _ (aR _ _ :: _) _ _ _))
    refine hP _ _ _ _ _ _ (And.intro (Or.inl rfl) h)
  · have hc' : foN tv F a sz v = -1 := hc
    rw [decide_eq_true hc'] at h
    repeat (first | (refine hP _ _ _ _ _ _ ?_; show P _ _ _ _ _ _) | (refine hP _ _ _ _ _ _ (And.intro (hN _ _ _ rfl) ?_); show P _ _ (aR _ _ :: _) _ _ _))
    refine hP _ _ _ _ _ _ (And.intro (Or.inr rfl) h)
/-- all is taken from floor g -/
def wTk (f : Nat) : WW := fun j g k => g = f ∧ (j = 10 ∧ 1 ≤ k ∧ k ≤ 4 ∨ (11 ≤ j ∧ j ≤ 13 ∧ k < 5) ∨ (j = 14 ∧ k < 25))
theorem wTk_ok (f : Nat) : okW (wTk f) := by
  intro j g k hj
  simp only [wTk] at hj
  omega
def tkn (S S' : St) (f g : Nat) : Prop := (∀ k, 1 ≤ k → k ≤ 4 → S'.1 10 f k = S.1 10 g k) ∧ (∀ j k, 11 ≤ j → j ≤ 13 → k < 5 → S'.1 j f k = S.1 j g k) ∧ ∀ k, k < 25 → S'.1 14 f k = S.1 14 g k
theorem HF.tk {S S' : St} {f g : Nat} {F : Fl} (h : HF S g F) (hn : F.n ≤ 5) (ht : tkn S S' f g) : HF S' f F := by
  obtain ⟨a1, a2, a3, a4, a5, a6⟩ := h
  obtain ⟨t1, t2, t3⟩ := ht
  refine ⟨?_, ?_, ?_, ?_, fun a ha => ?_, fun a b ha hb => ?_⟩
  · rw [t1 1 (by omega) (by omega)]; exact a1
  · rw [t1 2 (by omega) (by omega)]; exact a2
  · rw [t1 3 (by omega) (by omega)]; exact a3
  · rw [t1 4 (by omega) (by omega)]; exact a4
  · rw [t2 11 a (by omega) (by omega) (by omega), t2 12 a (by omega) (by omega) (by omega), t2 13 a (by omega) (by omega) (by omega)]
    exact a5 a ha
  · rw [t3 _ (by omega)]
    exact a6 a b ha hb
/-- a row copied whole -/
def cpS (S : St) (a b j g kn : Nat) : St := ((fun x y k => if x = a ∧ y = b ∧ 0 ≤ k ∧ k < 0 + kn then S.1 j g (0 + (k - 0)) else S.1 x y k), S.2)
theorem cp_in {S : St} {a b j g kn k : Nat} (h : k < kn) : (cpS S a b j g kn).1 a b k = S.1 j g k := by
  show (if a = a ∧ b = b ∧ 0 ≤ k ∧ k < 0 + kn then S.1 j g (0 + (k - 0)) else S.1 a b k) = _
  rw [if_pos ⟨rfl, rfl, Nat.zero_le _, by omega⟩, show 0 + (k - 0) = k by omega]
theorem cp_out {S : St} {a b j g kn x y k : Nat} (h : ¬ (x = a ∧ y = b ∧ k < kn)) : (cpS S a b j g kn).1 x y k = S.1 x y k := by
  show (if x = a ∧ y = b ∧ 0 ≤ k ∧ k < 0 + kn then S.1 j g (0 + (k - 0)) else S.1 x y k) = _
  rw [if_neg (fun z => h ⟨z.1, z.2.1, by omega⟩)]
theorem cp_ag {W : WW} {S : St} {a b j g kn : Nat} (h : ∀ k, k < kn → W a b k) : Ag W S (cpS S a b j g kn) :=
  ⟨fun x y k hk => cp_out (fun z => hk (by obtain ⟨rfl, rfl, z3⟩ := z; exact h k z3)), rfl⟩
def tkS (S : St) (f g : Nat) : St := cpS (cpS (cpS (cpS (ivSet (ivSet (ivSet (ivSet S 10 f 1 (S.1 10 g 1)) 10 f 2 (S.1 10 g 2)) 10 f 3 (S.1 10 g 3)) 10 f 4 (S.1 10 g 4)) 11 f 11 g 5) 12 f 12 g 5) 13 f 13 g 5) 14 f 14 g 25
theorem tkS_ag (S : St) (f g : Nat) : Ag (wTk f) S (tkS S f g) := by
  have h1 : Ag (wTk f) S (ivSet (ivSet (ivSet (ivSet S 10 f 1 (S.1 10 g 1)) 10 f 2 (S.1 10 g 2)) 10 f 3 (S.1 10 g 3)) 10 f 4 (S.1 10 g 4)) := (((Ag.iv (by simp [wTk])).tr (Ag.iv (by simp [wTk]))).tr (Ag.iv (by simp [wTk]))).tr (Ag.iv (by simp [wTk]))
  unfold tkS
  generalize ivSet (ivSet (ivSet (ivSet S 10 f 1 (S.1 10 g 1)) 10 f 2 (S.1 10 g 2)) 10 f 3 (S.1 10 g 3)) 10 f 4 (S.1 10 g 4) = A at h1 ⊢
  exact (((h1.tr (cp_ag (fun k hk => by simp [wTk]; omega))).tr (cp_ag (fun k hk => by simp [wTk]; omega))).tr (cp_ag (fun k hk => by simp [wTk]; omega))).tr (cp_ag (fun k hk => by simp [wTk]; omega))
theorem tkS_tk {S : St} {f g : Nat} (hfg : ¬ f = g) : tkn S (tkS S f g) f g := by
  unfold tkS
  have hA : ∀ j k, ¬ j = 10 → (ivSet (ivSet (ivSet (ivSet S 10 f 1 (S.1 10 g 1)) 10 f 2 (S.1 10 g 2)) 10 f 3 (S.1 10 g 3)) 10 f 4 (S.1 10 g 4)).1 j g k = S.1 j g k := by
    intro j k hj
    rw [iv_ne (by omega), iv_ne (by omega), iv_ne (by omega), iv_ne (by omega)]
  have hB : ∀ k, 1 ≤ k → k ≤ 4 → (ivSet (ivSet (ivSet (ivSet S 10 f 1 (S.1 10 g 1)) 10 f 2 (S.1 10 g 2)) 10 f 3 (S.1 10 g 3)) 10 f 4 (S.1 10 g 4)).1 10 f k = S.1 10 g k := by
    intro k h1 h2
    rcases (show k = 1 ∨ k = 2 ∨ k = 3 ∨ k = 4 by omega) with rfl | rfl | rfl | rfl
    · rw [iv_ne (by omega), iv_ne (by omega), iv_ne (by omega), iv_at]
    · rw [iv_ne (by omega), iv_ne (by omega), iv_at]
    · rw [iv_ne (by omega), iv_at]
    · rw [iv_at]
  generalize ivSet (ivSet (ivSet (ivSet S 10 f 1 (S.1 10 g 1)) 10 f 2 (S.1 10 g 2)) 10 f 3 (S.1 10 g 3)) 10 f 4 (S.1 10 g 4) = A at hA hB ⊢
  refine ⟨fun k h1 h2 => ?_, fun j k h1 h2 hk => ?_, fun k hk => ?_⟩
  · rw [cp_out (by omega), cp_out (by omega), cp_out (by omega), cp_out (by omega)]
    exact hB k h1 h2
  · rcases (show j = 11 ∨ j = 12 ∨ j = 13 by omega) with rfl | rfl | rfl
    · rw [cp_out (by omega), cp_out (by omega), cp_out (by omega), cp_in hk]
      exact hA 11 k (by omega)
    · rw [cp_out (by omega), cp_out (by omega), cp_in hk, cp_out (by omega)]
      exact hA 12 k (by omega)
    · rw [cp_out (by omega), cp_in hk, cp_out (by omega), cp_out (by omega)]
      exact hA 13 k (by omega)
  · rw [cp_in hk, cp_out (by omega), cp_out (by omega), cp_out (by omega)]
    exact hA 14 k (by omega)
theorem q_takeFrom {d : Nat} {S : St} {K : KT} {f g : Nat} (hd : 1 ≤ d) (hN : NN S) (hfg : ¬ f = g) (h : ∀ S', Ag (wTk f) S S' → tkn S S' f g → K none S') : Call d m_X0_takeFrom [aR 10 f, aR 10 g] S K := by
  refine Call.of (k := 0) hd (fun e he P hP => ?_)
  have h := h _ (tkS_ag S f g) (tkS_tk hfg)
  have e2 : (ivSet S 10 f 1 (S.1 10 g 1)).1 10 g 2 = S.1 10 g 2 := iv_ne (by omega)
  have e3 : (ivSet (ivSet S 10 f 1 (S.1 10 g 1)) 10 f 2 (S.1 10 g 2)).1 10 g 3 = S.1 10 g 3 := by rw [iv_ne (by omega), iv_ne (by omega)]
  have e4 : (ivSet (ivSet (ivSet S 10 f 1 (S.1 10 g 1)) 10 f 2 (S.1 10 g 2)) 10 f 3 (S.1 10 g 3)).1 10 g 4 = S.1 10 g 4 := by rw [iv_ne (by omega), iv_ne (by omega), iv_ne (by omega)]
  repeat (first | (refine hP _ _ _ _ _ _ ?_; show P _ _ _ _ _ _) | (refine hP _ _ _ _ _ _ (And.intro (hN _ _ _ rfl) ?_); show P _ _ (aR _ _ :: _) _ _ _))
  rw [e2]
  repeat (first | (refine hP _ _ _ _ _ _ ?_; show P _ _ _ _ _ _) | (refine hP _ _ _ _ _ _ (And.intro (hN _ _ _ rfl) ?_); show P _ _ (aR _ _ :: _) _ _ _))
  rw [e3]
  repeat (first | (refine hP _ _ _ _ _ _ ?_; show P _ _ _ _ _ _) | (refine hP _ _ _ _ _ _ (And.intro (hN _ _ _ rfl) ?_); show P _ _ (aR _ _ :: _) _ _ _))
  rw [e4]
  repeat (first | (refine hP _ _ _ _ _ _ ?_; show P _ _ _ _ _ _) | (refine hP _ _ _ _ _ _ (And.intro (hN _ _ _ rfl) ?_); show P _ _ (aR _ _ :: _) _ _ _))
  refine hP _ _ _ _ _ _ (Exists.intro 0 (Exists.intro 0 (Exists.intro 5 ⟨rfl, rfl, rfl, (by show _ ≤ 5; omega), (by show _ ≤ 5; omega), (by omega), ?_⟩)))
  repeat (first | (refine hP _ _ _ _ _ _ ?_; show P _ _ _ _ _ _) | (refine hP _ _ _ _ _ _ (And.intro (hN _ _ _ rfl) ?_); show P _ _ (aR _ _ :: _) _ _ _))
  refine hP _ _ _ _ _ _ (Exists.intro 0 (Exists.intro 0 (Exists.intro 5 ⟨rfl, rfl, rfl, (by show _ ≤ 5; omega), (by show _ ≤ 5; omega), (by omega), ?_⟩)))
  repeat (first | (refine hP _ _ _ _ _ _ ?_; show P _ _ _ _ _ _) | (refine hP _ _ _ _ _ _ (And.intro (hN _ _ _ rfl) ?_); show P _ _ (aR _ _ :: _) _ _ _))
  refine hP _ _ _ _ _ _ (Exists.intro 0 (Exists.intro 0 (Exists.intro 5 ⟨rfl, rfl, rfl, (by show _ ≤ 5; omega), (by show _ ≤ 5; omega), (by omega), ?_⟩)))
  repeat (first | (refine hP _ _ _ _ _ _ ?_; show P _ _ _ _ _ _) | (refine hP _ _ _ _ _ _ (And.intro (hN _ _ _ rfl) ?_); show P _ _ (aR _ _ :: _) _ _ _))
  refine hP _ _ _ _ _ _ (Exists.intro 0 (Exists.intro 0 (Exists.intro 25 ⟨rfl, rfl, rfl, (by show _ ≤ 25; omega), (by show _ ≤ 25; omega), (by omega), ?_⟩)))
  repeat (first | (refine hP _ _ _ _ _ _ ?_; show P _ _ _ _ _ _) | (refine hP _ _ _ _ _ _ (And.intro (hN _ _ _ rfl) ?_); show P _ _ (aR _ _ :: _) _ _ _))
  exact hP _ _ _ _ _ _ (h)
theorem FX.tk {tv : TV} {nT : Nat} {S S' : St} {f g : Nat} {F : Fl} (h : FX tv nT S g F) (h1 : Ag (wTk f) S S') (ht : tkn S S' f g) : FX tv nT S' f F := ⟨h.1.up h1 (wTk_ok f), h.2.1.tk h.2.2.1 ht, h.2.2⟩
/-- nothing lies behind the last one -/
def zB (S : St) (f n : Nat) : Prop := (∀ a, n ≤ a → a < 5 → S.1 13 f a = 0) ∧ ∀ a b, a < 5 → b < 5 → (n ≤ a ∨ n ≤ b) → S.1 14 f (5 * a + b) = 0
theorem zB.tk {S S' : St} {f g n : Nat} (h : zB S g n) (ht : tkn S S' f g) : zB S' f n := by
  refine ⟨fun a ha h5 => ?_, fun a b ha hb hn => ?_⟩
  · rw [ht.2.1 13 a (by omega) (by omega) h5]
    exact h.1 a ha h5
  · rw [ht.2.2 _ (by omega)]
    exact h.2 a b ha hb hn
/-- one comes -/
def jnF (F : Fl) (k u : Nat) : Fl := mkF (F.n + 1) F.rd F.ni F.ru (uN F.ki F.n k) (uN F.nu F.n u) (uN F.dn F.n 0) (fun x y => if x = F.n ∨ y = F.n then 0 else F.ow x y)
def jnS (S : St) (f n k u : Nat) : St := ivSet (ivSet (ivSet S 11 f n (nI k)) 12 f n (nI u)) 10 f 1 (nI (n + 1))
def wJ (f : Nat) : WW := fun j g k => g = f ∧ (j = 11 ∨ j = 12 ∨ (j = 10 ∧ k = 1))
theorem wJ_ok (f : Nat) : okW (wJ f) := by
  intro j g k hj
  simp only [wJ] at hj
  omega
theorem jn_all {tv : TV} {nT : Nat} {S : St} {f k u : Nat} {F : Fl} (hX : FX tv nT S f F) (hz : zB S f F.n) (hn : F.n < 5) (hk : k ≤ 5) (hu : u ≤ 9) : FX tv nT (jnS S f F.n k u) f (jnF F k u) ∧ zB (jnS S f F.n k u) f (F.n + 1) ∧ Ag (wJ f) S (jnS S f F.n k u) := by
  have g1 : Ag (wJ f) S (jnS S f F.n k u) := ((Ag.iv (by simp [wJ])).tr (Ag.iv (by simp [wJ]))).tr (Ag.iv (by simp [wJ]))
  obtain ⟨a1, a2, a3, a4, a5, a6⟩ := hX.2.1
  refine ⟨⟨hX.1.up g1 (wJ_ok f), ?_, ?_⟩, ?_, g1⟩
  · refine ⟨?_, ?_, ?_, ?_, fun a ha => ⟨?_, ?_, ?_⟩, fun a b ha hb => ?_⟩
    · exact iv_at
    · rw [g1.1 10 f 2 (by simp [wJ])]; exact a2
    · rw [g1.1 10 f 3 (by simp [wJ])]; exact a3
    · rw [g1.1 10 f 4 (by simp [wJ])]; exact a4
    · show (jnS S f F.n k u).1 11 f a = nI (uN F.ki F.n k a)
      unfold uN jnS
      have ha : a < F.n + 1 := ha
      rw [iv_ne (by omega), iv_ne (by omega)]
      by_cases e : a = F.n
      · rw [if_pos e, e, iv_at]
      · rw [if_neg e, iv_ne (by omega)]
        exact (a5 a (by omega)).1
    · show (jnS S f F.n k u).1 12 f a = nI (uN F.nu F.n u a)
      unfold uN jnS
      have ha : a < F.n + 1 := ha
      rw [iv_ne (by omega)]
      by_cases e : a = F.n
      · rw [if_pos e, e, iv_at]
      · rw [if_neg e, iv_ne (by omega), iv_ne (by omega)]
        exact (a5 a (by omega)).2.1
    · show (jnS S f F.n k u).1 13 f a = nI (uN F.dn F.n 0 a)
      have ha : a < F.n + 1 := ha
      rw [g1.1 13 f a (by simp [wJ])]
      unfold uN
      by_cases e : a = F.n
      · rw [if_pos e]
        exact hz.1 a (by omega) (by omega)
      · rw [if_neg e]
        exact (a5 a (by omega)).2.2
    · show (jnS S f F.n k u).1 14 f (5 * a + b) = nI (if a = F.n ∨ b = F.n then 0 else F.ow a b)
      have ha : a < F.n + 1 := ha
      have hb : b < F.n + 1 := hb
      rw [g1.1 14 f _ (by simp [wJ])]
      by_cases e : a = F.n ∨ b = F.n
      · rw [if_pos e]
        exact hz.2 a b (by omega) (by omega) (by omega)
      · rw [if_neg e]
        exact a6 a b (by omega) (by omega)
  · obtain ⟨w1, w2, w3, w4⟩ := hX.2.2
    refine ⟨hn, w2, w3, fun a ha => ?_⟩
    have ha : a < F.n + 1 := ha
    show uN F.ki F.n k a ≤ 5 ∧ uN F.nu F.n u a ≤ 9 ∧ uN F.dn F.n 0 a ≤ 99 ∧ ∀ b, b < F.n + 1 → (if a = F.n ∨ b = F.n then 0 else F.ow a b) ≤ 99
    unfold uN
    by_cases e : a = F.n
    · simp only [if_pos e, e, true_or, if_true]
      exact ⟨hk, hu, by omega, fun _ _ => by omega⟩
    · simp only [if_neg e]
      have := w4 a (by omega)
      refine ⟨this.1, this.2.1, this.2.2.1, fun b hb => ?_⟩
      by_cases e2 : a = F.n ∨ b = F.n
      · rw [if_pos e2]; omega
      · rw [if_neg e2]
        exact this.2.2.2 b (by omega)
  · refine ⟨fun a ha h5 => ?_, fun a b ha hb hn' => ?_⟩
    · rw [g1.1 13 f a (by simp [wJ])]
      exact hz.1 a (by omega) h5
    · rw [g1.1 14 f _ (by simp [wJ])]
      exact hz.2 a b ha hb (by omega)
theorem q_join {tv : TV} {nT d k u : Nat} {S : St} {K : KT} {f : Nat} {F : Fl} (hd : 1 ≤ d) (hX : FX tv nT S f F) (hz : zB S f F.n) (hn : F.n < 5) (hk : k ≤ 5) (hu : u ≤ 9) (h : ∀ S', Ag (wJ f) S S' → FX tv nT S' f (jnF F k u) → zB S' f (F.n + 1) → K (some (aI (nI F.n))) S') : Call d m_X0_join [aR 10 f, aI (nI k), aI (nI u)] S K := by
  refine Call.of (k := 0) hd (fun e he P hP => ?_)
  have hN := hX.1.1
  obtain ⟨h1, h2, h3⟩ := jn_all hX hz hn hk hu
  have h := h _ h3 h1 h2
  have e1 := hX.2.1.1
  have e2 : (ivSet S 11 f F.n (nI k)).1 10 f 1 = nI F.n := by rw [iv_ne (by omega)]; exact e1
  have e3 : (ivSet (ivSet S 11 f F.n (nI k)) 12 f F.n (nI u)).1 10 f 1 = nI F.n := by rw [iv_ne (by omega), iv_ne (by omega)]; exact e1
  repeat (first | (refine hP _ _ _ _ _ _ ?_; show P _ _ _ _ _ _) | (refine hP _ _ _ _ _ _ (And.intro (hN _ _ _ rfl) ?_); show P _ _ (aR _ _ :: _) _ _ _))
  rw [e1]
  refine hP _ _ _ _ _ _ (Exists.intro (F.n) (And.intro (And.intro (rfl) (show F.n < 5 from hn)) ?_))
  repeat (first | (refine hP _ _ _ _ _ _ ?_; show P _ _ _ _ _ _) | (refine hP _ _ _ _ _ _ (And.intro (hN _ _ _ rfl) ?_); show P _ _ (aR _ _ :: _) _ _ _))
  show P _ _ _ (ivSet S 11 f F.n (nI k)) _ _
  repeat (first | (refine hP _ _ _ _ _ _ ?_; show P _ _ _ _ _ _) | (refine hP _ _ _ _ _ _ (And.intro (hN _ _ _ rfl) ?_); show P _ _ (aR _ _ :: _) _ _ _))
  rw [e2]
  refine hP _ _ _ _ _ _ (Exists.intro (F.n) (And.intro (And.intro (rfl) (show F.n < 5 from hn)) ?_))
  repeat (first | (refine hP _ _ _ _ _ _ ?_; show P _ _ _ _ _ _) | (refine hP _ _ _ _ _ _ (And.intro (hN _ _ _ rfl) ?_); show P _ _ (aR _ _ :: _) _ _ _))
  rw [e3, nI_1]
  show P _ _ _ (jnS S f F.n k u) _ _
  repeat (first | (refine hP _ _ _ _ _ _ ?_; show P _ _ _ _ _ _) | (refine hP _ _ _ _ _ _ (And.intro (hN _ _ _ rfl) ?_); show P _ _ (aR _ _ :: _) _ _ _))
  show P _ _ [aI ((jnS S f F.n k u).1 10 f 1 - 1)] (jnS S f F.n k u) _ _
  have e4 : (jnS S f F.n k u).1 10 f 1 = nI (F.n + 1) := iv_at
  rw [e4, nI_pred]
  exact hP _ _ _ _ _ _ (h)

/-- the most of the first so many, and of i -/
def mxN (g : Nat → Nat) : Nat → Nat → Nat
  | 0, i => i
  | n + 1, i => if mxN g n i < g n then g n else mxN g n i
theorem mxN_0 {g : Nat → Nat} {i : Nat} : ∀ {n : Nat}, (∀ k, k < n → g k = 0) → mxN g n i = i
  | 0, _ => rfl
  | n + 1, h => by
    simp only [mxN]
    rw [mxN_0 (fun k hk => h k (by omega)), h n (by omega), if_neg (by omega)]
theorem mxN_le {g : Nat → Nat} {i m : Nat} (hi : i ≤ m) : ∀ {n : Nat}, (∀ k, k < n → g k ≤ m) → mxN g n i ≤ m
  | 0, _ => hi
  | n + 1, h => by
    simp only [mxN]
    split
    · exact h n (by omega)
    · exact mxN_le hi (fun k hk => h k (by omega))
def lgB (F : Fl) (first at' len : Nat) : Nat := if 1 < len ∧ 0 < F.ow at' first then len else 0
def lgC (F : Fl) (first : Nat) : Nat → Nat → Nat → Nat
  | 0, at', _ => lgB F first at' 5
  | j + 1, at', m => mxN (fun nx => if first < nx ∧ m.testBit nx = false ∧ 0 < F.ow at' nx then lgC F first j nx (m ||| 2 ^ nx) else 0) F.n (lgB F first at' (4 - j))
theorem lgB_le {F : Fl} {first at' len : Nat} (h : len ≤ 5) : lgB F first at' len ≤ 5 := by
  unfold lgB
  split <;> omega
theorem lgC_le (F : Fl) (first : Nat) : ∀ j, ∀ at' m, lgC F first j at' m ≤ 5
  | 0, _, _ => lgB_le (Nat.le_refl _)
  | j + 1, at', m => by
    unfold lgC
    refine mxN_le (lgB_le (by omega)) (fun k _ => ?_)
    split
    · exact lgC_le F first j _ _
    · omega
theorem bit5 : ∀ m, m < 32 → ∀ x, x < 5 → (((nI m >>> (nI x &&& 31)) &&& 1 = 0) ↔ m.testBit x = false) := by
  have h : ∀ m, m < 32 → ∀ x, x < 5 → decide ((nI m >>> (nI x &&& 31)) &&& 1 = 0) = !(m.testBit x) := by decide +kernel
  intro m hm x hx
  have := h m hm x hx
  constructor
  · intro z
    rw [decide_eq_true z] at this
    simpa using this.symm
  · intro z
    rw [z] at this
    simpa using this
theorem set5 : ∀ m, m < 32 → ∀ x, x < 5 → (nI m ||| ((1 : Int32) <<< (nI x &&& 31))) = nI (m ||| 2 ^ x) ∧ m ||| 2 ^ x < 32 := by
  have h : ∀ m, m < 32 → ∀ x, x < 5 → (decide ((nI m ||| ((1 : Int32) <<< (nI x &&& 31))) = nI (m ||| 2 ^ x)) && decide (m ||| 2 ^ x < 32)) = true := by decide +kernel
  intro m hm x hx
  have := h m hm x hx
  simpa using this
theorem one5 : ∀ x, x < 5 → ((1 : Int32) <<< (nI x &&& 31)) = nI (2 ^ x) ∧ 2 ^ x < 32 := by decide +kernel
theorem nmx {a b : Nat} (ha : a < 2 ^ 31) (hb : b < 2 ^ 31) : (if nI a < nI b then nI b else nI a) = nI (if a < b then b else a) := by
  by_cases h : a < b
  · rw [if_pos h, if_pos (nI_lt h hb)]
  · rw [if_neg h, if_neg (nI_nlt (by omega) ha)]
theorem geI {x y : Nat} (hx : x < 2 ^ 31) (hy : y < 2 ^ 31) {A B : Prop} (h1 : y ≤ x → A) (h2 : ¬ y ≤ x → B) : (nI y ≤ nI x → A) ∧ (¬ nI y ≤ nI x → B) :=
  ⟨fun hc => h1 ((nI_leI hy hx).mp hc), fun hc => h2 (fun z => hc ((nI_leI hy hx).mpr z))⟩
theorem q_longest {tv : TV} {nT f first : Nat} {F : Fl} (hf : first < F.n) : ∀ (j : Nat) {d : Nat} {S : St} {K : KT} {at' m : Nat}, j + 2 ≤ d → FX tv nT S f F → j ≤ 4 → at' < F.n → m < 32 → K (some (aI (nI (lgC F first j at' m)))) S → Call d m_X0_longest [aR 10 f, aI (nI first), aI (nI at'), aI (nI m), aI (nI (5 - j))] S K := by
  intro j
  induction j with
  | zero =>
    intro d S K at' m hd hX hj ha hm h
    refine Call.of (k := 1) hd (fun e he P hP => ?_)
    have hN := hX.1.1
    have hn5 := hX.2.2.1
    have o1 := hX.2.2.ow ha hf
    have base : ∀ v, v = lgB F first at' 5 → P 34 [some (aR 10 f), some (aI (nI first)), some (aI (nI at')), some (aI (nI m)), some (aI (nI 5)), some (aI (nI v)), some (aI (nI (first + 1)))] [aI (S.1 10 f 1), aI (nI (first + 1))] S 0 0 := by
      intro v hv
      have h : K (some (aI (nI (lgB F first at' 5)))) S := h
      rw [← hv] at h
      rw [hX.2.1.1]
      refine hP _ _ _ _ _ _ (geI (by omega) (by omega) (fun hc => ?_) (fun hc => ?_))
      · repeat (first | (refine hP _ _ _ _ _ _ ?_; show P _ _ _ _ _ _) | (refine hP _ _ _ _ _ _ (And.intro (hN _ _ _ rfl) ?_); show P _ _ (aR _ _ :: _) _ _ _))
        exact hP _ _ _ _ _ _ (h)
      · repeat (first | (refine hP _ _ _ _ _ _ ?_; show P _ _ _ _ _ _) | (refine hP _ _ _ _ _ _ (And.intro (hN _ _ _ rfl) ?_); show P _ _ (aR _ _ :: _) _ _ _))
        refine hP _ _ _ _ _ _ (And.intro (fun _ => ?_) (fun hc => absurd (nI_le (Nat.le_refl 5) (by decide)) hc))
        repeat (first | (refine hP _ _ _ _ _ _ ?_; show P _ _ _ _ _ _) | (refine hP _ _ _ _ _ _ (And.intro (hN _ _ _ rfl) ?_); show P _ _ (aR _ _ :: _) _ _ _))
        exact hP _ _ _ _ _ _ (h)
    repeat (first | (refine hP _ _ _ _ _ _ ?_; show P _ _ _ _ _ _) | (refine hP _ _ _ _ _ _ (And.intro (hN _ _ _ rfl) ?_); show P _ _ (aR _ _ :: _) _ _ _))
    refine hP _ _ _ _ _ _ (And.intro (fun hc => absurd hc (nI_ge (a := 1) (b := 5) (by decide) (by decide))) (fun _ => ?_))
    repeat (first | (refine hP _ _ _ _ _ _ ?_; show P _ _ _ _ _ _) | (refine hP _ _ _ _ _ _ (And.intro (hN _ _ _ rfl) ?_); show P _ _ (aR _ _ :: _) _ _ _))
    refine hP _ _ _ _ _ _ (q_owing (by omega) hX ha hf ?_)
    repeat (first | (refine hP _ _ _ _ _ _ ?_; show P _ _ _ _ _ _) | (refine hP _ _ _ _ _ _ (And.intro (hN _ _ _ rfl) ?_); show P _ _ (aR _ _ :: _) _ _ _))
    refine hP _ _ _ _ _ _ (le0 (by omega) (fun hc => ?_) (fun hc => ?_))
    · repeat (first | (refine hP _ _ _ _ _ _ ?_; show P _ _ _ _ _ _) | (refine hP _ _ _ _ _ _ (And.intro (hN _ _ _ rfl) ?_); show P _ _ (aR _ _ :: _) _ _ _))
      rw [nI_1]
      exact base 0 (by unfold lgB; rw [if_neg (fun z => hc z.2)])
    · repeat (first | (refine hP _ _ _ _ _ _ ?_; show P _ _ _ _ _ _) | (refine hP _ _ _ _ _ _ (And.intro (hN _ _ _ rfl) ?_); show P _ _ (aR _ _ :: _) _ _ _))
      rw [nI_1]
      exact base 5 (by unfold lgB; rw [if_pos ⟨by omega, hc⟩])
  | succ j ihj =>
    intro d S K at' m hd hX hj ha hm h
    refine Call.of (k := j + 2) (by omega) (fun e he P hP => ?_)
    have hN := hX.1.1
    have hn5 := hX.2.2.1
    have o1 := hX.2.2.ow ha hf
    rw [show 5 - (j + 1) = 4 - j by omega]
    unfold lgC at h
    generalize hg : (fun nx => if first < nx ∧ m.testBit nx = false ∧ 0 < F.ow at' nx then lgC F first j nx (m ||| 2 ^ nx) else 0) = g at h
    have hgv : ∀ k, g k = if first < k ∧ m.testBit k = false ∧ 0 < F.ow at' k then lgC F first j k (m ||| 2 ^ k) else 0 := fun k => by rw [← hg]
    have hgle : ∀ k, g k ≤ 5 := fun k => by
      rw [hgv]
      split
      · exact lgC_le _ _ _ _ _
      · omega
    have hmle : ∀ k, mxN g k (lgB F first at' (4 - j)) ≤ 5 := fun k => mxN_le (lgB_le (by omega)) (fun i _ => hgle i)
    have loop : ∀ k, k ≤ F.n → (first < k → P 34 [some (aR 10 f), some (aI (nI first)), some (aI (nI at')), some (aI (nI m)), some (aI (nI (4 - j))), some (aI (nI (mxN g k (lgB F first at' (4 - j))))), some (aI (nI k))] [aI (S.1 10 f 1), aI (nI k)] S 0 0) := by
      refine dn ?_ ?_
      · intro _
        rw [hX.2.1.1]
        refine hP _ _ _ _ _ _ (And.intro (fun _ => ?_) (fun hc => absurd (nI_le (Nat.le_refl _) (by omega)) hc))
        repeat (first | (refine hP _ _ _ _ _ _ ?_; show P _ _ _ _ _ _) | (refine hP _ _ _ _ _ _ (And.intro (hN _ _ _ rfl) ?_); show P _ _ (aR _ _ :: _) _ _ _))
        exact hP _ _ _ _ _ _ (h)
      · intro k hk ih hlt
        have ih := ih (by omega)
        rw [nI_succ] at ih
        have o2 := hX.2.2.ow ha hk
        have hge := hgv k
        obtain ⟨s1, s2⟩ := set5 m hm k (by omega)
        have skip : g k = 0 → P 86 [some (aR 10 f), some (aI (nI first)), some (aI (nI at')), some (aI (nI m)), some (aI (nI (4 - j))), some (aI (nI (mxN g k (lgB F first at' (4 - j))))), some (aI (nI k))] [] S 0 0 := by
          intro h0
          have e : mxN g (k + 1) (lgB F first at' (4 - j)) = mxN g k (lgB F first at' (4 - j)) := by
            simp only [mxN, h0]
            rw [if_neg (by omega)]
          rw [e] at ih
          repeat (first | (refine hP _ _ _ _ _ _ ?_; show P _ _ _ _ _ _) | (refine hP _ _ _ _ _ _ (And.intro (hN _ _ _ rfl) ?_); show P _ _ (aR _ _ :: _) _ _ _))
          exact ih
        rw [hX.2.1.1]
        refine hP _ _ _ _ _ _ (And.intro (fun hc => absurd hc (nI_ge hk (by omega))) (fun _ => ?_))
        repeat (first | (refine hP _ _ _ _ _ _ ?_; show P _ _ _ _ _ _) | (refine hP _ _ _ _ _ _ (And.intro (hN _ _ _ rfl) ?_); show P _ _ (aR _ _ :: _) _ _ _))
        refine hP _ _ _ _ _ _ (And.intro (fun hc => absurd hc (nI_ge (a := 4 - j) (b := 5) (by omega) (by omega))) (fun _ => ?_))
        repeat (first | (refine hP _ _ _ _ _ _ ?_; show P _ _ _ _ _ _) | (refine hP _ _ _ _ _ _ (And.intro (hN _ _ _ rfl) ?_); show P _ _ (aR _ _ :: _) _ _ _))
        refine hP _ _ _ _ _ _ (And.intro (fun hc => ?_) (fun hc => ?_))
        · refine skip ?_
          rw [hge, if_neg]
          rintro ⟨-, z, -⟩
          exact hc ((bit5 m hm k (by omega)).mpr z)
        · have hb := (bit5 m hm k (by omega)).mp hc
          repeat (first | (refine hP _ _ _ _ _ _ ?_; show P _ _ _ _ _ _) | (refine hP _ _ _ _ _ _ (And.intro (hN _ _ _ rfl) ?_); show P _ _ (aR _ _ :: _) _ _ _))
          refine hP _ _ _ _ _ _ (q_owing (by omega) hX ha hk ?_)
          repeat (first | (refine hP _ _ _ _ _ _ ?_; show P _ _ _ _ _ _) | (refine hP _ _ _ _ _ _ (And.intro (hN _ _ _ rfl) ?_); show P _ _ (aR _ _ :: _) _ _ _))
          refine hP _ _ _ _ _ _ (le0 (by omega) (fun hc2 => ?_) (fun hc2 => ?_))
          · refine skip ?_
            rw [hge, if_neg]
            rintro ⟨-, -, z⟩
            exact hc2 z
          · rw [if_pos ⟨hlt, hb, hc2⟩] at hge
            repeat (first | (refine hP _ _ _ _ _ _ ?_; show P _ _ _ _ _ _) | (refine hP _ _ _ _ _ _ (And.intro (hN _ _ _ rfl) ?_); show P _ _ (aR _ _ :: _) _ _ _))
            rw [s1, nI_1, show 4 - j + 1 = 5 - j by omega]
            refine hP _ _ _ _ _ _ (ihj (by omega) hX (by omega) hk s2 ?_)
            repeat (first | (refine hP _ _ _ _ _ _ ?_; show P _ _ _ _ _ _) | (refine hP _ _ _ _ _ _ (And.intro (hN _ _ _ rfl) ?_); show P _ _ (aR _ _ :: _) _ _ _))
            have l1 := hmle k
            have l2 := hgle k
            rw [← hge, nmx (by omega) (by omega)]
            exact ih
    have base : ∀ v, v = lgB F first at' (4 - j) → P 34 [some (aR 10 f), some (aI (nI first)), some (aI (nI at')), some (aI (nI m)), some (aI (nI (4 - j))), some (aI (nI v)), some (aI (nI (first + 1)))] [aI (S.1 10 f 1), aI (nI (first + 1))] S 0 0 := by
      intro v hv
      have := loop (first + 1) hf (by omega)
      rw [mxN_0 (fun k hk => by rw [hgv, if_neg (fun z => by omega)]), ← hv] at this
      exact this
    repeat (first | (refine hP _ _ _ _ _ _ ?_; show P _ _ _ _ _ _) | (refine hP _ _ _ _ _ _ (And.intro (hN _ _ _ rfl) ?_); show P _ _ (aR _ _ :: _) _ _ _))
    refine hP _ _ _ _ _ _ (gtI (x := 4 - j) (y := 1) (by omega) (by omega) (fun hc => ?_) (fun hc => ?_))
    · repeat (first | (refine hP _ _ _ _ _ _ ?_; show P _ _ _ _ _ _) | (refine hP _ _ _ _ _ _ (And.intro (hN _ _ _ rfl) ?_); show P _ _ (aR _ _ :: _) _ _ _))
      rw [nI_1]
      exact base 0 (by unfold lgB; rw [if_neg (fun z => hc z.1)])
    · repeat (first | (refine hP _ _ _ _ _ _ ?_; show P _ _ _ _ _ _) | (refine hP _ _ _ _ _ _ (And.intro (hN _ _ _ rfl) ?_); show P _ _ (aR _ _ :: _) _ _ _))
      refine hP _ _ _ _ _ _ (q_owing (by omega) hX ha hf ?_)
      repeat (first | (refine hP _ _ _ _ _ _ ?_; show P _ _ _ _ _ _) | (refine hP _ _ _ _ _ _ (And.intro (hN _ _ _ rfl) ?_); show P _ _ (aR _ _ :: _) _ _ _))
      refine hP _ _ _ _ _ _ (le0 (by omega) (fun hc2 => ?_) (fun hc2 => ?_))
      · repeat (first | (refine hP _ _ _ _ _ _ ?_; show P _ _ _ _ _ _) | (refine hP _ _ _ _ _ _ (And.intro (hN _ _ _ rfl) ?_); show P _ _ (aR _ _ :: _) _ _ _))
        rw [nI_1]
        exact base 0 (by unfold lgB; rw [if_neg (fun z => hc2 z.2)])
      · repeat (first | (refine hP _ _ _ _ _ _ ?_; show P _ _ _ _ _ _) | (refine hP _ _ _ _ _ _ (And.intro (hN _ _ _ rfl) ?_); show P _ _ (aR _ _ :: _) _ _ _))
        rw [nI_1]
        exact base (4 - j) (by unfold lgB; rw [if_pos ⟨hc, hc2⟩])
def rgN (F : Fl) : Nat := mxN (fun p => lgC F p 4 p (2 ^ p)) F.n 0
theorem q_ring {tv : TV} {nT d : Nat} {S : St} {K : KT} {f : Nat} {F : Fl} (hd : 7 ≤ d) (hX : FX tv nT S f F) (h : K (some (aI (nI (rgN F)))) S) : Call d m_X0_ring [aR 10 f] S K := by
  refine Call.of (k := 6) hd (fun e he P hP => ?_)
  have hN := hX.1.1
  have hn5 := hX.2.2.1
  have loop : ∀ k, k ≤ F.n → P 9 [some (aR 10 f), some (aI (nI (mxN (fun p => lgC F p 4 p (2 ^ p)) k 0))), some (aI (nI k))] [aI (S.1 10 f 1), aI (nI k)] S 0 0 := by
    refine dn ?_ ?_
    · rw [hX.2.1.1]
      refine hP _ _ _ _ _ _ (And.intro (fun _ => ?_) (fun hc => absurd (nI_le (Nat.le_refl _) (by omega)) hc))
      repeat (first | (refine hP _ _ _ _ _ _ ?_; show P _ _ _ _ _ _) | (refine hP _ _ _ _ _ _ (And.intro (hN _ _ _ rfl) ?_); show P _ _ (aR _ _ :: _) _ _ _))
      exact hP _ _ _ _ _ _ (h)
    · intro k hk ih
      rw [nI_succ] at ih
      obtain ⟨s1, s2⟩ := one5 k (by omega)
      have l1 := lgC_le F k 4 k (2 ^ k)
      have l2 : mxN (fun p => lgC F p 4 p (2 ^ p)) k 0 ≤ 5 := mxN_le (by omega) (fun i _ => lgC_le F i 4 i (2 ^ i))
      rw [hX.2.1.1]
      refine hP _ _ _ _ _ _ (And.intro (fun hc => absurd hc (nI_ge hk (by omega))) (fun _ => ?_))
      repeat (first | (refine hP _ _ _ _ _ _ ?_; show P _ _ _ _ _ _) | (refine hP _ _ _ _ _ _ (And.intro (hN _ _ _ rfl) ?_); show P _ _ (aR _ _ :: _) _ _ _))
      rw [s1]
      refine hP _ _ _ _ _ _ (q_longest hk 4 (by omega) hX (by omega) hk s2 ?_)
      repeat (first | (refine hP _ _ _ _ _ _ ?_; show P _ _ _ _ _ _) | (refine hP _ _ _ _ _ _ (And.intro (hN _ _ _ rfl) ?_); show P _ _ (aR _ _ :: _) _ _ _))
      rw [nmx (by omega) (by omega)]
      exact ih
  repeat (first | (refine hP _ _ _ _ _ _ ?_; show P _ _ _ _ _ _) | (refine hP _ _ _ _ _ _ (And.intro (hN _ _ _ rfl) ?_); show P _ _ (aR _ _ :: _) _ _ _))
  exact loop 0 (by omega)

