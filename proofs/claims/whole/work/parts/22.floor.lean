/-! Floor: pays, breath, will, may -/
def swF (x : Int32) : List (Int32 × Nat) → Nat → Nat
  | [], d => d
  | a :: l, d => if x = a.1 then a.2 else swF x l d
theorem swP_to {x : Int32} {P : Nat → Prop} : ∀ {sw : List (Int32 × Nat)} {d : Nat}, P (swF x sw d) → swP x P sw d
  | [], _, h => h
  | a :: l, d, h => ⟨fun hx => by
      simp only [swF, if_pos hx] at h
      exact h, fun hx => by
      simp only [swF, if_neg hx] at h
      exact swP_to h⟩
/-- a floor that is in order: n dancers, THE RULE is text t of nT -/
def FO (tv : Nat → Nat → (Nat → Int32) → Int32) (S : St) (f n t nT : Nat) : Prop := NN S ∧ n ≤ 5 ∧ S.1 10 f 1 = nI n ∧ t < nT ∧ S.1 10 f 4 = nI t ∧ RV S nT tv ∧ ∀ a, a < n → ∃ k, k ≤ 5 ∧ S.1 11 f a = nI k
theorem FO.up {tv : Nat → Nat → (Nat → Int32) → Int32} {S S1 : St} {f n t nT : Nat} (h : FO tv S f n t nT) (hS : Sc S S1) : FO tv S1 f n t nT := by
  obtain ⟨h1, h2, h3, h4, h5, h6, h7⟩ := h
  exact ⟨hS.nn h1, h2, by rw [hS.1 10 rfl]; exact h3, h4, by rw [hS.1 10 rfl]; exact h5, h6.up hS.tx, by rw [hS.1 11 rfl]; exact h7⟩
theorem FO.value {tv : Nat → Nat → (Nat → Int32) → Int32} {d : Nat} {S : St} {K : KT} {f a n t p nT : Nat} {o : Int32} (hF : FO tv S f n t nT) (hd : 2 ≤ d) (hp : p < 3) (ha : a < n) (h : ∀ S', Sc S S' → K (some (aI (vlF tv S f n t p a o))) S') : Call d m_X0_value [aR 10 f, aI (nI p), aI (nI a), aI o] S K := by
  obtain ⟨h1, h2, h3, h4, h5, h6, h7⟩ := hF
  exact sp_value hd h1 h2 h3 h4 h5 hp h6 (by omega) h
theorem vlF_c {tv : Nat → Nat → (Nat → Int32) → Int32} {S S1 : St} {f n t p a : Nat} {o : Int32} (h : Sc S S1) : vlF tv S1 f n t p a o = vlF tv S f n t p a o := by
  have e : nmF S1 f n a o = nmF S f n a o := by
    funext k
    unfold nmF
    rw [h.1 10 rfl, h.1 12 rfl, h.1 13 rfl, h.1 14 rfl]
  simp only [vlF, e]
/-- what one pays, owing o -/
def pyF (tv : Nat → Nat → (Nat → Int32) → Int32) (S : St) (f n t a : Nat) (o : Int32) : Int32 :=
  wI (if S.1 11 f a = 1 then 2 * vlF tv S f n t 0 a o
    else if S.1 11 f a = 2 then 1
    else if S.1 11 f a = 3 then 2 * vlF tv S f n t 0 a o + (if S.1 10 f 2 - S.1 10 f 2 / 2 * 2 = 0 then S.1 12 f a else 0)
    else if S.1 11 f a = 4 then o
    else if S.1 11 f a = 5 then 0
    else vlF tv S f n t 0 a o) o
theorem sp_pays {tv : Nat → Nat → (Nat → Int32) → Int32} {d : Nat} {S : St} {K : KT} {f a n t nT : Nat} {o : Int32} (hd : 3 ≤ d) (hF : FO tv S f n t nT) (ha : a < n) (h : ∀ S', Sc S S' → K (some (aI (pyF tv S f n t a o))) S') : Call d m_X0_pays [aR 10 f, aI (nI a), aI o] S K := by
  refine Call.of (k := 2) hd (fun e he P hP => ?_)
  have hN := hF.1
  have hn := hF.2.1
  obtain ⟨k, hk5, hk⟩ := hF.2.2.2.2.2.2 a ha
  have fin : ∀ (S' : St) (x : Int32), Sc S S' → pyF tv S f n t a o = wI x o → P 111 [some (aR 10 f), some (aI (nI a)), some (aI o), some (aI x)] [aI o, aI x] S' 0 0 := by
    intro S' x hS hx
    refine hP _ _ _ _ _ _ (sp_within (by omega) ?_)
    have h := h S' hS
    rw [hx] at h
    exact hP _ _ _ _ _ _ (h)
  repeat (first | (refine hP _ _ _ _ _ _ ?_; show P _ _ _ _ _ _) | refine hP _ _ _ _ _ _ (And.intro (hN _ _ _ rfl) ?_))
  refine hP _ _ _ _ _ _ (Exists.intro (a) (And.intro (And.intro (rfl) (show a < 5 by omega)) ?_))
  repeat (first | (refine hP _ _ _ _ _ _ ?_; show P _ _ _ _ _ _) | refine hP _ _ _ _ _ _ (And.intro (hN _ _ _ rfl) ?_))
  refine hP _ _ _ _ _ _ (swP_to ?_)
  have hk2 : S.1 (frf (10, f).fst (10, f).snd 5).fst (frf (10, f).fst (10, f).snd 5).snd a = nI k := hk
  rw [hk2]
  rcases (show k = 0 ∨ k = 1 ∨ k = 2 ∨ k = 3 ∨ k = 4 ∨ k = 5 by omega) with rfl | rfl | rfl | rfl | rfl | rfl
  · show P 101 _ _ _ _ _
    repeat (first | (refine hP _ _ _ _ _ _ ?_; show P _ _ _ _ _ _) | refine hP _ _ _ _ _ _ (And.intro (hN _ _ _ rfl) ?_))
    refine hP _ _ _ _ _ _ (FO.value (p := 0) hF (by omega) (by omega) ha (fun S' hS => ?_))
    repeat (first | (refine hP _ _ _ _ _ _ ?_; show P _ _ _ _ _ _) | refine hP _ _ _ _ _ _ (And.intro (hN _ _ _ rfl) ?_))
    refine fin S' _ hS ?_
    simp [pyF, hk, nI]
  · show P 40 _ _ _ _ _
    repeat (first | (refine hP _ _ _ _ _ _ ?_; show P _ _ _ _ _ _) | refine hP _ _ _ _ _ _ (And.intro (hN _ _ _ rfl) ?_))
    refine hP _ _ _ _ _ _ (FO.value (p := 0) hF (by omega) (by omega) ha (fun S' hS => ?_))
    repeat (first | (refine hP _ _ _ _ _ _ ?_; show P _ _ _ _ _ _) | refine hP _ _ _ _ _ _ (And.intro (hN _ _ _ rfl) ?_))
    refine fin S' _ hS ?_
    simp [pyF, hk, nI]
  · show P 53 _ _ _ _ _
    repeat (first | (refine hP _ _ _ _ _ _ ?_; show P _ _ _ _ _ _) | refine hP _ _ _ _ _ _ (And.intro (hN _ _ _ rfl) ?_))
    refine fin S _ (Sc.rf S) ?_
    simp [pyF, hk, nI]
  · show P 58 _ _ _ _ _
    repeat (first | (refine hP _ _ _ _ _ _ ?_; show P _ _ _ _ _ _) | refine hP _ _ _ _ _ _ (And.intro (hN _ _ _ rfl) ?_))
    refine hP _ _ _ _ _ _ (FO.value (p := 0) hF (by omega) (by omega) ha (fun S' hS => ?_))
    have hN := hS.nn hN
    repeat (first | (refine hP _ _ _ _ _ _ ?_; show P _ _ _ _ _ _) | refine hP _ _ _ _ _ _ (And.intro (hN _ _ _ rfl) ?_))
    refine hP _ _ _ _ _ _ (And.intro (by decide) ?_)
    repeat (first | (refine hP _ _ _ _ _ _ ?_; show P _ _ _ _ _ _) | refine hP _ _ _ _ _ _ (And.intro (hN _ _ _ rfl) ?_))
    refine hP _ _ _ _ _ _ (And.intro (fun hc => ?_) (fun hc => ?_))
    · repeat (first | (refine hP _ _ _ _ _ _ ?_; show P _ _ _ _ _ _) | refine hP _ _ _ _ _ _ (And.intro (hN _ _ _ rfl) ?_))
      refine fin S' _ hS ?_
      have hc' : ¬ S.1 10 f 2 - S.1 10 f 2 / 2 * 2 = 0 := by
        rw [← hS.1 10 rfl]
        exact hc
      simp [pyF, hk, nI, hc']
    · repeat (first | (refine hP _ _ _ _ _ _ ?_; show P _ _ _ _ _ _) | refine hP _ _ _ _ _ _ (And.intro (hN _ _ _ rfl) ?_))
      refine hP _ _ _ _ _ _ (Exists.intro (a) (And.intro (And.intro (rfl) (show a < 5 by omega)) ?_))
      repeat (first | (refine hP _ _ _ _ _ _ ?_; show P _ _ _ _ _ _) | refine hP _ _ _ _ _ _ (And.intro (hN _ _ _ rfl) ?_))
      refine fin S' _ hS ?_
      have hc' : S.1 10 f 2 - S.1 10 f 2 / 2 * 2 = 0 := by
        rw [← hS.1 10 rfl]
        exact hc
      have e12 : S'.1 12 f a = S.1 12 f a := by rw [hS.1 12 rfl]
      show _ = wI (2 * vlF tv S f n t 0 a o + S'.1 12 f a) o
      simp [pyF, hk, nI, hc', e12]
  · show P 91 _ _ _ _ _
    repeat (first | (refine hP _ _ _ _ _ _ ?_; show P _ _ _ _ _ _) | refine hP _ _ _ _ _ _ (And.intro (hN _ _ _ rfl) ?_))
    refine fin S _ (Sc.rf S) ?_
    simp [pyF, hk, nI]
  · show P 96 _ _ _ _ _
    repeat (first | (refine hP _ _ _ _ _ _ ?_; show P _ _ _ _ _ _) | refine hP _ _ _ _ _ _ (And.intro (hN _ _ _ rfl) ?_))
    refine fin S _ (Sc.rf S) ?_
    simp [pyF, hk, nI]
