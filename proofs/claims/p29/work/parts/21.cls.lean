/-! the class, out of claim whole -/
/-- all but the scratch rows (4: the names, 5: the stack) is the same -/
def sc4 (j : Nat) : Bool := !(Nat.beq j 4) && !(Nat.beq j 5)
def Sc (S S' : St) : Prop := (∀ j, sc4 j = true → S'.1 j = S.1 j) ∧ S'.2 = S.2
theorem Sc.rf (S : St) : Sc S S := ⟨fun _ _ => rfl, rfl⟩
theorem Sc.tr {S S1 S2 : St} (h : Sc S S1) (h2 : Sc S1 S2) : Sc S S2 := ⟨fun j hj => (h2.1 j hj).trans (h.1 j hj), h2.2.trans h.2⟩
theorem Sc.nn {S S' : St} (h : Sc S S') (hN : NN S) : NN S' := fun j g k hj => by rw [h.2]; exact hN j g k hj
theorem Sc.st {S : St} {j g k : Nat} {v : Int32} (hj : sc4 j = false) : Sc S (ivSet S j g k v) := by
  refine ⟨fun i hi => ?_, rfl⟩
  funext a b
  simp only [ivSet, up3]
  rw [if_neg]
  rintro ⟨rfl, -⟩
  rw [hj] at hi
  cases hi
/-- what a text needs of the state -/
def TxS (S S1 : St) : Prop := S1.1 31 = S.1 31 ∧ S1.1 32 = S.1 32 ∧ S1.1 1 = S.1 1 ∧ S1.2.2 = S.2.2
theorem Sc.tx {S S' : St} (h : Sc S S') : TxS S S' := ⟨h.1 31 rfl, h.1 32 rfl, h.1 1 rfl, by rw [h.2]⟩
theorem TxS.rf (S : St) : TxS S S := ⟨rfl, rfl, rfl, rfl⟩
theorem TxS.tr {S S1 S2 : St} (h : TxS S S1) (h2 : TxS S1 S2) : TxS S S2 := ⟨h2.1.trans h.1, h2.2.1.trans h.2.1, h2.2.2.1.trans h.2.2.1, h2.2.2.2.trans h.2.2.2⟩
/-- the texts: part p of text t, the names being N, is worked out to tv t p N -/
def RV (S : St) (nT : Nat) (tv : Nat → Nat → (Nat → Int32) → Int32) : Prop :=
  ∀ (d : Nat) (S1 : St) (K : KT) (t p : Nat) (N : Nat → Int32), 1 ≤ d → TxS S S1 → t < nT → p < 3 → (∀ k, k < 6 → S1.1 4 0 k = N k) → (∀ S', Sc S1 S' → K (some (aI (tv t p N))) S') → Call d m_X2_value [aR 1 0, aI (nI t), aI (nI p)] S1 K
theorem RV.up {S S1 : St} {nT : Nat} {tv : Nat → Nat → (Nat → Int32) → Int32} (h : RV S nT tv) (h1 : TxS S S1) : RV S1 nT tv := fun d S2 K t p N a b => h d S2 K t p N a (h1.tr b)
/-- held from 0 to m -/
def wI (x m : Int32) : Int32 := if x < 0 then 0 else if m < x then m else x
theorem sp_within {d : Nat} {S : St} {K : KT} {x m : Int32} (hd : 1 ≤ d) (h : K (some (aI (wI x m))) S) : Call d m_X5_within [aI x, aI m] S K := by
  refine Call.of (k := 0) hd (fun e he P hP => ?_)
  unfold wI at h
  repeat (refine hP _ _ _ _ _ _ ?_; show P _ _ _ _ _ _)
  refine hP _ _ _ _ _ _ (And.intro (fun hc => ?_) (fun hc => ?_))
  · rw [if_neg (Int32.not_lt.mpr hc)] at h
    repeat (refine hP _ _ _ _ _ _ ?_; show P _ _ _ _ _ _)
    refine hP _ _ _ _ _ _ (And.intro (fun hc2 => ?_) (fun hc2 => ?_))
    · rw [if_neg (Int32.not_lt.mpr hc2)] at h
      repeat (refine hP _ _ _ _ _ _ ?_; show P _ _ _ _ _ _)
      exact hP _ _ _ _ _ _ (h)
    · rw [if_pos (Int32.not_le.mp hc2)] at h
      repeat (refine hP _ _ _ _ _ _ ?_; show P _ _ _ _ _ _)
      exact hP _ _ _ _ _ _ (h)
  · rw [if_pos (Int32.not_le.mp hc)] at h
    repeat (refine hP _ _ _ _ _ _ ?_; show P _ _ _ _ _ _)
    exact hP _ _ _ _ _ _ (h)
theorem sp_owedTo {d : Nat} {S : St} {K : KT} {f a n : Nat} (hd : 1 ≤ d) (hN : NN S) (hn : n ≤ 5) (hnn : S.1 10 f 1 = nI n) (ha : a < 5) (h : K (some (aI (sm (fun o => S.1 14 f (5 * o + a)) n))) S) : Call d m_X0_owedTo [aR 10 f, aI (nI a)] S K := by
  refine Call.of (k := 0) hd (fun e he P hP => ?_)
  have loop : ∀ m k, k + m = n → P 9 [some (aR 10 f), some (aI (nI a)), some (aI (sm (fun o => S.1 14 f (5 * o + a)) k)), some (aI (nI k))] [aI (S.1 10 f 1), aI (nI k)] S 0 0 := by
    intro m
    induction m with
    | zero =>
      intro k hk
      refine hP _ _ _ _ _ _ (And.intro (fun hc => ?_) (fun hc => ?_))
      · repeat (refine hP _ _ _ _ _ _ ?_; show P _ _ _ _ _ _)
        obtain rfl : k = n := by omega
        exact hP _ _ _ _ _ _ (h)
      · exact absurd (by rw [hnn]; exact nI_le (by omega) (by omega)) hc
    | succ m ih =>
      intro k hk
      refine hP _ _ _ _ _ _ (And.intro (fun hc => ?_) (fun hc => ?_))
      · exact absurd hc (by rw [hnn]; exact nI_ge (by omega) (by omega))
      · repeat (first | (refine hP _ _ _ _ _ _ ?_; show P _ _ _ _ _ _) | refine hP _ _ _ _ _ _ (And.intro (hN _ _ _ rfl) ?_))
        refine hP _ _ _ _ _ _ (Exists.intro (5 * k + a) (And.intro (And.intro (ix5 k a) (by show _ < 25; omega)) ?_))
        repeat (first | (refine hP _ _ _ _ _ _ ?_; show P _ _ _ _ _ _) | refine hP _ _ _ _ _ _ (And.intro (hN _ _ _ rfl) ?_))
        have := ih (k + 1) (by omega)
        rw [nI_succ] at this
        exact this
  repeat (refine hP _ _ _ _ _ _ ?_; show P _ _ _ _ _ _)
  exact loop n 0 (by omega)
theorem sp_all {d : Nat} {S : St} {K : KT} {f n : Nat} (hd : 2 ≤ d) (hN : NN S) (hn : n ≤ 5) (hnn : S.1 10 f 1 = nI n) (h : K (some (aI (sm (fun a => sm (fun o => S.1 14 f (5 * a + o)) n) n))) S) : Call d m_X0_all [aR 10 f] S K := by
  refine Call.of (k := 1) hd (fun e he P hP => ?_)
  have loop : ∀ m k, k + m = n → P 9 [some (aR 10 f), some (aI (sm (fun a => sm (fun o => S.1 14 f (5 * a + o)) n) k)), some (aI (nI k))] [aI (S.1 10 f 1), aI (nI k)] S 0 0 := by
    intro m
    induction m with
    | zero =>
      intro k hk
      refine hP _ _ _ _ _ _ (And.intro (fun hc => ?_) (fun hc => ?_))
      · repeat (refine hP _ _ _ _ _ _ ?_; show P _ _ _ _ _ _)
        obtain rfl : k = n := by omega
        exact hP _ _ _ _ _ _ (h)
      · exact absurd (by rw [hnn]; exact nI_le (by omega) (by omega)) hc
    | succ m ih =>
      intro k hk
      refine hP _ _ _ _ _ _ (And.intro (fun hc => ?_) (fun hc => ?_))
      · exact absurd hc (by rw [hnn]; exact nI_ge (by omega) (by omega))
      · repeat (first | (refine hP _ _ _ _ _ _ ?_; show P _ _ _ _ _ _) | refine hP _ _ _ _ _ _ (And.intro (hN _ _ _ rfl) ?_))
        refine hP _ _ _ _ _ _ (sp_owes (by omega) hN hn hnn (by omega) ?_)
        repeat (first | (refine hP _ _ _ _ _ _ ?_; show P _ _ _ _ _ _) | refine hP _ _ _ _ _ _ (And.intro (hN _ _ _ rfl) ?_))
        have := ih (k + 1) (by omega)
        rw [nI_succ] at this
        exact this
  repeat (refine hP _ _ _ _ _ _ ?_; show P _ _ _ _ _ _)
  exact loop n 0 (by omega)
/-- the names, of one, owing o -/
def nmF (S : St) (f n a : Nat) (o : Int32) : Nat → Int32 := fun k => match k with
  | 0 => o
  | 1 => sm (fun x => S.1 14 f (5 * x + a)) n
  | 2 => S.1 12 f a
  | 3 => S.1 10 f 2
  | 4 => S.1 13 f a
  | _ => S.1 10 f 3
/-- a part's value, of one -/
def vlF (tv : Nat → Nat → (Nat → Int32) → Int32) (S : St) (f n t p a : Nat) (o : Int32) : Int32 := if p = 1 then tv t p (nmF S f n a o) else wI (tv t p (nmF S f n a o)) 99
theorem sp_value {d : Nat} {S : St} {K : KT} {f a n t p nT : Nat} {o : Int32} {tv : Nat → Nat → (Nat → Int32) → Int32} (hd : 2 ≤ d) (hN : NN S) (hn : n ≤ 5) (hnn : S.1 10 f 1 = nI n) (ht : t < nT) (htt : S.1 10 f 4 = nI t) (hp : p < 3) (hR : RV S nT tv) (ha : a < 5) (h : ∀ S', Sc S S' → K (some (aI (vlF tv S f n t p a o))) S') : Call d m_X0_value [aR 10 f, aI (nI p), aI (nI a), aI o] S K := by
  refine Call.of (k := 1) hd (fun e he P hP => ?_)
  repeat (first | (refine hP _ _ _ _ _ _ ?_; show P _ _ _ _ _ _) | refine hP _ _ _ _ _ _ (And.intro (hN _ _ _ rfl) ?_))
  refine hP _ _ _ _ _ _ (Exists.intro (0) (And.intro (And.intro (rfl) (show 0 < 6 by decide)) ?_))
  repeat (first | (refine hP _ _ _ _ _ _ ?_; show P _ _ _ _ _ _) | refine hP _ _ _ _ _ _ (And.intro (hN _ _ _ rfl) ?_))
  refine hP _ _ _ _ _ _ (sp_owedTo (by omega) hN hn hnn ha ?_)
  repeat (first | (refine hP _ _ _ _ _ _ ?_; show P _ _ _ _ _ _) | refine hP _ _ _ _ _ _ (And.intro (hN _ _ _ rfl) ?_))
  refine hP _ _ _ _ _ _ (Exists.intro (1) (And.intro (And.intro (rfl) (show 1 < 6 by decide)) ?_))
  repeat (first | (refine hP _ _ _ _ _ _ ?_; show P _ _ _ _ _ _) | refine hP _ _ _ _ _ _ (And.intro (hN _ _ _ rfl) ?_))
  refine hP _ _ _ _ _ _ (Exists.intro (a) (And.intro (And.intro (rfl) (show a < 5 from ha)) ?_))
  repeat (first | (refine hP _ _ _ _ _ _ ?_; show P _ _ _ _ _ _) | refine hP _ _ _ _ _ _ (And.intro (hN _ _ _ rfl) ?_))
  refine hP _ _ _ _ _ _ (Exists.intro (2) (And.intro (And.intro (rfl) (show 2 < 6 by decide)) ?_))
  repeat (first | (refine hP _ _ _ _ _ _ ?_; show P _ _ _ _ _ _) | refine hP _ _ _ _ _ _ (And.intro (hN _ _ _ rfl) ?_))
  refine hP _ _ _ _ _ _ (Exists.intro (3) (And.intro (And.intro (rfl) (show 3 < 6 by decide)) ?_))
  repeat (first | (refine hP _ _ _ _ _ _ ?_; show P _ _ _ _ _ _) | refine hP _ _ _ _ _ _ (And.intro (hN _ _ _ rfl) ?_))
  refine hP _ _ _ _ _ _ (Exists.intro (a) (And.intro (And.intro (rfl) (show a < 5 from ha)) ?_))
  repeat (first | (refine hP _ _ _ _ _ _ ?_; show P _ _ _ _ _ _) | refine hP _ _ _ _ _ _ (And.intro (hN _ _ _ rfl) ?_))
  refine hP _ _ _ _ _ _ (Exists.intro (4) (And.intro (And.intro (rfl) (show 4 < 6 by decide)) ?_))
  repeat (first | (refine hP _ _ _ _ _ _ ?_; show P _ _ _ _ _ _) | refine hP _ _ _ _ _ _ (And.intro (hN _ _ _ rfl) ?_))
  refine hP _ _ _ _ _ _ (Exists.intro (5) (And.intro (And.intro (rfl) (show 5 < 6 by decide)) ?_))
  repeat (first | (refine hP _ _ _ _ _ _ ?_; show P _ _ _ _ _ _) | refine hP _ _ _ _ _ _ (And.intro (hN _ _ _ rfl) ?_))
  show P _ _ _ (ivSet (ivSet (ivSet (ivSet (ivSet (ivSet S 4 0 0 o) 4 0 1 (sm (fun x => S.1 14 f (5 * x + a)) n)) 4 0 2 (S.1 12 f a)) 4 0 3 (S.1 10 f 2)) 4 0 4 (S.1 13 f a)) 4 0 5 (S.1 10 f 3)) _ _
  generalize hS1 : ivSet (ivSet (ivSet (ivSet (ivSet (ivSet S 4 0 0 o) 4 0 1 (sm (fun x => S.1 14 f (5 * x + a)) n)) 4 0 2 (S.1 12 f a)) 4 0 3 (S.1 10 f 2)) 4 0 4 (S.1 13 f a)) 4 0 5 (S.1 10 f 3) = S1
  have hS : Sc S S1 := by
    rw [← hS1]
    exact Sc.tr (Sc.tr (Sc.tr (Sc.tr (Sc.tr (Sc.st rfl) (Sc.st rfl)) (Sc.st rfl)) (Sc.st rfl)) (Sc.st rfl)) (Sc.st rfl)
  have hnm : ∀ k, k < 6 → S1.1 4 0 k = nmF S f n a o k := by
    intro k hk
    rw [← hS1]
    rcases (show k = 0 ∨ k = 1 ∨ k = 2 ∨ k = 3 ∨ k = 4 ∨ k = 5 by omega) with rfl | rfl | rfl | rfl | rfl | rfl <;> rfl
  show P 68 [some (aR 10 f), some (aI (nI p)), some (aI (nI a)), some (aI o), some (aR 4 0), none] [aI (nI p), aI (S.1 10 f 4), aR 1 0] S1 0 0
  rw [htt]
  have hN := hS.nn hN
  refine hP _ _ _ _ _ _ (hR e S1 _ t p (nmF S f n a o) (by omega) hS.tx ht hp hnm (fun S' hS' => ?_))
  · have hSS := hS.tr hS'
    have h := h S' hSS
    repeat (first | (refine hP _ _ _ _ _ _ ?_; show P _ _ _ _ _ _) | refine hP _ _ _ _ _ _ (And.intro (hN _ _ _ rfl) ?_))
    refine hP _ _ _ _ _ _ (And.intro (fun hc => ?_) (fun hc => ?_))
    · have hp1 : ¬ p = 1 := fun z => hc (by rw [z]; rfl)
      simp only [vlF, if_neg hp1] at h
      repeat (first | (refine hP _ _ _ _ _ _ ?_; show P _ _ _ _ _ _) | refine hP _ _ _ _ _ _ (And.intro (hN _ _ _ rfl) ?_))
      refine hP _ _ _ _ _ _ (sp_within (by omega) ?_)
      exact hP _ _ _ _ _ _ (h)
    · have hp1 : p = 1 := by
        have := (nI_eq (a := p) (b := 1) (by omega) (by omega)).mp hc
        exact this
      simp only [vlF, if_pos hp1] at h
      repeat (first | (refine hP _ _ _ _ _ _ ?_; show P _ _ _ _ _ _) | refine hP _ _ _ _ _ _ (And.intro (hN _ _ _ rfl) ?_))
      exact hP _ _ _ _ _ _ (h)

def swF (x : Int32) : List (Int32 × Nat) → Nat → Nat
  | [], d => d
  | a :: l, d => if x = a.1 then a.2 else swF x l d
theorem swP_to {x : Int32} {P : Nat → Prop} : ∀ {sw : List (Int32 × Nat)} {d : Nat}, P (swF x sw d) → swP x P sw d
  | [], _, h => h
  | a :: l, d, h => ⟨fun hx => by
      simp only [swF, if_pos hx] at h
      exact h, fun hx => by
      simp only [swF, if_neg hx] at h
      exact swP_to h⟩
/-- a floor that is in order: n dancers, THE RULE is text t of nT -/
def FO (tv : Nat → Nat → (Nat → Int32) → Int32) (S : St) (f n t nT : Nat) : Prop := NN S ∧ n ≤ 5 ∧ S.1 10 f 1 = nI n ∧ t < nT ∧ S.1 10 f 4 = nI t ∧ RV S nT tv ∧ ∀ a, a < n → ∃ k, k ≤ 5 ∧ S.1 11 f a = nI k
theorem FO.up {tv : Nat → Nat → (Nat → Int32) → Int32} {S S1 : St} {f n t nT : Nat} (h : FO tv S f n t nT) (hS : Sc S S1) : FO tv S1 f n t nT := by
  obtain ⟨h1, h2, h3, h4, h5, h6, h7⟩ := h
  exact ⟨hS.nn h1, h2, by rw [hS.1 10 rfl]; exact h3, h4, by rw [hS.1 10 rfl]; exact h5, h6.up hS.tx, by rw [hS.1 11 rfl]; exact h7⟩
theorem FO.value {tv : Nat → Nat → (Nat → Int32) → Int32} {d : Nat} {S : St} {K : KT} {f a n t p nT : Nat} {o : Int32} (hF : FO tv S f n t nT) (hd : 2 ≤ d) (hp : p < 3) (ha : a < n) (h : ∀ S', Sc S S' → K (some (aI (vlF tv S f n t p a o))) S') : Call d m_X0_value [aR 10 f, aI (nI p), aI (nI a), aI o] S K := by
  obtain ⟨h1, h2, h3, h4, h5, h6, h7⟩ := hF
  exact sp_value hd h1 h2 h3 h4 h5 hp h6 (by omega) h
theorem vlF_c {tv : Nat → Nat → (Nat → Int32) → Int32} {S S1 : St} {f n t p a : Nat} {o : Int32} (h : Sc S S1) : vlF tv S1 f n t p a o = vlF tv S f n t p a o := by
  have e : nmF S1 f n a o = nmF S f n a o := by
    funext k
    unfold nmF
    rw [h.1 10 rfl, h.1 12 rfl, h.1 13 rfl, h.1 14 rfl]
  simp only [vlF, e]
/-- what one pays, owing o -/
def pyF (tv : Nat → Nat → (Nat → Int32) → Int32) (S : St) (f n t a : Nat) (o : Int32) : Int32 :=
  wI (if S.1 11 f a = 1 then 2 * vlF tv S f n t 0 a o
    else if S.1 11 f a = 2 then 1
    else if S.1 11 f a = 3 then 2 * vlF tv S f n t 0 a o + (if S.1 10 f 2 - S.1 10 f 2 / 2 * 2 = 0 then S.1 12 f a else 0)
    else if S.1 11 f a = 4 then o
    else if S.1 11 f a = 5 then 0
    else vlF tv S f n t 0 a o) o
theorem sp_pays {tv : Nat → Nat → (Nat → Int32) → Int32} {d : Nat} {S : St} {K : KT} {f a n t nT : Nat} {o : Int32} (hd : 3 ≤ d) (hF : FO tv S f n t nT) (ha : a < n) (h : ∀ S', Sc S S' → K (some (aI (pyF tv S f n t a o))) S') : Call d m_X0_pays [aR 10 f, aI (nI a), aI o] S K := by
  refine Call.of (k := 2) hd (fun e he P hP => ?_)
  have hN := hF.1
  have hn := hF.2.1
  obtain ⟨k, hk5, hk⟩ := hF.2.2.2.2.2.2 a ha
  have fin : ∀ (S' : St) (x : Int32), Sc S S' → pyF tv S f n t a o = wI x o → P 111 [some (aR 10 f), some (aI (nI a)), some (aI o), some (aI x)] [aI o, aI x] S' 0 0 := by
    intro S' x hS hx
    refine hP _ _ _ _ _ _ (sp_within (by omega) ?_)
    have h := h S' hS
    rw [hx] at h
    exact hP _ _ _ _ _ _ (h)
  repeat (first | (refine hP _ _ _ _ _ _ ?_; show P _ _ _ _ _ _) | refine hP _ _ _ _ _ _ (And.intro (hN _ _ _ rfl) ?_))
  refine hP _ _ _ _ _ _ (Exists.intro (a) (And.intro (And.intro (rfl) (show a < 5 by omega)) ?_))
  repeat (first | (refine hP _ _ _ _ _ _ ?_; show P _ _ _ _ _ _) | refine hP _ _ _ _ _ _ (And.intro (hN _ _ _ rfl) ?_))
  refine hP _ _ _ _ _ _ (swP_to ?_)
  have hk2 : S.1 (frf (10, f).fst (10, f).snd 5).fst (frf (10, f).fst (10, f).snd 5).snd a = nI k := hk
  rw [hk2]
  rcases (show k = 0 ∨ k = 1 ∨ k = 2 ∨ k = 3 ∨ k = 4 ∨ k = 5 by omega) with rfl | rfl | rfl | rfl | rfl | rfl
  · show P 101 _ _ _ _ _
    repeat (first | (refine hP _ _ _ _ _ _ ?_; show P _ _ _ _ _ _) | refine hP _ _ _ _ _ _ (And.intro (hN _ _ _ rfl) ?_))
    refine hP _ _ _ _ _ _ (FO.value (p := 0) hF (by omega) (by omega) ha (fun S' hS => ?_))
    repeat (first | (refine hP _ _ _ _ _ _ ?_; show P _ _ _ _ _ _) | refine hP _ _ _ _ _ _ (And.intro (hN _ _ _ rfl) ?_))
    refine fin S' _ hS ?_
    simp [pyF, hk, nI]
  · show P 40 _ _ _ _ _
    repeat (first | (refine hP _ _ _ _ _ _ ?_; show P _ _ _ _ _ _) | refine hP _ _ _ _ _ _ (And.intro (hN _ _ _ rfl) ?_))
    refine hP _ _ _ _ _ _ (FO.value (p := 0) hF (by omega) (by omega) ha (fun S' hS => ?_))
    repeat (first | (refine hP _ _ _ _ _ _ ?_; show P _ _ _ _ _ _) | refine hP _ _ _ _ _ _ (And.intro (hN _ _ _ rfl) ?_))
    refine fin S' _ hS ?_
    simp [pyF, hk, nI]
  · show P 53 _ _ _ _ _
    repeat (first | (refine hP _ _ _ _ _ _ ?_; show P _ _ _ _ _ _) | refine hP _ _ _ _ _ _ (And.intro (hN _ _ _ rfl) ?_))
    refine fin S _ (Sc.rf S) ?_
    simp [pyF, hk, nI]
  · show P 58 _ _ _ _ _
    repeat (first | (refine hP _ _ _ _ _ _ ?_; show P _ _ _ _ _ _) | refine hP _ _ _ _ _ _ (And.intro (hN _ _ _ rfl) ?_))
    refine hP _ _ _ _ _ _ (FO.value (p := 0) hF (by omega) (by omega) ha (fun S' hS => ?_))
    have hN := hS.nn hN
    repeat (first | (refine hP _ _ _ _ _ _ ?_; show P _ _ _ _ _ _) | refine hP _ _ _ _ _ _ (And.intro (hN _ _ _ rfl) ?_))
    refine hP _ _ _ _ _ _ (And.intro (by decide) ?_)
    repeat (first | (refine hP _ _ _ _ _ _ ?_; show P _ _ _ _ _ _) | refine hP _ _ _ _ _ _ (And.intro (hN _ _ _ rfl) ?_))
    refine hP _ _ _ _ _ _ (And.intro (fun hc => ?_) (fun hc => ?_))
    · repeat (first | (refine hP _ _ _ _ _ _ ?_; show P _ _ _ _ _ _) | refine hP _ _ _ _ _ _ (And.intro (hN _ _ _ rfl) ?_))
      refine fin S' _ hS ?_
      have hc' : ¬ S.1 10 f 2 - S.1 10 f 2 / 2 * 2 = 0 := by
        rw [← hS.1 10 rfl]
        exact hc
      simp [pyF, hk, nI, hc']
    · repeat (first | (refine hP _ _ _ _ _ _ ?_; show P _ _ _ _ _ _) | refine hP _ _ _ _ _ _ (And.intro (hN _ _ _ rfl) ?_))
      refine hP _ _ _ _ _ _ (Exists.intro (a) (And.intro (And.intro (rfl) (show a < 5 by omega)) ?_))
      repeat (first | (refine hP _ _ _ _ _ _ ?_; show P _ _ _ _ _ _) | refine hP _ _ _ _ _ _ (And.intro (hN _ _ _ rfl) ?_))
      refine fin S' _ hS ?_
      have hc' : S.1 10 f 2 - S.1 10 f 2 / 2 * 2 = 0 := by
        rw [← hS.1 10 rfl]
        exact hc
      have e12 : S'.1 12 f a = S.1 12 f a := by rw [hS.1 12 rfl]
      show _ = wI (2 * vlF tv S f n t 0 a o + S'.1 12 f a) o
      simp [pyF, hk, nI, hc', e12]
  · show P 91 _ _ _ _ _
    repeat (first | (refine hP _ _ _ _ _ _ ?_; show P _ _ _ _ _ _) | refine hP _ _ _ _ _ _ (And.intro (hN _ _ _ rfl) ?_))
    refine fin S _ (Sc.rf S) ?_
    simp [pyF, hk, nI]
  · show P 96 _ _ _ _ _
    repeat (first | (refine hP _ _ _ _ _ _ ?_; show P _ _ _ _ _ _) | refine hP _ _ _ _ _ _ (And.intro (hN _ _ _ rfl) ?_))
    refine fin S _ (Sc.rf S) ?_
    simp [pyF, hk, nI]

def b2 (b : Bool) : Int32 := cond b 1 0
def brF (tv : Nat → Nat → (Nat → Int32) → Int32) (S : St) (f n t a : Nat) : Int32 :=
  wI (if S.1 11 f a = 1 then vlF tv S f n t 2 a 0 + 3
    else if S.1 11 f a = 2 then vlF tv S f n t 2 a 0 / 2
    else if S.1 11 f a = 3 then vlF tv S f n t 2 a 0 + 3
    else if S.1 11 f a = 4 then 99
    else if S.1 11 f a = 5 then S.1 12 f a
    else vlF tv S f n t 2 a 0) 99
theorem sp_breath {tv : Nat → Nat → (Nat → Int32) → Int32} {d : Nat} {S : St} {K : KT} {f a n t nT : Nat} (hd : 3 ≤ d) (hF : FO tv S f n t nT) (ha : a < n) (h : ∀ S', Sc S S' → K (some (aI (brF tv S f n t a))) S') : Call d m_X0_breath [aR 10 f, aI (nI a)] S K := by
  refine Call.of (k := 2) hd (fun e he P hP => ?_)
  have hN := hF.1
  have hn := hF.2.1
  obtain ⟨k, hk5, hk⟩ := hF.2.2.2.2.2.2 a ha
  have fin : ∀ (S' : St) (x : Int32), Sc S S' → brF tv S f n t a = wI x 99 → P 93 [some (aR 10 f), some (aI (nI a)), some (aI x)] [aI 99, aI x] S' 0 0 := by
    intro S' x hS hx
    refine hP _ _ _ _ _ _ (sp_within (by omega) ?_)
    have h := h S' hS
    rw [hx] at h
    exact hP _ _ _ _ _ _ (h)
  repeat (first | (refine hP _ _ _ _ _ _ ?_; show P _ _ _ _ _ _) | refine hP _ _ _ _ _ _ (And.intro (hN _ _ _ rfl) ?_))
  refine hP _ _ _ _ _ _ (Exists.intro (a) (And.intro (And.intro (rfl) (show a < 5 by omega)) ?_))
  repeat (first | (refine hP _ _ _ _ _ _ ?_; show P _ _ _ _ _ _) | refine hP _ _ _ _ _ _ (And.intro (hN _ _ _ rfl) ?_))
  refine hP _ _ _ _ _ _ (swP_to ?_)
  have hk2 : S.1 (frf (10, f).fst (10, f).snd 5).fst (frf (10, f).fst (10, f).snd 5).snd a = nI k := hk
  rw [hk2]
  rcases (show k = 0 ∨ k = 1 ∨ k = 2 ∨ k = 3 ∨ k = 4 ∨ k = 5 by omega) with rfl | rfl | rfl | rfl | rfl | rfl
  · show P 82 _ _ _ _ _
    repeat (first | (refine hP _ _ _ _ _ _ ?_; show P _ _ _ _ _ _) | refine hP _ _ _ _ _ _ (And.intro (hN _ _ _ rfl) ?_))
    refine hP _ _ _ _ _ _ (FO.value (p := 2) hF (by omega) (by omega) ha (fun S' hS => ?_))
    repeat (first | (refine hP _ _ _ _ _ _ ?_; show P _ _ _ _ _ _) | refine hP _ _ _ _ _ _ (And.intro (hN _ _ _ rfl) ?_))
    refine fin S' _ hS ?_
    simp [brF, hk, nI]
  · show P 40 _ _ _ _ _
    repeat (first | (refine hP _ _ _ _ _ _ ?_; show P _ _ _ _ _ _) | refine hP _ _ _ _ _ _ (And.intro (hN _ _ _ rfl) ?_))
    refine hP _ _ _ _ _ _ (FO.value (p := 2) hF (by omega) (by omega) ha (fun S' hS => ?_))
    repeat (first | (refine hP _ _ _ _ _ _ ?_; show P _ _ _ _ _ _) | refine hP _ _ _ _ _ _ (And.intro (hN _ _ _ rfl) ?_))
    refine fin S' _ hS ?_
    simp [brF, hk, nI]
  · show P 53 _ _ _ _ _
    repeat (first | (refine hP _ _ _ _ _ _ ?_; show P _ _ _ _ _ _) | refine hP _ _ _ _ _ _ (And.intro (hN _ _ _ rfl) ?_))
    refine hP _ _ _ _ _ _ (FO.value (p := 2) hF (by omega) (by omega) ha (fun S' hS => ?_))
    repeat (first | (refine hP _ _ _ _ _ _ ?_; show P _ _ _ _ _ _) | refine hP _ _ _ _ _ _ (And.intro (hN _ _ _ rfl) ?_))
    refine hP _ _ _ _ _ _ (And.intro (by decide) ?_)
    repeat (first | (refine hP _ _ _ _ _ _ ?_; show P _ _ _ _ _ _) | refine hP _ _ _ _ _ _ (And.intro (hN _ _ _ rfl) ?_))
    refine fin S' _ hS ?_
    simp [brF, hk, nI]
  · show P 40 _ _ _ _ _
    repeat (first | (refine hP _ _ _ _ _ _ ?_; show P _ _ _ _ _ _) | refine hP _ _ _ _ _ _ (And.intro (hN _ _ _ rfl) ?_))
    refine hP _ _ _ _ _ _ (FO.value (p := 2) hF (by omega) (by omega) ha (fun S' hS => ?_))
    repeat (first | (refine hP _ _ _ _ _ _ ?_; show P _ _ _ _ _ _) | refine hP _ _ _ _ _ _ (And.intro (hN _ _ _ rfl) ?_))
    refine fin S' _ hS ?_
    simp [brF, hk, nI]
  · show P 66 _ _ _ _ _
    repeat (first | (refine hP _ _ _ _ _ _ ?_; show P _ _ _ _ _ _) | refine hP _ _ _ _ _ _ (And.intro (hN _ _ _ rfl) ?_))
    refine fin S _ (Sc.rf S) ?_
    simp [brF, hk, nI]
  · show P 72 _ _ _ _ _
    repeat (first | (refine hP _ _ _ _ _ _ ?_; show P _ _ _ _ _ _) | refine hP _ _ _ _ _ _ (And.intro (hN _ _ _ rfl) ?_))
    refine hP _ _ _ _ _ _ (Exists.intro (a) (And.intro (And.intro (rfl) (show a < 5 by omega)) ?_))
    repeat (first | (refine hP _ _ _ _ _ _ ?_; show P _ _ _ _ _ _) | refine hP _ _ _ _ _ _ (And.intro (hN _ _ _ rfl) ?_))
    refine fin S _ (Sc.rf S) ?_
    show _ = wI (S.1 12 f a) 99
    simp [brF, hk, nI]
/-- whether one will dance with b -/
def wlF (tv : Nat → Nat → (Nat → Int32) → Int32) (S : St) (f n t a b : Nat) : Bool :=
  if S.1 11 f a = 1 then true
  else if S.1 11 f a = 2 then decide (0 < S.1 14 f (5 * b + a)) && decide (¬ vlF tv S f n t 1 a (S.1 14 f (5 * a + b)) = 0)
  else if S.1 11 f a = 3 then decide (¬ S.1 13 f a = S.1 12 f a)
  else if S.1 11 f a = 4 then decide (sm (fun x => S.1 14 f (5 * x + a)) n = 0) || (decide (0 < S.1 14 f (5 * b + a)) && decide (¬ vlF tv S f n t 1 a (S.1 14 f (5 * a + b)) = 0))
  else if S.1 11 f a = 5 then false
  else decide (¬ vlF tv S f n t 1 a (S.1 14 f (5 * a + b)) = 0)
theorem sp_will {tv : Nat → Nat → (Nat → Int32) → Int32} {d : Nat} {S : St} {K : KT} {f a b n t nT : Nat} (hd : 3 ≤ d) (hF : FO tv S f n t nT) (ha : a < n) (hb : b < n) (h : ∀ S', Sc S S' → K (some (aI (b2 (wlF tv S f n t a b)))) S') : Call d m_X0_will [aR 10 f, aI (nI a), aI (nI b)] S K := by
  refine Call.of (k := 2) hd (fun e he P hP => ?_)
  have hN := hF.1
  have hn := hF.2.1
  obtain ⟨k, hk5, hk⟩ := hF.2.2.2.2.2.2 a ha
  have mid : ∀ (w : Bool), w = decide (0 < S.1 14 f (5 * b + a)) → P 28 [some (aR 10 f), some (aI (nI a)), some (aI (nI b)), some (aI (S.1 14 f (5 * a + b))), some (aI (b2 w))] [aI (nI a), aR 11 f] S 0 0 := by
    intro w hw
    refine hP _ _ _ _ _ _ (Exists.intro (a) (And.intro (And.intro (rfl) (show a < 5 by omega)) ?_))
    repeat (first | (refine hP _ _ _ _ _ _ ?_; show P _ _ _ _ _ _) | refine hP _ _ _ _ _ _ (And.intro (hN _ _ _ rfl) ?_))
    refine hP _ _ _ _ _ _ (swP_to ?_)
    rw [hk]
    have pick : ∀ (S' : St), Sc S S' → wlF tv S f n t a b = true → P 64 [some (aR 10 f), some (aI (nI a)), some (aI (nI b)), some (aI (S.1 14 f (5 * a + b))), some (aI (b2 w))] [] S' 0 0 := by
      intro S' hS hx
      repeat (first | (refine hP _ _ _ _ _ _ ?_; show P _ _ _ _ _ _) | refine hP _ _ _ _ _ _ (And.intro (hN _ _ _ rfl) ?_))
      have h := h S' hS
      rw [hx] at h
      refine hP _ _ _ _ _ _ (And.intro (Or.inr rfl) h)
    rcases (show k = 0 ∨ k = 1 ∨ k = 2 ∨ k = 3 ∨ k = 4 ∨ k = 5 by omega) with rfl | rfl | rfl | rfl | rfl | rfl
    · show P 139 _ _ _ _ _
      repeat (first | (refine hP _ _ _ _ _ _ ?_; show P _ _ _ _ _ _) | refine hP _ _ _ _ _ _ (And.intro (hN _ _ _ rfl) ?_))
      refine hP _ _ _ _ _ _ (FO.value (p := 1) hF (by omega) (by omega) ha (fun S' hS => ?_))
      repeat (first | (refine hP _ _ _ _ _ _ ?_; show P _ _ _ _ _ _) | refine hP _ _ _ _ _ _ (And.intro (hN _ _ _ rfl) ?_))
      have h := h S' hS
      refine hP _ _ _ _ _ _ (And.intro (fun hc => ?_) (fun hc => ?_))
      · repeat (first | (refine hP _ _ _ _ _ _ ?_; show P _ _ _ _ _ _) | refine hP _ _ _ _ _ _ (And.intro (hN _ _ _ rfl) ?_))
        have hx : wlF tv S f n t a b = false := by simp [wlF, hk, nI, hc]
        rw [hx] at h
        refine hP _ _ _ _ _ _ (And.intro (Or.inl rfl) h)
      · repeat (first | (refine hP _ _ _ _ _ _ ?_; show P _ _ _ _ _ _) | refine hP _ _ _ _ _ _ (And.intro (hN _ _ _ rfl) ?_))
        have hx : wlF tv S f n t a b = true := by simp [wlF, hk, nI, hc]
        rw [hx] at h
        refine hP _ _ _ _ _ _ (And.intro (Or.inr rfl) h)
    · exact pick S (Sc.rf S) (by simp [wlF, hk, nI])
    · show P 66 _ _ _ _ _
      repeat (first | (refine hP _ _ _ _ _ _ ?_; show P _ _ _ _ _ _) | refine hP _ _ _ _ _ _ (And.intro (hN _ _ _ rfl) ?_))
      refine hP _ _ _ _ _ _ (And.intro (fun hc => ?_) (fun hc => ?_))
      · repeat (first | (refine hP _ _ _ _ _ _ ?_; show P _ _ _ _ _ _) | refine hP _ _ _ _ _ _ (And.intro (hN _ _ _ rfl) ?_))
        have hw0 : w = false := by cases w <;> simp_all [b2]
        have h := h S (Sc.rf S)
        have hx : wlF tv S f n t a b = false := by
          have : decide (0 < S.1 14 f (5 * b + a)) = false := by rw [← hw, hw0]
          simp [wlF, hk, nI, this]
        rw [hx] at h
        refine hP _ _ _ _ _ _ (And.intro (Or.inl rfl) h)
      · have hw1 : decide (0 < S.1 14 f (5 * b + a)) = true := by
          rw [← hw]
          cases w <;> simp_all [b2]
        repeat (first | (refine hP _ _ _ _ _ _ ?_; show P _ _ _ _ _ _) | refine hP _ _ _ _ _ _ (And.intro (hN _ _ _ rfl) ?_))
        refine hP _ _ _ _ _ _ (FO.value (p := 1) hF (by omega) (by omega) ha (fun S' hS => ?_))
        repeat (first | (refine hP _ _ _ _ _ _ ?_; show P _ _ _ _ _ _) | refine hP _ _ _ _ _ _ (And.intro (hN _ _ _ rfl) ?_))
        have h := h S' hS
        refine hP _ _ _ _ _ _ (And.intro (fun hc2 => ?_) (fun hc2 => ?_))
        · repeat (first | (refine hP _ _ _ _ _ _ ?_; show P _ _ _ _ _ _) | refine hP _ _ _ _ _ _ (And.intro (hN _ _ _ rfl) ?_))
          have hx : wlF tv S f n t a b = false := by simp [wlF, hk, nI, hc2]
          rw [hx] at h
          refine hP _ _ _ _ _ _ (And.intro (Or.inl rfl) h)
        · repeat (first | (refine hP _ _ _ _ _ _ ?_; show P _ _ _ _ _ _) | refine hP _ _ _ _ _ _ (And.intro (hN _ _ _ rfl) ?_))
          have hx : wlF tv S f n t a b = true := by
            simp only [wlF, hk, hw1]
            simp [nI, hc2]
          rw [hx] at h
          refine hP _ _ _ _ _ _ (And.intro (Or.inr rfl) h)
    · show P 87 _ _ _ _ _
      repeat (first | (refine hP _ _ _ _ _ _ ?_; show P _ _ _ _ _ _) | refine hP _ _ _ _ _ _ (And.intro (hN _ _ _ rfl) ?_))
      refine hP _ _ _ _ _ _ (Exists.intro (a) (And.intro (And.intro (rfl) (show a < 5 by omega)) ?_))
      repeat (first | (refine hP _ _ _ _ _ _ ?_; show P _ _ _ _ _ _) | refine hP _ _ _ _ _ _ (And.intro (hN _ _ _ rfl) ?_))
      refine hP _ _ _ _ _ _ (Exists.intro (a) (And.intro (And.intro (rfl) (show a < 5 by omega)) ?_))
      repeat (first | (refine hP _ _ _ _ _ _ ?_; show P _ _ _ _ _ _) | refine hP _ _ _ _ _ _ (And.intro (hN _ _ _ rfl) ?_))
      have h := h S (Sc.rf S)
      refine hP _ _ _ _ _ _ (And.intro (fun hc => ?_) (fun hc => ?_))
      · repeat (first | (refine hP _ _ _ _ _ _ ?_; show P _ _ _ _ _ _) | refine hP _ _ _ _ _ _ (And.intro (hN _ _ _ rfl) ?_))
        have hc' : S.1 13 f a = S.1 12 f a := hc
        have hx : wlF tv S f n t a b = false := by simp [wlF, hk, nI, hc']
        rw [hx] at h
        refine hP _ _ _ _ _ _ (And.intro (Or.inl rfl) h)
      · repeat (first | (refine hP _ _ _ _ _ _ ?_; show P _ _ _ _ _ _) | refine hP _ _ _ _ _ _ (And.intro (hN _ _ _ rfl) ?_))
        have hc' : ¬ S.1 13 f a = S.1 12 f a := hc
        have hx : wlF tv S f n t a b = true := by simp [wlF, hk, nI, hc']
        rw [hx] at h
        refine hP _ _ _ _ _ _ (And.intro (Or.inr rfl) h)
    · show P 108 _ _ _ _ _
      repeat (first | (refine hP _ _ _ _ _ _ ?_; show P _ _ _ _ _ _) | refine hP _ _ _ _ _ _ (And.intro (hN _ _ _ rfl) ?_))
      refine hP _ _ _ _ _ _ (sp_owedTo (by omega) hN hn hF.2.2.1 (by omega) ?_)
      repeat (first | (refine hP _ _ _ _ _ _ ?_; show P _ _ _ _ _ _) | refine hP _ _ _ _ _ _ (And.intro (hN _ _ _ rfl) ?_))
      refine hP _ _ _ _ _ _ (And.intro (fun hc => ?_) (fun hc => ?_))
      · repeat (first | (refine hP _ _ _ _ _ _ ?_; show P _ _ _ _ _ _) | refine hP _ _ _ _ _ _ (And.intro (hN _ _ _ rfl) ?_))
        have h := h S (Sc.rf S)
        have hx : wlF tv S f n t a b = true := by simp [wlF, hk, nI, hc]
        rw [hx] at h
        refine hP _ _ _ _ _ _ (And.intro (Or.inr rfl) h)
      · repeat (first | (refine hP _ _ _ _ _ _ ?_; show P _ _ _ _ _ _) | refine hP _ _ _ _ _ _ (And.intro (hN _ _ _ rfl) ?_))
        refine hP _ _ _ _ _ _ (And.intro (fun hc1 => ?_) (fun hc1 => ?_))
        · repeat (first | (refine hP _ _ _ _ _ _ ?_; show P _ _ _ _ _ _) | refine hP _ _ _ _ _ _ (And.intro (hN _ _ _ rfl) ?_))
          have hw0 : w = false := by cases w <;> simp_all [b2]
          have h := h S (Sc.rf S)
          have hx : wlF tv S f n t a b = false := by
            have : decide (0 < S.1 14 f (5 * b + a)) = false := by rw [← hw, hw0]
            simp [wlF, hk, nI, this, hc]
          rw [hx] at h
          refine hP _ _ _ _ _ _ (And.intro (Or.inl rfl) h)
        · have hw1 : decide (0 < S.1 14 f (5 * b + a)) = true := by
            rw [← hw]
            cases w <;> simp_all [b2]
          repeat (first | (refine hP _ _ _ _ _ _ ?_; show P _ _ _ _ _ _) | refine hP _ _ _ _ _ _ (And.intro (hN _ _ _ rfl) ?_))
          refine hP _ _ _ _ _ _ (FO.value (p := 1) hF (by omega) (by omega) ha (fun S' hS => ?_))
          repeat (first | (refine hP _ _ _ _ _ _ ?_; show P _ _ _ _ _ _) | refine hP _ _ _ _ _ _ (And.intro (hN _ _ _ rfl) ?_))
          have h := h S' hS
          refine hP _ _ _ _ _ _ (And.intro (fun hc2 => ?_) (fun hc2 => ?_))
          · repeat (first | (refine hP _ _ _ _ _ _ ?_; show P _ _ _ _ _ _) | refine hP _ _ _ _ _ _ (And.intro (hN _ _ _ rfl) ?_))
            have hx : wlF tv S f n t a b = false := by simp [wlF, hk, nI, hc2, hc]
            rw [hx] at h
            refine hP _ _ _ _ _ _ (And.intro (Or.inl rfl) h)
          · repeat (first | (refine hP _ _ _ _ _ _ ?_; show P _ _ _ _ _ _) | refine hP _ _ _ _ _ _ (And.intro (hN _ _ _ rfl) ?_))
            have hx : wlF tv S f n t a b = true := by
              simp only [wlF, hk, hw1]
              simp [nI, hc2]
            rw [hx] at h
            refine hP _ _ _ _ _ _ (And.intro (Or.inr rfl) h)
    · show P 137 _ _ _ _ _
      repeat (first | (refine hP _ _ _ _ _ _ ?_; show P _ _ _ _ _ _) | refine hP _ _ _ _ _ _ (And.intro (hN _ _ _ rfl) ?_))
      have h := h S (Sc.rf S)
      have hx : wlF tv S f n t a b = false := by simp [wlF, hk, nI]
      rw [hx] at h
      refine hP _ _ _ _ _ _ (And.intro (Or.inl rfl) h)
  repeat (first | (refine hP _ _ _ _ _ _ ?_; show P _ _ _ _ _ _) | refine hP _ _ _ _ _ _ (And.intro (hN _ _ _ rfl) ?_))
  refine hP _ _ _ _ _ _ (sp_owing (by omega) hN (by omega) (by omega) ?_)
  repeat (first | (refine hP _ _ _ _ _ _ ?_; show P _ _ _ _ _ _) | refine hP _ _ _ _ _ _ (And.intro (hN _ _ _ rfl) ?_))
  refine hP _ _ _ _ _ _ (sp_owing (by omega) hN (by omega) (by omega) ?_)
  repeat (first | (refine hP _ _ _ _ _ _ ?_; show P _ _ _ _ _ _) | refine hP _ _ _ _ _ _ (And.intro (hN _ _ _ rfl) ?_))
  refine hP _ _ _ _ _ _ (And.intro (fun hc => ?_) (fun hc => ?_))
  · repeat (first | (refine hP _ _ _ _ _ _ ?_; show P _ _ _ _ _ _) | refine hP _ _ _ _ _ _ (And.intro (hN _ _ _ rfl) ?_))
    exact mid false (by
      have : ¬ 0 < S.1 14 f (5 * b + a) := Int32.not_lt.mpr hc
      simp [this])
  · repeat (first | (refine hP _ _ _ _ _ _ ?_; show P _ _ _ _ _ _) | refine hP _ _ _ _ _ _ (And.intro (hN _ _ _ rfl) ?_))
    exact mid true (by
      have : 0 < S.1 14 f (5 * b + a) := Int32.not_le.mp hc
      simp [this])
theorem brF_c {tv : Nat → Nat → (Nat → Int32) → Int32} {S S1 : St} {f n t a : Nat} (h : Sc S S1) : brF tv S1 f n t a = brF tv S f n t a := by
  simp only [brF, vlF_c h, h.1 11 rfl, h.1 12 rfl]
theorem wlF_c {tv : Nat → Nat → (Nat → Int32) → Int32} {S S1 : St} {f n t a b : Nat} (h : Sc S S1) : wlF tv S1 f n t a b = wlF tv S f n t a b := by
  simp only [wlF, vlF_c h, h.1 11 rfl, h.1 12 rfl, h.1 13 rfl, h.1 14 rfl]
