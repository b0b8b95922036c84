/-! WHAT A STATE OF THE MACHINE AM IS IN THE HEAP -/
/-- what stands around: the classes' numbers, the arrays' classes (0 int[], 1 Floor[], 2 Sheet[], 3 Text[], 4 boolean[]), where the cells begin, where the static cells lie, what the static arrays hold, how long the script is -/
abbrev Env0 : Type := va_G × (Nat → ClassId) × Nat × (Nat → Nat → Nat) × (Nat → Nat → Int32) × Nat
def adr (E : Env0) (j g : Nat) : Nat := if j < 60 then E.2.2.1 + numP j g else E.2.2.2.1 j g
def cv (E : Env0) (v : AV) : Value := match v with
  | Sum.inl x => .int x
  | Sum.inr (Sum.inl x) => .long x
  | Sum.inr (Sum.inr none) => .null
  | Sum.inr (Sum.inr (some q)) => .ref (adr E q.1 q.2)
def fvl (E : Env0) (S : St) (j g k : Nat) : Value := match fty (clsP j) k with
  | 1 => .long S.2.1
  | 2 => if S.2.2.1 j g k = true then .ref (adr E (frf j g k).1 (frf j g k).2) else .null
  | _ => .int (S.1 j g k)
def el (E : Env0) (S : St) (q : Nat × Nat) : va_E :=
  if clsP q.1 < 7 then .inr (clsP q.1, (List.range (nFl (clsP q.1))).map (fvl E S q.1 q.2))
  else if iak q.1 = 2 then .inl (E.2.1 4, aln S.2.2.2.1 q.1 q.2, .inl (S.1 q.1 q.2))
  else if rfk q.1 = 0 then .inl (E.2.1 0, aln S.2.2.2.1 q.1 q.2, .inl (S.1 q.1 q.2))
  else .inl (E.2.1 (rfk q.1), aln S.2.2.2.1 q.1 q.2, .inr (.inr (.inr (.inr fun k => if S.2.2.1 q.1 q.2 k = true then some (adr E (erf q.1 k).1 (erf q.1 k).2) else none))))
def wld (E : Env0) (S : St) : va_W := (List.range S.2.2.2.2).map fun k => (E.2.2.1 + k, el E S (idOf k))
/-- a cell that is there; a static one -/
def lvP (S : St) (j g : Nat) : Prop := (j < 60 ∧ numP j g < S.2.2.2.2 ∧ idOf (numP j g) = (j, g)) ∨ (60 ≤ j ∧ j < 65 ∧ g = 0) ∨ (j = 70 ∧ g < 13)
def lvA (S : St) (v : AV) : Prop := match v with
  | Sum.inr (Sum.inr (some q)) => lvP S q.1 q.2
  | _ => True
def tysE (E : Env0) : List (ClassId × FieldType) := [(E.2.1 0, .int), (E.2.1 1, .object RX0), (E.2.1 2, .object RX3), (E.2.1 3, .object RX4)]
/-- the heap holds the state -/
def Rep (E : Env0) (S : St) (H : Heap) : Prop := H.size = E.2.2.1 + S.2.2.2.2 ∧ va_P E.1 vwCl (wld E S) H ∧ (∀ j, 60 ≤ j → ∀ k, S.1 j 0 k = E.2.2.2.2.1 j k) ∧ S.2.2.2.1 1000 = E.2.2.2.2.2 ∧ (∀ t, S.2.2.2.1 t ≤ 4000)
  ∧ (∀ j g k, lvP S j g → j < 60 → clsP j < 7 → fty (clsP j) k = 2 → k < nFl (clsP j) → S.2.2.1 j g k = true → lvP S (frf j g k).1 (frf j g k).2)
  ∧ (∀ j g k, lvP S j g → j < 60 → 1 ≤ rfk j → k < aln S.2.2.2.1 j g → S.2.2.1 j g k = true → lvP S (erf j k).1 (erf j k).2)
def baseA (E : Env0) : Nat → Prop := fun q => E.2.2.1 ≤ q
theorem va_Sn {A : Nat → Prop} {H0 H : Heap} {locs : List Loc} (h : va_S A H0 H locs) : va_S A H H locs := ⟨Nat.le_refl _, fun _ _ _ => rfl, h.2.2⟩
theorem va_Str {A : Nat → Prop} {H0 H H1 : Heap} {locs locs1 : List Loc} (h : va_S A H0 H locs) (h1 : va_S A H H1 locs1) : va_S A H0 H1 locs1 := ⟨Nat.le_trans h.1 h1.1, fun q a b => (h1.2.1 q (Nat.lt_of_lt_of_le a h.1) b).trans (h.2.1 q a b), h1.2.2⟩
/-- what a state's tables and old cells say: it stays -/
def Stt (E : Env0) (X : State → Prop) (U : State) : Prop := va_K E.1 vwCl (tysE E) U
  ∧ (∀ j, 61 ≤ j → j ≤ 64 → va_Z RX5 (stN j) "[I" (.ref (E.2.2.2.1 j 0)) (baseA E) U U.heap)
  ∧ (∀ j, 60 ≤ j → j ≤ 64 → va_T .int (E.2.2.2.1 j 0) (aln (fun _ => E.2.2.2.2.2) j 0) (fun k => .int (E.2.2.2.2.1 j k)) (baseA E) U U.heap)
  ∧ va_Nw (.fieldLinkNest RX0 24 RX5 "LESSER" "[I" RX5) U ∧ va_Nw (.fieldLinkNest RX0 107 RX5 "GREATER" "[I" RX5) U ∧ va_Nw (.fieldLinkNest RX0 131 RX5 "SETS" "[I" RX5) U
  ∧ va_Nw (.methodLinkNest RX5 34 yX1_init RX5) U ∧ va_Nw (.methodLinkNest RX5 41 yX3_init RX5) U ∧ va_Nw (.methodLinkNest RX0 72 yX5_within RX5) U
  ∧ True ∧ va_AO RX0 U ∧ va_AO RX3 U ∧ va_AO RX4 U ∧ True ∧ E.2.2.2.2.2 ≤ 4000 ∧ X U
theorem numId (n : Nat) : numP (idOf n).1 (idOf n).2 = n := by
  by_cases h : n < 77
  · have hall : ∀ n, n < 77 → numP (idOf n).1 (idOf n).2 = n := by decide +kernel
    exact hall n h
  · have hn : nth idsT n = none := by
      rw [nth_get]
      exact List.getElem?_eq_none (by have : idsT.length = 77 := by decide +kernel
                                      omega)
    have hi : idOf n = (if (n - 77) % 3 = 0 then 31 else if (n - 77) % 3 = 1 then 30 else 32, (n - 77) / 3 + 1) := by simp [idOf, hn]
    rw [hi]
    dsimp only
    split
    · simp only [numP]
      rw [if_neg (by omega)]
      omega
    · split
      · simp only [numP]
        rw [if_neg (by omega)]
        omega
      · simp only [numP]
        rw [if_neg (by omega)]
        omega
theorem idInj {a b : Nat} (h : idOf a = idOf b) : a = b := by
  have h1 := numId a
  rw [h, numId b] at h1
  exact h1.symm
theorem idLt (n : Nat) : (idOf n).1 < 60 := by
  by_cases h : n < 77
  · have hall : ∀ n, n < 77 → (idOf n).1 < 60 := by decide +kernel
    exact hall n h
  · have hn : nth idsT n = none := by
      rw [nth_get]
      exact List.getElem?_eq_none (by have : idsT.length = 77 := by decide +kernel
                                      omega)
    have hi : idOf n = (if (n - 77) % 3 = 0 then 31 else if (n - 77) % 3 = 1 then 30 else 32, (n - 77) / 3 + 1) := by simp [idOf, hn]
    rw [hi]
    dsimp only
    split
    · decide
    · split <;> decide
theorem id40 (n g : Nat) (h : idOf n = (40, g)) : g = 0 := by
  by_cases hn : n < 77
  · have hall : ∀ n, n < 77 → (idOf n).1 = 40 → (idOf n).2 = 0 := by decide +kernel
    have := hall n hn (by rw [h])
    rw [h] at this
    exact this
  · have hn : nth idsT n = none := by
      rw [nth_get]
      exact List.getElem?_eq_none (by have : idsT.length = 77 := by decide +kernel
                                      omega)
    have hi : idOf n = (if (n - 77) % 3 = 0 then 31 else if (n - 77) % 3 = 1 then 30 else 32, (n - 77) / 3 + 1) := by simp [idOf, hn]
    rw [hi] at h
    have h1 := congrArg Prod.fst h
    dsimp only at h1
    split at h1
    · cases h1
    · split at h1 <;> cases h1
theorem wld_get {E : Env0} {S : St} {j g : Nat} (h : numP j g < S.2.2.2.2) (hi : idOf (numP j g) = (j, g)) : (wld E S)[numP j g]? = some (E.2.2.1 + numP j g, el E S (j, g)) := by
  simp [wld, List.getElem?_map, List.getElem?_range h, hi]
theorem wld_len {E : Env0} {S : St} : (wld E S).length = S.2.2.2.2 := by simp [wld]
theorem wld_D (E : Env0) (S : St) : va_D (baseA E) (wld E S) := by
  have key : ∀ (k : Nat) (q : Nat × va_E), (wld E S)[k]? = some q → q.1 = E.2.2.1 + k := by
    intro k q h
    have hk : k < (wld E S).length := (List.getElem?_eq_some_iff.mp h).1
    rw [wld_len] at hk
    simp only [wld, List.getElem?_map, List.getElem?_range hk, Option.map_some, Option.some.injEq] at h
    rw [← h]
  refine ⟨fun i j p q hi hj hpq => ?_, fun k q hk => ?_⟩
  · have h1 := key i p hi
    have h2 := key j q hj
    omega
  · rw [key k q hk]
    exact Nat.le_add_right _ _
/-- one cell changes -/
theorem wld_set {E : Env0} {S S' : St} {j g : Nat} (h : numP j g < S.2.2.2.2) (hc : S'.2.2.2.2 = S.2.2.2.2) (ho : ∀ k, k ≠ numP j g → k < S.2.2.2.2 → el E S' (idOf k) = el E S (idOf k)) (hi : idOf (numP j g) = (j, g)) : (wld E S).set (numP j g) (E.2.2.1 + numP j g, el E S' (j, g)) = wld E S' := by
  apply List.ext_getElem?
  intro k
  by_cases hk : k = numP j g
  · subst hk
    rw [List.getElem?_set_self (by rw [wld_len]; exact h), wld_get (by rw [hc]; exact h) hi]
  · rw [List.getElem?_set_ne (fun z => hk z.symm)]
    by_cases hl : k < S.2.2.2.2
    · simp [wld, List.getElem?_map, hc, List.getElem?_range hl, ho k hk hl]
    · rw [List.getElem?_eq_none (by rw [wld_len]; omega), List.getElem?_eq_none (by rw [wld_len]; omega)]
/-- one cell comes -/
theorem wld_push {E : Env0} {S S' : St} {q : Nat × Nat} (hq : idOf S.2.2.2.2 = q) (hc : S'.2.2.2.2 = S.2.2.2.2 + 1) (ho : ∀ k, k < S.2.2.2.2 → el E S' (idOf k) = el E S (idOf k)) : wld E S ++ [(E.2.2.1 + S.2.2.2.2, el E S' q)] = wld E S' := by
  have h1 : wld E S' = ((List.range S.2.2.2.2).map fun k => (E.2.2.1 + k, el E S' (idOf k))) ++ [(E.2.2.1 + S.2.2.2.2, el E S' q)] := by
    simp only [wld, hc, List.range_succ, List.map_append, List.map_cons, List.map_nil, hq]
  rw [h1]
  refine congrArg (· ++ _) (List.map_congr_left fun k hk => ?_)
  rw [ho k (List.mem_range.mp hk)]
theorem lvP.up {S S' : St} {j g : Nat} (h : lvP S j g) (hc : S.2.2.2.2 ≤ S'.2.2.2.2) : lvP S' j g := by
  rcases h with ⟨h1, h2, h3⟩ | h
  · exact Or.inl ⟨h1, Nat.lt_of_lt_of_le h2 hc, h3⟩
  · exact Or.inr h
theorem lvA.up {S S' : St} {v : AV} (h : lvA S v) (hc : S.2.2.2.2 ≤ S'.2.2.2.2) : lvA S' v := by
  unfold lvA at h ⊢
  split
  · exact lvP.up h hc
  · trivial
theorem lvP.in {S : St} {j g : Nat} (h : lvP S j g) (hj : j < 60) : numP j g < S.2.2.2.2 ∧ idOf (numP j g) = (j, g) := by
  rcases h with ⟨-, h2, h3⟩ | ⟨h, -⟩ | ⟨h, -⟩
  · exact ⟨h2, h3⟩
  · omega
  · omega
/-- the ints of one cell: the others' cells stay -/
theorem el_iv {E : Env0} {S : St} {j g k : Nat} {v : Int32} {q : Nat × Nat} (h : q ≠ (j, g)) : el E (ivSet S j g k v) q = el E S q := by
  have hne : ¬ (q.1 = j ∧ q.2 = g) := fun z => h (Prod.ext z.1 z.2)
  have h1 : ∀ z, (ivSet S j g k v).1 q.1 q.2 z = S.1 q.1 q.2 z := fun z => by
    simp only [ivSet, up3]
    rw [if_neg (fun y => hne ⟨y.1, y.2.1⟩)]
  have h2 : (ivSet S j g k v).1 q.1 q.2 = S.1 q.1 q.2 := funext h1
  have h3 : fvl E (ivSet S j g k v) q.1 q.2 = fvl E S q.1 q.2 := funext fun z => by
    unfold fvl
    split
    · rfl
    · rfl
    · rw [h1]
  unfold el
  rw [h2, h3]
  rfl
theorem el_nn {E : Env0} {S : St} {j g k : Nat} {q : Nat × Nat} (h : q ≠ (j, g)) : el E (nnSet S j g k) q = el E S q := by
  have hne : ¬ (q.1 = j ∧ q.2 = g) := fun z => h (Prod.ext z.1 z.2)
  have h1 : ∀ z, (nnSet S j g k).2.2.1 q.1 q.2 z = S.2.2.1 q.1 q.2 z := fun z => by
    simp only [nnSet, up3]
    rw [if_neg (fun y => hne ⟨y.1, y.2.1⟩)]
  have h3 : fvl E (nnSet S j g k) q.1 q.2 = fvl E S q.1 q.2 := funext fun z => by
    unfold fvl
    split
    · rfl
    · rw [h1]
    · rfl
  unfold el
  rw [h3]
  simp only [h1]
  rfl
