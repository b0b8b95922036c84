/-! THE LOCALS -/
theorem good_back {w : Cond} (h : (w.onTables && w.keeps) = true ∨ ∃ ty, w = .arrayClass ty) : goodWord w = true := by
  rcases h with h | ⟨ty, rfl⟩
  · cases w <;> first | rfl | exact h
  · rfl
theorem ALLW_of {ws : List Cond} (h : GoodIn lw_tbl ws) : ∀ w ∈ ws, w ∈ ALLW := fun w hw => List.mem_filter.mpr ⟨(h w hw).1, good_back (h w hw).2⟩
def lvl (E : Env0) : List (Option AV) → Nat → List (Nat × Value)
  | [], _ => []
  | none :: l, n => lvl E l (n + 1)
  | some v :: l, n => (n, cv E v) :: lvl E l (n + 1)
theorem lvl_mem {E : Env0} : ∀ (L : List (Option AV)) (n : Nat) (q : Nat × Value), q ∈ lvl E L n ↔ ∃ k v, nth L k = some (some v) ∧ q = (n + k, cv E v)
  | [], n, q => by simp [lvl, nth]
  | none :: l, n, q => by
    rw [lvl, lvl_mem l (n + 1) q]
    constructor
    · rintro ⟨k, v, h, rfl⟩
      exact ⟨k + 1, v, h, by rw [show n + 1 + k = n + (k + 1) by omega]⟩
    · rintro ⟨k, v, h, rfl⟩
      cases k with
      | zero => simp [nth] at h
      | succ k => exact ⟨k, v, h, by rw [show n + 1 + k = n + (k + 1) by omega]⟩
  | some u :: l, n, q => by
    rw [lvl, List.mem_cons, lvl_mem l (n + 1) q]
    constructor
    · rintro (rfl | ⟨k, v, h, rfl⟩)
      · exact ⟨0, u, rfl, rfl⟩
      · exact ⟨k + 1, v, h, by rw [show n + 1 + k = n + (k + 1) by omega]⟩
    · rintro ⟨k, v, h, rfl⟩
      cases k with
      | zero =>
        simp only [nth, Option.some.injEq] at h
        subst h
        exact Or.inl rfl
      | succ k => exact Or.inr ⟨k, v, h, by rw [show n + 1 + k = n + (k + 1) by omega]⟩
def isJ (v : AV) : Bool := match v with
  | Sum.inr (Sum.inl _) => true
  | _ => false
theorem cv_cat {E : Env0} {v : AV} : (cv E v).category = 2 ↔ isJ v = true := by
  rcases v with x | x | x | x <;> simp [cv, isJ, Value.category]
theorem putL_len : ∀ (L : List (Option AV)) (i : Nat) (v : AV), (putL L i v).length = L.length
  | [], _, _ => rfl
  | a :: l, 0, v => by
    unfold putL
    split
    · cases l <;> rfl
    · rfl
  | a :: l, 1, v => by
    simp only [putL, List.length_cons]
    rw [putL_len l 0 v]
  | a :: l, n + 2, v => by
    simp only [putL, List.length_cons]
    rw [putL_len l (n + 1) v]
theorem putL_nth : ∀ (L : List (Option AV)) (i : Nat) (v u : AV) (k : Nat), nth (putL L i v) k = some (some u) →
    (k = i ∧ u = v) ∨ (k ≠ i ∧ nth L k = some (some u) ∧ ¬ (k + 1 = i ∧ isJ u = true) ∧ ¬ (isJ v = true ∧ k = i + 1))
  | [], _, _, _, _, h => by simp [putL, nth] at h
  | a :: l, 0, v, u, 0, h => by
    left
    refine ⟨rfl, ?_⟩
    unfold putL at h
    split at h <;> simpa [nth, eq_comm] using h
  | a :: l, 0, v, u, k + 1, h => by
    right
    refine ⟨by omega, ?_, by omega, ?_⟩
    · unfold putL at h
      split at h
      · cases l with
        | nil => simp [nth] at h
        | cons b t =>
          cases k with
          | zero => simp [nth] at h
          | succ k => exact h
      · exact h
    · rintro ⟨hv, hk⟩
      have hk : k = 0 := by omega
      subst hk
      rcases v with x | x | x
      · simp [isJ] at hv
      · cases l with
        | nil => simp [putL, nth] at h
        | cons b t => simp [putL, nth] at h
      · simp [isJ] at hv
  | a :: l, 1, v, u, 0, h => by
    right
    simp only [putL, nth] at h
    refine ⟨by omega, ?_, ?_, by omega⟩
    · rcases a with _ | x | x | x <;> first | exact h | (simp at h; done)
    · rintro ⟨-, hu⟩
      rcases a with _ | x | x | x <;> simp at h
      · subst h
        simp [isJ] at hu
      · subst h
        simp [isJ] at hu
  | a :: l, 1, v, u, k + 1, h => by
    simp only [putL, nth] at h
    rcases putL_nth l 0 v u k h with ⟨h1, h2⟩ | ⟨h1, h2, h3, h4⟩
    · exact Or.inl ⟨by omega, h2⟩
    · exact Or.inr ⟨by omega, h2, fun z => by omega, fun z => h4 ⟨z.1, by omega⟩⟩
  | a :: l, n + 2, v, u, 0, h => by
    simp only [putL, nth] at h
    exact Or.inr ⟨by omega, h, by omega, by omega⟩
  | a :: l, n + 2, v, u, k + 1, h => by
    simp only [putL, nth] at h
    rcases putL_nth l (n + 1) v u k h with ⟨h1, h2⟩ | ⟨h1, h2, h3, h4⟩
    · exact Or.inl ⟨by omega, h2⟩
    · exact Or.inr ⟨by omega, h2, fun z => h3 ⟨by omega, z.2⟩, fun z => h4 ⟨z.1, by omega⟩⟩
def LokL (E : Env0) (ls : Array Slot) (nL : Nat) (L : List (Option AV)) : Prop := lv_has ls nL (lvl E L 0) ∧ L.length = nL
theorem LokL.at {E : Env0} {ls : Array Slot} {nL : Nat} {L : List (Option AV)} (h : LokL E ls nL L) {i : Nat} {v : AV} (hv : nth L i = some (some v)) : ls[i]? = some (.val (cv E v)) := by
  have := h.1.2.2 (i, cv E v) ((lvl_mem L 0 _).mpr ⟨i, v, hv, by simp⟩)
  exact this
theorem lvl_at {E : Env0} : ∀ (L : List (Option AV)) (i n : Nat) (v : AV), nth L i = some (some v) → ∃ k : Nat, (lvl E L n)[k]? = some (n + i, cv E v) := by
  intro L i n v h
  exact List.getElem?_of_mem ((lvl_mem L n _).mpr ⟨i, v, h, rfl⟩)
/-- behind a store of one word -/
theorem LokL.put1 {E : Env0} {ls ls' : Array Slot} {nL : Nat} {L : List (Option AV)} {i : Nat} {v : AV} (h : LokL E ls nL L) (hv : isJ v = false) (h' : lv_has ls' nL ((i, cv E v) :: (lvl E L 0).filter (fun q => !(q.1 == i) && !(q.1 + 1 == i && q.2.category == 2)))) : LokL E ls' nL (putL L i v) := by
  refine ⟨⟨h'.1, h'.2.1, fun q hq => ?_⟩, by rw [putL_len]; exact h.2⟩
  obtain ⟨k, u, hk, rfl⟩ := (lvl_mem _ _ _).mp hq
  rcases putL_nth L i v u k hk with ⟨h1, h2⟩ | ⟨h1, h2, h3, h4⟩
  · subst h1; subst h2
    exact h'.2.2 (0 + k, cv E u) (by simp)
  · refine h'.2.2 _ (List.mem_cons_of_mem _ (List.mem_filter.mpr ⟨(lvl_mem L 0 _).mpr ⟨k, u, h2, rfl⟩, ?_⟩))
    simp only [Nat.zero_add, Bool.and_eq_true, Bool.not_eq_true', beq_eq_false_iff_ne, ne_eq, Bool.and_eq_false_iff]
    refine ⟨h1, ?_⟩
    by_cases hk : k + 1 = i
    · right
      intro hcat
      exact h3 ⟨hk, cv_cat.mp hcat⟩
    · exact Or.inl hk
theorem LokL.put2 {E : Env0} {ls ls' : Array Slot} {nL : Nat} {L : List (Option AV)} {i : Nat} {v : AV} (h : LokL E ls nL L) (hv : isJ v = true) (h' : lv_has ls' nL ((i, cv E v) :: (lvl E L 0).filter (fun q => !(q.1 == i) && (!(q.1 == i + 1) && !(q.1 + 1 == i && q.2.category == 2))))) : LokL E ls' nL (putL L i v) := by
  refine ⟨⟨h'.1, h'.2.1, fun q hq => ?_⟩, by rw [putL_len]; exact h.2⟩
  obtain ⟨k, u, hk, rfl⟩ := (lvl_mem _ _ _).mp hq
  rcases putL_nth L i v u k hk with ⟨h1, h2⟩ | ⟨h1, h2, h3, h4⟩
  · subst h1; subst h2
    exact h'.2.2 (0 + k, cv E u) (by simp)
  · refine h'.2.2 _ (List.mem_cons_of_mem _ (List.mem_filter.mpr ⟨(lvl_mem L 0 _).mpr ⟨k, u, h2, rfl⟩, ?_⟩))
    simp only [Nat.zero_add, Bool.and_eq_true, Bool.not_eq_true', beq_eq_false_iff_ne, ne_eq, Bool.and_eq_false_iff]
    refine ⟨h1, fun z => h4 ⟨hv, z⟩, ?_⟩
    by_cases hk : k + 1 = i
    · right
      intro hcat
      exact h3 ⟨hk, cv_cat.mp hcat⟩
    · exact Or.inl hk
theorem lvs_put {S : St} {L : List (Option AV)} {i : Nat} {v : AV} (h : ∀ k u, nth L k = some (some u) → lvA S u) (hv : lvA S v) : ∀ k u, nth (putL L i v) k = some (some u) → lvA S u := by
  intro k u hk
  rcases putL_nth L i v u k hk with ⟨-, h2⟩ | ⟨-, h2, -⟩
  · rw [h2]; exact hv
  · exact h k u h2
