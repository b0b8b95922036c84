/-! Rings: both ways find the longest -/
def pth (F : Fl) : Nat → List Nat → Prop
  | _, [] => True
  | a, b :: l => 0 < F.ow a b ∧ pth F b l
def lst : Nat → List Nat → Nat
  | a, [] => a
  | _, b :: l => lst b l
theorem pth_app (F : Fl) : ∀ (l1 : List Nat) (a : Nat) (l2 : List Nat), pth F a (l1 ++ l2) ↔ pth F a l1 ∧ pth F (lst a l1) l2
  | [], a, l2 => by simp [pth, lst]
  | b :: l1, a, l2 => by
    simp only [List.cons_append, pth, lst, pth_app F l1 b l2, and_assoc]
theorem lst_app : ∀ (l1 : List Nat) (a : Nat) (l2 : List Nat), lst a (l1 ++ l2) = lst (lst a l1) l2
  | [], _, _ => rfl
  | b :: l1, a, l2 => lst_app l1 b l2
def Rgl (F : Fl) (first at' m : Nat) (l : List Nat) : Prop := pth F at' l ∧ (∀ x ∈ l, x < F.n ∧ m.testBit x = false) ∧ l.Nodup ∧ 0 < F.ow (lst at' l) first
theorem Rgl.tl {F : Fl} {first at' m p : Nat} {l : List Nat} (h : Rgl F first at' m (p :: l)) : Rgl F first p (m ||| 2 ^ p) l := by
  obtain ⟨h1, h2, h3, h4⟩ := h
  refine ⟨h1.2, fun x hx => ⟨(h2 x (List.mem_cons_of_mem _ hx)).1, ?_⟩, (List.nodup_cons.mp h3).2, h4⟩
  rw [tb_or, (h2 x (List.mem_cons_of_mem _ hx)).2]
  have : ¬ p = x := fun z => (List.nodup_cons.mp h3).1 (z ▸ hx)
  simp [this]
theorem Rgl.cn {F : Fl} {first at' m p : Nat} {l : List Nat} (h : Rgl F first p (m ||| 2 ^ p) l) (hp : p < F.n) (hb : m.testBit p = false) (ho : 0 < F.ow at' p) : Rgl F first at' m (p :: l) := by
  obtain ⟨h1, h2, h3, h4⟩ := h
  have h2' : ∀ x ∈ l, x < F.n ∧ m.testBit x = false ∧ ¬ p = x := fun x hx => by
    have := h2 x hx
    rw [tb_or] at this
    simp at this
    exact ⟨this.1, this.2.1, this.2.2⟩
  refine ⟨⟨ho, h1⟩, fun x hx => ?_, List.nodup_cons.mpr ⟨fun z => (h2' p z).2.2 rfl, h3⟩, h4⟩
  rcases List.mem_cons.mp hx with rfl | hx
  · exact ⟨hp, hb⟩
  · exact ⟨(h2' x hx).1, (h2' x hx).2.1⟩
theorem rgM_ge (F : Fl) (first : Nat) : ∀ (l : List Nat) (j at' m len : Nat), l.length ≤ j → Rgl F first at' m l → 1 < len + l.length → len + l.length ≤ rgM F first j at' m len
  | [], j, at', m, len, _, hr, h1 => by
    have hb : lgB F first at' len = len := if_pos ⟨h1, hr.2.2.2⟩
    cases j with
    | zero => exact Nat.le_of_eq hb.symm
    | succ j =>
      have := (mxN_ge (g := fun p => if m.testBit p = false ∧ 0 < F.ow at' p then rgM F first j p (m ||| 2 ^ p) (len + 1) else 0) (i := lgB F first at' len) (n := F.n)).1
      unfold rgM
      rw [hb] at this ⊢
      exact this
  | p :: l, 0, at', m, len, hl, _, _ => by simp at hl
  | p :: l, j + 1, at', m, len, hl, hr, h1 => by
    have hp := hr.2.1 p List.mem_cons_self
    have ih := rgM_ge F first l j p (m ||| 2 ^ p) (len + 1) (by simpa using hl) hr.tl (by simp at h1; omega)
    have := (mxN_ge (g := fun p => if m.testBit p = false ∧ 0 < F.ow at' p then rgM F first j p (m ||| 2 ^ p) (len + 1) else 0) (i := lgB F first at' len) (n := F.n)).2 p hp.1
    simp only [hp.2, hr.1.1, and_self, if_true] at this
    unfold rgM
    simp only [List.length_cons]
    omega
theorem lgB_at {F : Fl} {first at' len m : Nat} : lgB F first at' len = 0 ∨ (Rgl F first at' m [] ∧ 1 < len ∧ lgB F first at' len = len) := by
  unfold lgB
  split
  · rename_i hc
    exact Or.inr ⟨⟨trivial, fun x hx => absurd hx List.not_mem_nil, List.nodup_nil, hc.2⟩, hc.1, rfl⟩
  · exact Or.inl rfl
theorem rgM_at (F : Fl) (first : Nat) : ∀ (j at' m len : Nat), rgM F first j at' m len = 0 ∨ ∃ l, l.length ≤ j ∧ Rgl F first at' m l ∧ 1 < len + l.length ∧ rgM F first j at' m len = len + l.length
  | 0, at', m, len => by
    rcases lgB_at (F := F) (first := first) (at' := at') (len := len) (m := m) with h | ⟨h1, h2, h3⟩
    · exact Or.inl h
    · exact Or.inr ⟨[], Nat.le_refl _, h1, h2, h3⟩
  | j + 1, at', m, len => by
    unfold rgM
    rcases mxN_at (g := fun p => if m.testBit p = false ∧ 0 < F.ow at' p then rgM F first j p (m ||| 2 ^ p) (len + 1) else 0) (i := lgB F first at' len) (n := F.n) with h | ⟨k, hk, h⟩
    · rw [h]
      rcases lgB_at (F := F) (first := first) (at' := at') (len := len) (m := m) with h | ⟨h1, h2, h3⟩
      · exact Or.inl h
      · exact Or.inr ⟨[], Nat.zero_le _, h1, h2, h3⟩
    · rw [h]
      split
      · rename_i hc
        rcases rgM_at F first j k (m ||| 2 ^ k) (len + 1) with h0 | ⟨l, h1, h2, h3, h4⟩
        · exact Or.inl h0
        · exact Or.inr ⟨k :: l, by simp; omega, h2.cn hk hc.1 hc.2, by simp; omega, by rw [h4]; simp; omega⟩
      · exact Or.inl rfl
theorem lgC_ge (F : Fl) (first : Nat) : ∀ (l : List Nat) (j at' m : Nat), l.length ≤ j → j ≤ 5 → Rgl F first at' m l → (∀ x ∈ l, first < x) → 1 < 5 - j + l.length → 5 - j + l.length ≤ lgC F first j at' m
  | [], j, at', m, _, _, hr, _, h1 => by
    have hb : lgB F first at' (5 - j) = 5 - j := if_pos ⟨h1, hr.2.2.2⟩
    cases j with
    | zero => exact Nat.le_of_eq hb.symm
    | succ j =>
      have := (mxN_ge (g := fun nx => if first < nx ∧ m.testBit nx = false ∧ 0 < F.ow at' nx then lgC F first j nx (m ||| 2 ^ nx) else 0) (i := lgB F first at' (4 - j)) (n := F.n)).1
      unfold lgC
      rw [show 5 - (j + 1) = 4 - j by omega] at hb ⊢
      rw [hb] at this ⊢
      exact this
  | p :: l, 0, at', m, hl, _, _, _, _ => by simp at hl
  | p :: l, j + 1, at', m, hl, hj, hr, hf, h1 => by
    have hp := hr.2.1 p List.mem_cons_self
    have ih := lgC_ge F first l j p (m ||| 2 ^ p) (by simpa using hl) (by omega) hr.tl (fun x hx => hf x (List.mem_cons_of_mem _ hx)) (by simp at h1; omega)
    have := (mxN_ge (g := fun nx => if first < nx ∧ m.testBit nx = false ∧ 0 < F.ow at' nx then lgC F first j nx (m ||| 2 ^ nx) else 0) (i := lgB F first at' (4 - j)) (n := F.n)).2 p hp.1
    simp only [hp.2, hr.1.1, hf p List.mem_cons_self, and_self, if_true] at this
    unfold lgC
    simp only [List.length_cons]
    omega
theorem lgC_at (F : Fl) (first : Nat) : ∀ (j at' m : Nat), j ≤ 5 → lgC F first j at' m = 0 ∨ ∃ l, l.length ≤ j ∧ Rgl F first at' m l ∧ 1 < 5 - j + l.length ∧ lgC F first j at' m = 5 - j + l.length
  | 0, at', m, _ => by
    rcases lgB_at (F := F) (first := first) (at' := at') (len := 5) (m := m) with h | ⟨h1, h2, h3⟩
    · exact Or.inl h
    · exact Or.inr ⟨[], Nat.le_refl _, h1, h2, h3⟩
  | j + 1, at', m, hj => by
    unfold lgC
    rcases mxN_at (g := fun nx => if first < nx ∧ m.testBit nx = false ∧ 0 < F.ow at' nx then lgC F first j nx (m ||| 2 ^ nx) else 0) (i := lgB F first at' (4 - j)) (n := F.n) with h | ⟨k, hk, h⟩
    · rw [h]
      rcases lgB_at (F := F) (first := first) (at' := at') (len := 4 - j) (m := m) with h | ⟨h1, h2, h3⟩
      · exact Or.inl h
      · exact Or.inr ⟨[], Nat.zero_le _, h1, by simp only [List.length_nil]; omega, by rw [h3]; simp only [List.length_nil]; omega⟩
    · rw [h]
      split
      · rename_i hc
        rcases lgC_at F first j k (m ||| 2 ^ k) (by omega) with h0 | ⟨l, h1, h2, h3, h4⟩
        · exact Or.inl h0
        · exact Or.inr ⟨k :: l, by simp; omega, h2.cn hk hc.2.1 hc.2.2, by simp; omega, by rw [h4]; simp; omega⟩
      · exact Or.inl rfl
theorem min_of : ∀ (l : List Nat) (a : Nat), ∃ m ∈ a :: l, ∀ x ∈ a :: l, m ≤ x
  | [], a => ⟨a, List.mem_cons_self, fun x hx => by simp at hx; omega⟩
  | b :: l, a => by
    obtain ⟨m, h1, h2⟩ := min_of l b
    by_cases h : a ≤ m
    · refine ⟨a, List.mem_cons_self, fun x hx => ?_⟩
      rcases List.mem_cons.mp hx with rfl | hx
      · exact Nat.le_refl _
      · exact Nat.le_trans h (h2 x hx)
    · refine ⟨m, List.mem_cons_of_mem _ h1, fun x hx => ?_⟩
      rcases List.mem_cons.mp hx with rfl | hx
      · omega
      · exact h2 x hx
theorem tb_p {p x : Nat} : (2 ^ p).testBit x = decide (p = x) := Nat.testBit_two_pow
theorem rings_eq (F : Fl) : rmN F = rgN F := by
  apply Nat.le_antisymm
  · unfold rmN
    rcases mxN_at (g := fun p => rgM F p 4 p (2 ^ p) 1) (i := 0) (n := F.n) with h | ⟨p, hp, h⟩
    · rw [h]
      exact Nat.zero_le _
    · rw [h]
      rcases rgM_at F p 4 p (2 ^ p) 1 with h0 | ⟨l, h1, h2, h3, h4⟩
      · rw [h0]
        exact Nat.zero_le _
      · rw [h4]
        have hne : ∀ x ∈ l, ¬ p = x := fun x hx => by
          have := (h2.2.1 x hx).2
          rw [tb_p] at this
          simpa using this
        obtain ⟨mn, hm1, hm2⟩ := min_of l p
        have key : ∀ (f : Nat) (l' : List Nat), f < F.n → l'.length = l.length → Rgl F f f (2 ^ f) l' → (∀ x ∈ l', f < x) → 1 + l.length ≤ rgN F := by
          intro f l' hf hlen hr hlt
          have a1 := lgC_ge F f l' 4 f (2 ^ f) (by omega) (by omega) hr hlt (by omega)
          have a2 := (mxN_ge (g := fun p => lgC F p 4 p (2 ^ p)) (i := 0) (n := F.n)).2 f hf
          have a2 : lgC F f 4 f (2 ^ f) ≤ rgN F := a2
          omega
        rcases List.mem_cons.mp hm1 with rfl | hm
        · refine key mn l hp rfl h2 (fun x hx => ?_)
          have := hm2 x (List.mem_cons_of_mem _ hx)
          have := hne x hx
          omega
        · obtain ⟨l1, l2, rfl⟩ := List.append_of_mem hm
          obtain ⟨g1, g2, g3, g4⟩ := h2
          obtain ⟨q1, q2⟩ := (pth_app F l1 p (mn :: l2)).mp g1
          have hnd : (p :: (l1 ++ mn :: l2)).Nodup := List.nodup_cons.mpr ⟨fun z => hne p z rfl, g3⟩
          have hnd2 : (mn :: (l2 ++ p :: l1)).Nodup := by
            have e1 : p :: (l1 ++ mn :: l2) = (p :: l1) ++ (mn :: l2) := rfl
            rw [e1] at hnd
            exact (List.perm_append_comm.nodup_iff).mp hnd
          have hall : ∀ x ∈ l2 ++ p :: l1, x ∈ p :: (l1 ++ mn :: l2) := by
            intro x hx
            simp only [List.mem_append, List.mem_cons] at hx ⊢
            rcases hx with h | h | h
            · exact Or.inr (Or.inr (Or.inr h))
            · exact Or.inl h
            · exact Or.inr (Or.inl h)
          have hxm : ∀ x ∈ l2 ++ p :: l1, ¬ mn = x := fun x hx z => (List.nodup_cons.mp hnd2).1 (z ▸ hx)
          have hlt : ∀ x ∈ l2 ++ p :: l1, mn < x := fun x hx => by
            have := hm2 x (hall x hx)
            have := hxm x hx
            omega
          rw [lst_app] at g4
          refine key mn (l2 ++ p :: l1) (g2 mn hm).1 (by simp; omega) ⟨?_, fun x hx => ⟨?_, ?_⟩, (List.nodup_cons.mp hnd2).2, ?_⟩ hlt
          · exact (pth_app F l2 mn (p :: l1)).mpr ⟨q2.2, g4, q1⟩
          · rcases List.mem_cons.mp (hall x hx) with rfl | h
            · exact hp
            · exact (g2 x h).1
          · rw [tb_p]
            simpa using hxm x hx
          · rw [lst_app]
            exact q2.1
  · unfold rgN
    rcases mxN_at (g := fun p => lgC F p 4 p (2 ^ p)) (i := 0) (n := F.n) with h | ⟨p, hp, h⟩
    · rw [h]
      exact Nat.zero_le _
    · rw [h]
      rcases lgC_at F p 4 p (2 ^ p) (by omega) with h0 | ⟨l, h1, h2, h3, h4⟩
      · rw [h0]
        exact Nat.zero_le _
      · rw [h4]
        have a1 := rgM_ge F p l 4 p (2 ^ p) 1 h1 h2 (by omega)
        have a2 := (mxN_ge (g := fun p => rgM F p 4 p (2 ^ p) 1) (i := 0) (n := F.n)).2 p hp
        have a2 : rgM F p 4 p (2 ^ p) 1 ≤ rmN F := a2
        show 5 - 4 + l.length ≤ rmN F
        omega
