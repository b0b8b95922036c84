/-! SOUNDNESS, on: arrays -/
section SNG
variable {E : Env0} {X : State → Prop} {Y : MT} {d n0 : Nat} {p : Program} {l : Launch} {e : Env} {R : Room} {s : State} {m : MethodId} {args : Array Value} {below : List Frame} {meth : Method} {c : Code} {Q : State → Prop}
variable {pc t fc fs : Nat} {L : List (Option AV)} {st : List AV} {S : St}
theorem iak_cls {j : Nat} (h : 1 ≤ iak j) : ¬ clsP j < 7 ∧ rfk j = 0 := by
  unfold iak at h
  split at h <;> first | (constructor <;> decide) | omega
theorem rfk_cls {j : Nat} (h : 1 ≤ rfk j) : ¬ clsP j < 7 ∧ iak j = 0 ∧ j < 60 := by
  unfold rfk at h
  split at h <;> first | (refine ⟨?_, ?_, ?_⟩ <;> decide) | omega
theorem iak_lt {j : Nat} (h : iak j = 1 ∨ iak j = 2) : j < 60 := by
  rcases Nat.lt_or_ge j 60 with g | g
  · exact g
  · exfalso
    unfold iak at h
    split at h <;> first | omega | (rcases h with h | h <;> omega)
theorem iak_n2 (j : Nat) : ¬ iak j = 2 := by
  unfold iak
  split <;> decide
theorem iak3 {j : Nat} (h : iak j = 3) : 60 ≤ j ∧ j ≤ 64 := by
  unfold iak at h
  split at h <;> first | omega | (constructor <;> omega)
theorem el_int {j g : Nat} (h : iak j = 1) : el E S (j, g) = .inl (E.2.1 0, aln S.2.2.2.1 j g, .inl (S.1 j g)) := by
  obtain ⟨h1, h2⟩ := iak_cls (j := j) (by omega)
  simp [el, h1, h2, h]
theorem el_ref {j g : Nat} (h : 1 ≤ rfk j) : el E S (j, g) = .inl (E.2.1 (rfk j), aln S.2.2.2.1 j g, .inr (.inr (.inr (.inr fun k => if S.2.2.1 j g k = true then some (adr E (erf j k).1 (erf j k).2) else none)))) := by
  obtain ⟨h1, h2, h3⟩ := rfk_cls h
  simp [el, h1, h2, show ¬ rfk j = 0 by omega]
theorem aln_lt {tl : Nat → Nat} (h : ∀ t, tl t ≤ 4000) (j g : Nat) : aln tl j g ≤ 4000 := by
  unfold aln
  split <;> first | exact h _ | omega
theorem in_of {S : St} {H : Heap} (hR : Rep E S H) {j g k : Nat} {i : Int32} (h : chI S j g i k) : vp_in i (aln S.2.2.2.1 j g) ∧ i.toNatClampNeg = k := by
  obtain ⟨rfl, hk⟩ := h
  have := aln_lt hR.2.2.2.2.1 j g
  exact ⟨vp_in_nI hk (by omega), nI_clamp (by omega)⟩
theorem s_iald (C : Ctx E X Y d p R s m args meth c) (hd : decode Y.2.2.1 pc = .ok (.iaload, 1)) {i : Int32} {j g k : Nat} {r : List AV} (hj : iak j = 1 ∨ iak j = 3) (hk : chI S j g i k) (h : PS E Y n0 p l e R s m args below meth c Q (pc + 1) L (aI (S.1 j g k) :: r) S fc fs) : PS E Y n0 p l e R s m args below meth c Q pc L (aI i :: aR j g :: r) S fc fs := by
  intro H locs ls h1 h2 h3 h4 h5 h6 h7 h8 h9
  obtain ⟨hin, hcl⟩ := in_of h1 hk
  have hl : lvP S j g := lvh (lvt h4)
  have hr := h H locs ls h1 h2 h3 (lv1 (v := aI (S.1 j g k)) trivial (lvt (lvt h4))) h5 h6 h7 h8 h9
  rcases hj with hj | hj
  · have hj6 := iak_lt (Or.inl hj)
    obtain ⟨a1, a2⟩ := hl.in hj6
    have hg := wld_get (E := E) a1 a2
    rw [el_int hj] at hg
    have ha : cv E (aR j g) = .ref (E.2.2.1 + numP j g) := by simp [cv, adr, hj6]
    rw [List.map_cons, List.map_cons, ha]
    exact va_iald (D := E.1) (cl := vwCl) (tys := tysE E) (ws := wld E S) C.1 C.2.1 C.2.2.2.2.2.2.1.1 h1.2.1 (numP j g) 0 hg rfl hin hd (by rw [hcl]; exact hr)
  · obtain ⟨b1, b2⟩ := iak3 hj
    have hg0 : g = 0 := by
      rcases hl with ⟨z, -⟩ | ⟨-, -, z⟩ | ⟨z, -⟩
      · omega
      · exact z
      · omega
    subst hg0
    have ha : cv E (aR j 0) = .ref (E.2.2.2.1 j 0) := by simp [cv, adr, show ¬ j < 60 by omega]
    rw [List.map_cons, List.map_cons, ha]
    have hT := C.2.2.2.2.2.2.1.2.2.1 j b1 b2
    have hlen : aln S.2.2.2.1 j 0 = aln (fun _ => E.2.2.2.2.2) j 0 := by
      have : j = 60 ∨ j = 61 ∨ j = 62 ∨ j = 63 ∨ j = 64 := by omega
      rcases this with rfl | rfl | rfl | rfl | rfl
      · simp [aln, h1.2.2.2.1]
      all_goals rfl
    refine va_ti C.1 C.2.1 hT h5 (by rw [← hlen]; exact hin) (v := .int (S.1 j 0 k)) (by rw [hcl, h1.2.2.1 j b1]) hd hr
theorem rfk_ty {j : Nat} (h : 1 ≤ rfk j) : ∃ ci q, nth vwCl ci = some q ∧ (tysE E)[rfk j]? = some (E.2.1 (rfk j), .object q.1) ∧ (∀ k, clsP (erf j k).1 = ci ∧ (erf j k).1 < 60) := by
  unfold rfk at h
  split at h
  · exact ⟨0, _, rfl, rfl, fun k => ⟨rfl, show (10 : Nat) < 60 by decide⟩⟩
  · exact ⟨3, _, rfl, rfl, fun k => ⟨rfl, show (20 : Nat) < 60 by decide⟩⟩
  · exact ⟨4, _, rfl, rfl, fun k => ⟨rfl, show (30 : Nat) < 60 by decide⟩⟩
  · omega
theorem s_aald (C : Ctx E X Y d p R s m args meth c) (hd : decode Y.2.2.1 pc = .ok (.aaload, 1)) {i : Int32} {j g k : Nat} {r : List AV} (hj : 1 ≤ rfk j) (hk : chI S j g i k) (hn : S.2.2.1 j g k = true) (h : PS E Y n0 p l e R s m args below meth c Q (pc + 1) L (Sum.inr (Sum.inr (some (erf j k))) :: r) S fc fs) : PS E Y n0 p l e R s m args below meth c Q pc L (aI i :: aR j g :: r) S fc fs := by
  intro H locs ls h1 h2 h3 h4 h5 h6 h7 h8 h9
  obtain ⟨hin, hcl⟩ := in_of h1 hk
  have hl : lvP S j g := lvh (lvt h4)
  obtain ⟨-, -, hj6⟩ := rfk_cls hj
  have hv : lvA S (Sum.inr (Sum.inr (some (erf j k)))) := h1.2.2.2.2.2.2 j g k hl hj6 hj hk.2 hn
  have hr := h H locs ls h1 h2 h3 (lv1 hv (lvt (lvt h4))) h5 h6 h7 h8 h9
  obtain ⟨a1, a2⟩ := hl.in hj6
  have hg := wld_get (E := E) a1 a2
  rw [el_ref hj] at hg
  have ha : cv E (aR j g) = .ref (E.2.2.1 + numP j g) := by simp [cv, adr, hj6]
  rw [List.map_cons, List.map_cons, ha]
  obtain ⟨ci, q, -, hty, -⟩ := rfk_ty (E := E) hj
  refine va_aldq (D := E.1) (cl := vwCl) (tys := tysE E) (ws := wld E S) C.1 C.2.1 C.2.2.2.2.2.2.1.1 h1.2.1 (numP j g) (rfk j) hg hty hin hd ?_
  rw [hcl, if_pos hn]
  exact hr
theorem s_alen (C : Ctx E X Y d p R s m args meth c) (hd : decode Y.2.2.1 pc = .ok (.arraylength, 1)) {j g : Nat} {r : List AV} (hj : 1 ≤ iak j ∨ 1 ≤ rfk j) (h : PS E Y n0 p l e R s m args below meth c Q (pc + 1) L (aI (nI (aln S.2.2.2.1 j g)) :: r) S fc fs) : PS E Y n0 p l e R s m args below meth c Q pc L (aR j g :: r) S fc fs := by
  intro H locs ls h1 h2 h3 h4 h5 h6 h7 h8 h9
  have hl : lvP S j g := lvh h4
  have hr := h H locs ls h1 h2 h3 (lv1 (v := aI (nI (aln S.2.2.2.1 j g))) trivial (lvt h4)) h5 h6 h7 h8 h9
  by_cases hj6 : j < 60
  · obtain ⟨a1, a2⟩ := hl.in hj6
    have hg := wld_get (E := E) a1 a2
    have ha : cv E (aR j g) = .ref (E.2.2.1 + numP j g) := by simp [cv, adr, hj6]
    rw [List.map_cons, ha]
    rcases hj with hj | hj
    · have h12 : iak j = 1 ∨ iak j = 2 := by
        have : iak j ≤ 3 := by unfold iak; split <;> omega
        rcases Nat.lt_or_ge (iak j) 3 with z | z
        · omega
        · have := iak3 (j := j) (by omega)
          omega
      rcases h12 with z | z
      · rw [el_int z] at hg
        exact va_alen (D := E.1) (cl := vwCl) (tys := tysE E) (ws := wld E S) C.1 C.2.1 C.2.2.2.2.2.2.1.1 h1.2.1 (numP j g) 0 hg (ty := .int) rfl rfl hd hr
      · exact absurd z (iak_n2 j)
    · rw [el_ref hj] at hg
      obtain ⟨ci, q, -, hty, -⟩ := rfk_ty (E := E) hj
      exact va_alen (D := E.1) (cl := vwCl) (tys := tysE E) (ws := wld E S) C.1 C.2.1 C.2.2.2.2.2.2.1.1 h1.2.1 (numP j g) (rfk j) hg hty rfl hd hr
  · have hj3 : iak j = 3 := by
      rcases hj with hj | hj
      · have : iak j ≤ 3 := by unfold iak; split <;> omega
        rcases Nat.lt_or_ge (iak j) 3 with z | z
        · exact absurd (iak_lt (j := j) (by omega)) hj6
        · omega
      · exact absurd (rfk_cls hj).2.2 hj6
    obtain ⟨b1, b2⟩ := iak3 hj3
    have hg0 : g = 0 := by
      rcases hl with ⟨z, -⟩ | ⟨-, -, z⟩ | ⟨z, -⟩
      · omega
      · exact z
      · omega
    subst hg0
    have ha : cv E (aR j 0) = .ref (E.2.2.2.1 j 0) := by simp [cv, adr, hj6]
    rw [List.map_cons, ha]
    have hlen : aln S.2.2.2.1 j 0 = aln (fun _ => E.2.2.2.2.2) j 0 := by
      have : j = 60 ∨ j = 61 ∨ j = 62 ∨ j = 63 ∨ j = 64 := by omega
      rcases this with rfl | rfl | rfl | rfl | rfl
      · simp [aln, h1.2.2.2.1]
      all_goals rfl
    exact va_tlen C.1 C.2.1 (C.2.2.2.2.2.2.1.2.2.1 j b1 b2) h5 (v := nI (aln S.2.2.2.1 j 0)) (by rw [hlen]; rfl) hd hr
/-- what a store into an array leaves -/
theorem s_arr {S' : St} {r : List AV} {j g : Nat} {n : Nat} (hj6 : j < 60) (hc : S'.2.2.2.2 = S.2.2.2.2) (ht : S'.2.2.2.1 = S.2.2.2.1) (hs : ∀ a, 60 ≤ a → ∀ k, S'.1 a 0 k = S.1 a 0 k) (ho : ∀ q, q ≠ (j, g) → el E S' q = el E S q) {H H1 : Heap} {locs1 : List Loc} {ls : Array Slot} (hfc : fc < 1000)
    (h1 : Rep E S H) (h2 : LokL E ls Y.2.2.2.1 L) (h3 : ∀ k v, nth L k = some (some v) → lvA S v) (hl : lvP S j g) (h4 : ∀ v ∈ r, lvA S v) (h6 : n0 ≤ S.2.2.2.2) (h7 : fc ≤ Y.1.2.2.1) (h8 : fs ≤ Y.1.2.2.2.1) (h9 : fc < 1000 → E.2.2.1 + S.2.2.2.2 = s.heap.size + fc)
    (hn : ∀ a b k, S'.2.2.1 a b k = true → S.2.2.1 a b k = true ∨ (a = j ∧ b = g ∧ ((clsP a < 7 → fty (clsP a) k = 2 → lvP S (frf a b k).1 (frf a b k).2) ∧ (1 ≤ rfk a → lvP S (erf a k).1 (erf a k).2))))
    (hP : va_P E.1 vwCl ((wld E S).set (numP j g) (E.2.2.1 + numP j g, el E S' (j, g))) H1) (hS : va_S (baseA E) s.heap H1 locs1) (h : PS E Y n0 p l e R s m args below meth c Q n L r S' fc fs) : W p l e R s m args below meth c H1 locs1 fc fs Q (F0 m n ls (r.map (cv E))) := by
  have hex := h9 hfc
  refine W_sized fun hz => ?_
  have hR := rep_set h1 hl hj6 hc ht hs (fun k hk _ => ho _ (fun z => hk (by rw [← numId k, z]))) hP (by omega) hn
  exact h H1 locs1 ls hR h2 (fun i u hu => (h3 i u hu).up (Nat.le_of_eq hc.symm)) (fun u hu => (h4 u hu).up (Nat.le_of_eq hc.symm)) hS (by rw [hc]; exact h6) h7 h8 (fun _ => by rw [hc]; exact hex)
theorem iv_st {j g k : Nat} {x : Int32} (hj : j < 60) : ∀ a, 60 ≤ a → ∀ z, (ivSet S j g k x).1 a 0 z = S.1 a 0 z := fun a ha z => by
  simp only [ivSet, up3]
  rw [if_neg (fun y => by omega)]
theorem iv_upd {j g k : Nat} {x : Int32} : (ivSet S j g k x).1 j g = upd (S.1 j g) k x := by
  funext z
  simp only [ivSet, up3, upd]
  by_cases h : z = k
  · simp [h]
  · simp [h]
theorem s_iast (C : Ctx E X Y d p R s m args meth c) (hd : decode Y.2.2.1 pc = .ok (.iastore, 1)) {i x : Int32} {j g k : Nat} {r : List AV} (hfc : fc < 1000) (hj : iak j = 1) (hk : chI S j g i k) (h : PS E Y n0 p l e R s m args below meth c Q (pc + 1) L r (ivSet S j g k x) fc fs) : PS E Y n0 p l e R s m args below meth c Q pc L (aI x :: aI i :: aR j g :: r) S fc fs := by
  intro H locs ls h1 h2 h3 h4 h5 h6 h7 h8 h9
  obtain ⟨hin, hcl⟩ := in_of h1 hk
  have hl : lvP S j g := lvh (lvt (lvt h4))
  have hj6 := iak_lt (Or.inl hj)
  obtain ⟨a1, a2⟩ := hl.in hj6
  have hg := wld_get (E := E) a1 a2
  rw [el_int hj] at hg
  have ha : cv E (aR j g) = .ref (E.2.2.1 + numP j g) := by simp [cv, adr, hj6]
  rw [List.map_cons, List.map_cons, List.map_cons, ha]
  refine va_iast (D := E.1) (cl := vwCl) (tys := tysE E) (ws := wld E S) (A := baseA E) (H0 := s.heap) C.1 C.2.1 C.2.2.2.2.2.2.1.1 h1.2.1 (wld_D E S) h5 (numP j g) 0 hg rfl hin hd (fun H1 locs1 hP _ hS => ?_)
  refine s_arr (S := S) (S' := ivSet S j g k x) (j := j) (g := g) hj6 rfl rfl (iv_st hj6) (fun q hq => el_iv hq) hfc h1 h2 h3 hl (lvt (lvt (lvt h4))) h6 h7 h8 h9 (fun a b z hz => Or.inl hz) ?_ hS h
  rw [el_int hj, iv_upd, ← hcl]
  exact hP
theorem s_aast (C : Ctx E X Y d p R s m args meth c) (hd : decode Y.2.2.1 pc = .ok (.aastore, 1)) {i : Int32} {j g k : Nat} {r : List AV} (hfc : fc < 1000) (hj : 1 ≤ rfk j) (hk : chI S j g i k) (h : PS E Y n0 p l e R s m args below meth c Q (pc + 1) L r (nnSet S j g k) fc fs) : PS E Y n0 p l e R s m args below meth c Q pc L (Sum.inr (Sum.inr (some (erf j k))) :: aI i :: aR j g :: r) S fc fs := by
  intro H locs ls h1 h2 h3 h4 h5 h6 h7 h8 h9
  obtain ⟨hin, hcl⟩ := in_of h1 hk
  have hl : lvP S j g := lvh (lvt (lvt h4))
  have hv : lvP S (erf j k).1 (erf j k).2 := lvh h4
  obtain ⟨-, -, hj6⟩ := rfk_cls hj
  obtain ⟨a1, a2⟩ := hl.in hj6
  have hg := wld_get (E := E) a1 a2
  rw [el_ref hj] at hg
  have ha : cv E (aR j g) = .ref (E.2.2.1 + numP j g) := by simp [cv, adr, hj6]
  obtain ⟨ci, q, hq, hty, hcls⟩ := rfk_ty (E := E) hj
  obtain ⟨e1, e2⟩ := hcls k
  obtain ⟨b1, b2⟩ := hv.in e2
  have hgv := wld_get (E := E) b1 b2
  have hc7 : clsP (erf j k).1 < 7 := by rw [e1]; exact (clsF hq).2.2.2.2.2.1
  rw [show (((erf j k).1, (erf j k).2) : Nat × Nat) = erf j k from rfl] at hgv
  rw [show el E S (erf j k) = .inr (clsP (erf j k).1, (List.range (nFl (clsP (erf j k).1))).map (fvl E S (erf j k).1 (erf j k).2)) from el_obj hc7] at hgv
  have hav : cv E (Sum.inr (Sum.inr (some (erf j k)))) = .ref (E.2.2.1 + numP (erf j k).1 (erf j k).2) := by simp [cv, adr, e2]
  rw [List.map_cons, List.map_cons, List.map_cons, ha, hav]
  refine va_astq (D := E.1) (cl := vwCl) (tys := tysE E) (ws := wld E S) (A := baseA E) (H0 := s.heap) C.1 C.2.1 C.2.2.2.2.2.2.1.1 h1.2.1 (wld_D E S) h5 (numP j g) (rfk j) (numP (erf j k).1 (erf j k).2) (clsP (erf j k).1) (r := q) hg hty hgv (by rw [e1]; exact (clsF hq).1) hin hd (fun H1 locs1 hP _ hS => ?_)
  refine s_arr (S := S) (S' := nnSet S j g k) (j := j) (g := g) hj6 rfl rfl (fun _ _ _ => rfl) (fun q hq => el_nn hq) hfc h1 h2 h3 hl (lvt (lvt (lvt h4))) h6 h7 h8 h9 (fun a b z hz => ?_) ?_ hS h
  · simp only [nnSet, up3] at hz
    split at hz
    · rename_i hy
      obtain ⟨rfl, rfl, rfl⟩ := hy
      exact Or.inr ⟨rfl, rfl, fun z => absurd z (rfk_cls hj).1, fun _ => hv⟩
    · exact Or.inl hz
  · rw [el_ref hj]
    have hf : (fun z => if (nnSet S j g k).2.2.1 j g z = true then some (adr E (erf j z).1 (erf j z).2) else none) = va_up (fun z => if S.2.2.1 j g z = true then some (adr E (erf j z).1 (erf j z).2) else none) i.toNatClampNeg (some (E.2.2.1 + numP (erf j k).1 (erf j k).2)) := by
      funext z
      rw [hcl]
      simp only [nnSet, up3, va_up]
      by_cases hz : z = k
      · subst hz
        simp [adr, e2]
      · simp [hz]
    rw [hf]
    exact hP
end SNG
