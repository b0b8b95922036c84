/-! SOUNDNESS, on: new cells -/
section SNH
variable {E : Env0} {X : State → Prop} {Y : MT} {d n0 : Nat} {p : Program} {l : Launch} {e : Env} {R : Room} {s : State} {m : MethodId} {args : Array Value} {below : List Frame} {meth : Method} {c : Code} {Q : State → Prop}
variable {pc t fc fs : Nat} {L : List (Option AV)} {st : List AV} {S : St}
/-- a new cell lies behind the last one -/
theorem new_at {H : Heap} {q : Nat} {ev : va_E} {n : Nat} (hP : va_P E.1 vwCl (wld E S ++ [(q, ev)]) H) (hD : va_D (baseA E) (wld E S ++ [(q, ev)])) (hz : H.size ≤ E.2.2.1 + n + 1) (hn : S.2.2.2.2 = n) : q = E.2.2.1 + S.2.2.2.2 := by
  have hlast : (wld E S ++ [(q, ev)])[S.2.2.2.2]? = some (q, ev) := by
    rw [List.getElem?_append_right (by rw [wld_len]; exact Nat.le_refl _), wld_len, Nat.sub_self]
    rfl
  have h1 := (hP _ _ hlast).lt
  have h2 : E.2.2.1 ≤ q := hD.2 _ _ hlast
  dsimp only at h1
  rcases Nat.lt_or_ge q (E.2.2.1 + S.2.2.2.2) with g | g
  · exfalso
    have hk : q - E.2.2.1 < S.2.2.2.2 := by omega
    have hold : (wld E S ++ [(q, ev)])[q - E.2.2.1]? = some (E.2.2.1 + (q - E.2.2.1), el E S (idOf (q - E.2.2.1))) := by
      rw [List.getElem?_append_left (by rw [wld_len]; exact hk)]
      simp [wld, List.getElem?_map, List.getElem?_range hk]
    have := hD.1 _ _ _ _ hold hlast (by dsimp only; omega)
    omega
  · omega
theorem rep_push {S' : St} {H H1 : Heap} {j g : Nat} {q : Nat} {ev : va_E} (h1 : Rep E S H) (hi : idOf S.2.2.2.2 = (j, g)) (hc : S'.2.2.2.2 = S.2.2.2.2 + 1) (ht : ∀ t, S'.2.2.2.1 t ≤ 4000) (ht2 : S'.2.2.2.1 1000 = S.2.2.2.1 1000) (hs : ∀ a, 60 ≤ a → ∀ k, S'.1 a 0 k = S.1 a 0 k) (ho : ∀ k, k < S.2.2.2.2 → el E S' (idOf k) = el E S (idOf k)) (hev : el E S' (j, g) = ev)
    (hP : va_P E.1 vwCl (wld E S ++ [(q, ev)]) H1) (hq : q = E.2.2.1 + S.2.2.2.2) (hz : H1.size ≤ E.2.2.1 + S.2.2.2.2 + 1)
    (hn : ∀ a b k, S'.2.2.1 a b k = true → S.2.2.1 a b k = true ∧ ¬ (a = j ∧ b = g)) (hal : ∀ a b, 1 ≤ rfk a → aln S'.2.2.2.1 a b = aln S.2.2.2.1 a b) : Rep E S' H1 := by
  obtain ⟨r1, r2, r3, r4, r5, r6, r7⟩ := h1
  subst hq
  rw [← hev, wld_push hi hc ho] at hP
  have hlow := wld_low hP (by rw [hc]; omega)
  have hb : ∀ a b, a < 60 → lvP S' a b → ¬ (a = j ∧ b = g) → lvP S a b := fun a b ha z hne => by
    obtain ⟨z1, z2⟩ := z.in ha
    refine Or.inl ⟨ha, ?_, z2⟩
    rcases Nat.lt_or_ge (numP a b) S.2.2.2.2 with y | y
    · exact y
    · exfalso
      have : numP a b = S.2.2.2.2 := by omega
      rw [this, hi] at z2
      exact hne ⟨(congrArg Prod.fst z2).symm, (congrArg Prod.snd z2).symm⟩
  have hf : ∀ a b, lvP S a b → lvP S' a b := fun a b z => z.up (by rw [hc]; omega)
  refine ⟨by rw [hc] at hlow ⊢; omega, hP, fun a ha k => by rw [hs a ha k]; exact r3 a ha k, by rw [ht2]; exact r4, ht, fun a b k x1 x2 x3 x4 x5 x6 => ?_, fun a b k x1 x2 x3 x4 x5 => ?_⟩
  · obtain ⟨y1, y2⟩ := hn a b k x6
    exact hf _ _ (r6 a b k (hb _ _ x2 x1 y2) x2 x3 x4 x5 y1)
  · obtain ⟨y1, y2⟩ := hn a b k x5
    exact hf _ _ (r7 a b k (hb _ _ x2 x1 y2) x2 x3 (by rw [← hal a b x3]; exact x4) y1)
theorem lv_new {S' : St} {j g : Nat} (hi : idOf S.2.2.2.2 = (j, g)) (hc : S'.2.2.2.2 = S.2.2.2.2 + 1) : lvP S' j g := by
  have hn : numP j g = S.2.2.2.2 := by
    have := numId S.2.2.2.2
    rw [hi] at this
    exact this
  refine Or.inl ⟨?_, by rw [hn, hc]; omega, by rw [hn, hi]⟩
  have := idLt S.2.2.2.2
  rw [hi] at this
  exact this
/-- on, behind a new cell -/
theorem s_newed {S' : St} {r : List AV} {j g n : Nat} {q w : Nat} {ev : va_E} {H H1 : Heap} {locs : List Loc} {ls : Array Slot} (hfc : fc < 1000) (hi : idOf S.2.2.2.2 = (j, g)) (hc : S'.2.2.2.2 = S.2.2.2.2 + 1) (ht : ∀ t, S'.2.2.2.1 t ≤ 4000) (ht2 : S'.2.2.2.1 1000 = S.2.2.2.1 1000) (hs : ∀ a, 60 ≤ a → ∀ k, S'.1 a 0 k = S.1 a 0 k) (ho : ∀ k, k < S.2.2.2.2 → el E S' (idOf k) = el E S (idOf k)) (hev : el E S' (j, g) = ev)
    (hn : ∀ a b k, S'.2.2.1 a b k = true → S.2.2.1 a b k = true ∧ ¬ (a = j ∧ b = g)) (hal : ∀ a b, 1 ≤ rfk a → aln S'.2.2.2.1 a b = aln S.2.2.2.1 a b)
    (h1 : Rep E S H) (h2 : LokL E ls Y.2.2.2.1 L) (h3 : ∀ k v, nth L k = some (some v) → lvA S v) (h4 : ∀ v ∈ r, lvA S v) (h6 : n0 ≤ S.2.2.2.2) (h7 : fc + 1 ≤ Y.1.2.2.1) (h8 : fs + w ≤ Y.1.2.2.2.1) (h9 : fc < 1000 → E.2.2.1 + S.2.2.2.2 = s.heap.size + fc)
    (hP : va_P E.1 vwCl (wld E S ++ [(q, ev)]) H1) (hD : va_D (baseA E) (wld E S ++ [(q, ev)])) (hS : va_S (baseA E) s.heap H1 locs) (h : PS E Y n0 p l e R s m args below meth c Q n L (aR j g :: r) S' (fc + 1) (fs + w)) : W p l e R s m args below meth c H1 locs (fc + 1) (fs + w) Q (F0 m n ls (.ref q :: r.map (cv E))) := by
  have x1 := h9 hfc
  refine W_sized fun hz => ?_
  have hq := new_at (n := S.2.2.2.2) hP hD (by omega) rfl
  have hR := rep_push h1 hi hc ht ht2 hs ho hev hP hq (by omega) hn hal
  have hle : S.2.2.2.2 ≤ S'.2.2.2.2 := by rw [hc]; omega
  have hlv : lvP S' j g := lv_new hi hc
  have hnum : numP j g = S.2.2.2.2 := by
    have := numId S.2.2.2.2
    rw [hi] at this
    exact this
  have hj6 : j < 60 := by
    have := idLt S.2.2.2.2
    rw [hi] at this
    exact this
  have hav : Value.ref q = cv E (aR j g) := by simp [cv, adr, hj6, hnum, hq]
  rw [hav]
  exact h H1 locs ls hR h2 (fun i u hu => (h3 i u hu).up hle) (lv1 (v := aR j g) hlv (fun u hu => (h4 u hu).up hle)) hS (by rw [hc]; omega) h7 h8 (fun _ => by rw [hc]; omega)
theorem clkW {own idx ci : Nat} (h : clk own idx = some ci) : ∀ w ∈ cwords own idx ci, w ∈ ALLW := by
  unfold clk at h
  split at h
  · cases h
  · rename_i l hl
    exact ALLW_of (fun w hw => cW_ok w (allT_in (f := cwords) hl h hw))
/-- a changed cell is another one -/
theorem el_ne {S' : St} {j g : Nat} (hi : idOf S.2.2.2.2 = (j, g)) (h : ∀ q, q ≠ (j, g) → el E S' q = el E S q) : ∀ k, k < S.2.2.2.2 → el E S' (idOf k) = el E S (idOf k) := fun k hk => h _ (fun z => by
  have := idInj (z.trans hi.symm)
  omega)
theorem mk_iv {j g n a b z : Nat} (h : ¬ (a = j ∧ b = g)) : (mkC S j g n).1 a b z = S.1 a b z := by
  simp only [mkC, zr3]
  rw [if_neg h]
theorem mk_nn {j g n a b z : Nat} (h : (mkC S j g n).2.2.1 a b z = true) : S.2.2.1 a b z = true ∧ ¬ (a = j ∧ b = g) := by
  simp only [mkC, zr3] at h
  split at h
  · cases h
  · exact ⟨h, by assumption⟩
theorem mk_tl {j g n t : Nat} (h : j = 31 → t ≠ g) : (mkC S j g n).2.2.2.1 t = S.2.2.2.1 t := by
  simp only [mkC]
  split
  · simp only [upN]
    rw [if_neg (h (by assumption))]
  · rfl
theorem mk_al {j g n a b : Nat} (h : j = 31 → a = 31 → b ≠ g) (h2 : a ≠ 60 ∨ (j = 31 → g ≠ 1000)) : aln (mkC S j g n).2.2.2.1 a b = aln S.2.2.2.1 a b := by
  unfold aln
  split <;> first | rfl | (exact mk_tl (fun z => h z rfl)) | (exact mk_tl (fun z y => by rcases h2 with q | q; exact q rfl; exact q z y.symm))
theorem mk_el {j g n : Nat} {q : Nat × Nat} (h : q ≠ (j, g)) (h2 : q.1 ≠ 60) : el E (mkC S j g n) q = el E S q := by
  have hne : ¬ (q.1 = j ∧ q.2 = g) := fun z => h (Prod.ext z.1 z.2)
  have e1 : (mkC S j g n).1 q.1 q.2 = S.1 q.1 q.2 := funext fun z => mk_iv hne
  have e2 : ∀ z, (mkC S j g n).2.2.1 q.1 q.2 z = S.2.2.1 q.1 q.2 z := fun z => by
    simp only [mkC, zr3]
    rw [if_neg hne]
  have e3 : fvl E (mkC S j g n) q.1 q.2 = fvl E S q.1 q.2 := funext fun z => by
    unfold fvl
    split
    · rfl
    · rw [e2]
    · rw [e1]
  have e4 : aln (mkC S j g n).2.2.2.1 q.1 q.2 = aln S.2.2.2.1 q.1 q.2 := mk_al (fun a b z => hne ⟨b.trans a.symm, z⟩) (Or.inl h2)
  unfold el
  rw [e1, e3, e4]
  simp only [e2]
theorem def_fv {ci : Nat} {q : vw_C} (hq : nth vwCl ci = some q) {ty0 : Nat → FieldType} (h0 : nth ftT ci = some ty0) {j g : Nat} (hj : clsP j = ci) {S1 : St} (e1 : ∀ z, S1.1 j g z = 0) (e2 : ∀ z, S1.2.2.1 j g z = false) (e3 : ci = 6 → S1.2.1 = 0) (k : Nat) (hk : k < q.2.2) : defaultValue (ty0 k) = fvl E S1 j g k := by
  subst hj
  have ha : ∀ ci, ci < 7 → ∀ ty, nth ftT ci = some ty → ∀ k, k < nFl ci → defaultValue (ty k) = (match tcd (ty k) with
    | 1 => .long 0
    | 2 => .null
    | _ => .int 0) ∧ (tcd (ty k) = 1 → ci = 6) := by
    intro ci hci ty hty
    match ci, hty with
    | 0, hty => cases hty; decide +kernel
    | 1, hty => cases hty; decide +kernel
    | 2, hty => cases hty; decide +kernel
    | 3, hty => cases hty; decide +kernel
    | 4, hty => cases hty; decide +kernel
    | 5, hty => cases hty; decide +kernel
    | n + 6, hty => simp [ftT, nth] at hty
  obtain ⟨c1, c2, c3, c4, c5, c6, c7⟩ := clsF hq
  obtain ⟨b1, b2⟩ := ha (clsP j) c6 ty0 h0 k (by rw [← c7]; exact hk)
  rw [b1]
  have hf : fty (clsP j) k = tcd (ty0 k) := by simp [fty, h0]
  unfold fvl
  rw [hf]
  generalize tcd (ty0 k) = v at b2 ⊢
  rcases v with _ | _ | _ | v
  · show Value.int 0 = Value.int (S1.1 j g k)
    rw [e1]
  · show Value.long 0 = Value.long S1.2.1
    rw [e3 (b2 rfl)]
  · show Value.null = if S1.2.2.1 j g k = true then _ else _
    rw [e2]
    simp
  · show Value.int 0 = Value.int (S1.1 j g k)
    rw [e1]
theorem s_new (C : Ctx E X Y d p R s m args meth c) {ix ci j g : Nat} {q : vw_C} (hd : decode Y.2.2.1 pc = .ok (.new ix, 3)) (hci : clk Y.1.2.1 ix = some ci) (hq : nth vwCl ci = some q) (hfc : fc < 1000) (hi : idOf S.2.2.2.2 = (j, g)) (hj : clsP j = ci) (hg1 : fc + 1 ≤ Y.1.2.2.1) (hg2 : fs + q.2.2 ≤ Y.1.2.2.2.1) (h6' : ci = 6 → S.2.1 = 0)
    (h : PS E Y n0 p l e R s m args below meth c Q (pc + 3) L (aR j g :: st) (mkC S j g 0) (fc + 1) (fs + q.2.2)) : PS E Y n0 p l e R s m args below meth c Q pc L st S fc fs := by
  intro H locs ls h1 h2 h3 h4 h5 h6 h7 h8 h9
  obtain ⟨c1, c2, ⟨ty0, c0, c3⟩, c4, c5, c6, c7⟩ := clsF hq
  have hw := clkW hci
  have hw' : cwords Y.1.2.1 ix ci = [.classLink (own8 Y.1.2.1) ix q.1, .instantiable q.1 q.2.2, .initialized q.1] := by simp [cwords, hq]
  rw [hw'] at hw
  have hj31 : ¬ j = 31 := fun z => by subst z; rw [← hj] at c6; exact absurd c6 (by decide)
  have f1 : ∀ z, (mkC S j g 0).1 j g z = 0 := fun z => by simp [mkC, zr3]
  have f2 : ∀ z, (mkC S j g 0).2.2.1 j g z = false := fun z => by simp [mkC, zr3]
  have hdf := def_fv (E := E) hq c0 (g := g) hj f1 f2 h6'
  have hel : el E (mkC S j g 0) (j, g) = .inr (ci, (List.range q.2.2).map (fvl E (mkC S j g 0) j g)) := by
    rw [c7, ← hj]
    simp [el, show clsP j < 7 by rw [hj]; exact c6]
  refine va_new (D := E.1) (cl := vwCl) (tys := tysE E) (ws := wld E S) (A := baseA E) (H0 := H) (C := q.1) (T := q.2.1) (N := q.2.2) (ci := ci) (fs := (List.range q.2.2).map (fvl E (mkC S j g 0) j g)) C.1 C.2.1 C.2.2.2.2.1 c2 ty0 c3 C.2.2.2.1 (C.2.2.2.2.1 _ (hw _ (by simp))) (C.2.2.2.2.1 _ (hw _ (by simp))) (C.2.2.2.2.1 _ (hw _ (by simp))) C.2.2.2.2.2.2.1.1 h1.2.1 (wld_D E S) (va_Sn h5) (fun z hz => ?_) c1 (fun k hk => ?_) (Nat.le_trans hg1 C.2.2.2.2.2.2.2.2.2.1) (Nat.le_trans hg2 C.2.2.2.2.2.2.2.2.2.2.1) hd (fun z H1 hP hD hS => ?_)
  · have := h1.1
    show E.2.2.1 ≤ z
    omega
  · rw [hdf k hk]
    simp [vp_V, List.getD_eq_getElem?_getD, List.getElem?_map, List.getElem?_range hk]
  · exact s_newed hfc hi rfl (fun t => by rw [mk_tl (fun z => absurd z hj31)]; exact h1.2.2.2.2.1 t) (mk_tl (fun z => absurd z hj31)) (fun a ha k => mk_iv (fun z => by
        have := idLt S.2.2.2.2
        rw [hi] at this
        dsimp only at this
        omega)) (fun k hk => mk_el (fun z => by
        have := idInj (z.trans hi.symm)
        omega) (by have := idLt k; omega)) hel (fun a b k hk => mk_nn hk) (fun a b _ => mk_al (fun z => absurd z hj31) (Or.inr (fun z => absurd z hj31))) h1 h2 h3 h4 h6 hg1 hg2 h9 hP hD (va_Str h5 hS) h
/-- the class of an int row, of a boolean row, is one -/
theorem cls_one {tys : List (ClassId × FieldType)} {s : State} {cA cB : ClassId} {ty : FieldType} {k : Nat} (hK : va_K E.1 vwCl (tys ++ [(cA, ty)]) s) (hk : tys[k]? = some (cB, ty)) : cA = cB := by
  have hl : k < tys.length := (List.getElem?_eq_some_iff.mp hk).1
  have h1 := (hK.2 tys.length (cA, ty) (by simp)).2
  have h2 := (hK.2 k (cB, ty) (by rw [List.getElem?_append_left hl]; exact hk)).2
  dsimp only at h1 h2
  cases ty with
  | object C =>
    obtain ⟨_, _, -, -, -, a⟩ := h1
    obtain ⟨_, _, -, -, -, b⟩ := h2
    exact Option.some.inj (a.symm.trans b)
  | _ => exact Option.some.inj (h1.symm.trans h2)
theorem nI_nn {k : Nat} (h : k ≤ 4000) : ¬ nI k < 0 ∧ (nI k).toNatClampNeg = k := ⟨nI_pos (by omega), nI_clamp (by omega)⟩
theorem aW {w : Cond} (h : w ∈ ([.arrayClass .int] : List Cond)) : w ∈ ALLW := ALLW_of aW_ok w h
theorem mk_row {j g n : Nat} : (mkC S j g n).1 j g = fun _ => 0 := funext fun z => by simp [mkC, zr3]
theorem s_newI (C : Ctx E X Y d p R s m args meth c) {j g k : Nat} {r : List AV} (hd : decode Y.2.2.1 pc = .ok (.newarray .int, 2)) (hfc : fc < 1000) (hk : k ≤ 1000) (hi : idOf S.2.2.2.2 = (j, g)) (hg : g ≤ 100) (hj : iak j = 1) (hln : j = 31 ∨ aln S.2.2.2.1 j g = k) (hg1 : fc + 1 ≤ Y.1.2.2.1) (hg2 : fs + k ≤ Y.1.2.2.2.1)
    (h : PS E Y n0 p l e R s m args below meth c Q (pc + 2) L (aR j g :: r) (mkC S j g k) (fc + 1) (fs + k)) : PS E Y n0 p l e R s m args below meth c Q pc L (aI (nI k) :: r) S fc fs := by
  intro H locs ls h1 h2 h3 h4 h5 h6 h7 h8 h9
  obtain ⟨k1, k2⟩ := nI_nn (k := k) (by omega)
  have hal : aln (mkC S j g k).2.2.2.1 j g = k := by
    by_cases z : j = 31
    · subst z
      simp [aln, mkC, upN]
    · rw [mk_al (fun y => absurd y z) (Or.inr (fun y => absurd y z))]
      rcases hln with y | y
      · exact absurd y z
      · exact y
  have hel : el E (mkC S j g k) (j, g) = .inl (E.2.1 0, k, .inl (fun _ => 0)) := by rw [el_int hj, hal, mk_row]
  refine va_newa (D := E.1) (cl := vwCl) (tys := tysE E) (ws := wld E S) (A := baseA E) (H0 := H) (atype := .int) (ty := .int) C.1 C.2.1 (C.2.2.2.2.1 _ (aW (by simp [newarray.typeOf]))) rfl C.2.2.2.2.2.2.1.1 h1.2.1 (wld_D E S) (va_Sn h5) (fun z hz => ?_) (N' := k) (a0 := (k, .inl (fun _ => 0))) (fun cA => rfl) k1 k2 (Nat.le_trans (Nat.mul_le_mul_right _ hk) (by decide)) (Nat.le_trans hg1 C.2.2.2.2.2.2.2.2.2.1) (Nat.le_trans hg2 C.2.2.2.2.2.2.2.2.2.2.1) hd (fun z cA H1 hK hP hD hS => ?_)
  · have := h1.1
    show E.2.2.1 ≤ z
    omega
  · have hcA : cA = E.2.1 0 := cls_one (k := 0) hK rfl
    subst hcA
    exact s_newed hfc hi rfl (fun t => by
        by_cases z : j = 31 ∧ t = g
        · simp only [mkC, z.1, z.2, if_true, upN]
          omega
        · rw [mk_tl (fun a b => z ⟨a, b⟩)]; exact h1.2.2.2.2.1 t) (mk_tl (fun _ z => by omega)) (fun a ha k => mk_iv (fun z => by
        have := idLt S.2.2.2.2
        rw [hi] at this
        dsimp only at this
        omega)) (fun k hk => mk_el (fun z => by
        have := idInj (z.trans hi.symm)
        omega) (by have := idLt k; omega)) hel (fun a b k hk => mk_nn hk) (fun a b hr => mk_al (fun _ z => by subst z; exact absurd hr (by decide)) (Or.inr (fun _ => by omega))) h1 h2 h3 (lvt h4) h6 hg1 hg2 h9 hP hD (va_Str h5 hS) h
theorem s_newR (C : Ctx E X Y d p R s m args meth c) {ix ci j g k : Nat} {r : List AV} (hd : decode Y.2.2.1 pc = .ok (.anewarray ix, 3)) (hci : clk Y.1.2.1 ix = some ci) (hfc : fc < 1000) (hk : k ≤ 1000) (hi : idOf S.2.2.2.2 = (j, g)) (hj : (rfk j = 1 ∧ ci = 0) ∨ (rfk j = 2 ∧ ci = 3) ∨ (rfk j = 3 ∧ ci = 4)) (hln : aln S.2.2.2.1 j g = k) (hg1 : fc + 1 ≤ Y.1.2.2.1) (hg2 : fs + k ≤ Y.1.2.2.2.1)
    (h : PS E Y n0 p l e R s m args below meth c Q (pc + 3) L (aR j g :: r) (mkC S j g k) (fc + 1) (fs + k)) : PS E Y n0 p l e R s m args below meth c Q pc L (aI (nI k) :: r) S fc fs := by
  intro H locs ls h1 h2 h3 h4 h5 h6 h7 h8 h9
  obtain ⟨k1, k2⟩ := nI_nn (k := k) (by omega)
  have hr1 : 1 ≤ rfk j := by omega
  have hj31 : ¬ j = 31 := fun z => by subst z; exact absurd hr1 (by decide)
  have hal : aln (mkC S j g k).2.2.2.1 j g = k := by
    rw [mk_al (fun y => absurd y hj31) (Or.inr (fun y => absurd y hj31))]
    exact hln
  have hel : el E (mkC S j g k) (j, g) = .inl (E.2.1 (rfk j), k, .inr (.inr (.inr (.inr (fun _ => none))))) := by
    rw [el_ref hr1, hal]
    have : (fun z => if (mkC S j g k).2.2.1 j g z = true then some (adr E (erf j z).1 (erf j z).2) else none) = fun _ => none := funext fun z => by simp [mkC, zr3]
    rw [this]
  have hst := C.2.2.2.2.2.2.1
  obtain ⟨q, hq, hao, hty⟩ : ∃ q, nth vwCl ci = some q ∧ va_AO q.1 s ∧ (tysE E)[rfk j]? = some (E.2.1 (rfk j), .object q.1) := by
    rcases hj with ⟨a, rfl⟩ | ⟨a, rfl⟩ | ⟨a, rfl⟩
    · exact ⟨_, rfl, hst.2.2.2.2.2.2.2.2.2.2.1, by rw [a]; rfl⟩
    · exact ⟨_, rfl, hst.2.2.2.2.2.2.2.2.2.2.2.1, by rw [a]; rfl⟩
    · exact ⟨_, rfl, hst.2.2.2.2.2.2.2.2.2.2.2.2.1, by rw [a]; rfl⟩
  have hw := clkW hci
  have hw' : cwords Y.1.2.1 ix ci = [.classLink (own8 Y.1.2.1) ix q.1, .instantiable q.1 q.2.2, .initialized q.1] := by simp [cwords, hq]
  rw [hw'] at hw
  refine va_newq (D := E.1) (cl := vwCl) (tys := tysE E) (ws := wld E S) (A := baseA E) (H0 := H) C.1 C.2.1 C.2.2.2.1 (C.2.2.2.2.1 _ (hw _ (by simp))) hao C.2.2.2.2.2.2.1.1 h1.2.1 (wld_D E S) (va_Sn h5) (fun z hz => ?_) k1 k2 (by omega) (Nat.le_trans hg1 C.2.2.2.2.2.2.2.2.2.1) (Nat.le_trans hg2 C.2.2.2.2.2.2.2.2.2.2.1) hd (fun z cA H1 hK hP hD hS => ?_)
  · have := h1.1
    show E.2.2.1 ≤ z
    omega
  · have hcA : cA = E.2.1 (rfk j) := cls_one (k := rfk j) hK hty
    subst hcA
    exact s_newed hfc hi rfl (fun t => by rw [mk_tl (fun z => absurd z hj31)]; exact h1.2.2.2.2.1 t) (mk_tl (fun z => absurd z hj31)) (fun a ha k => mk_iv (fun z => by
        have := idLt S.2.2.2.2
        rw [hi] at this
        dsimp only at this
        omega)) (fun k hk => mk_el (fun z => by
        have := idInj (z.trans hi.symm)
        omega) (by have := idLt k; omega)) hel (fun a b k hk => mk_nn hk) (fun a b _ => mk_al (fun z => absurd z hj31) (Or.inr (fun z => absurd z hj31))) h1 h2 h3 (lvt h4) h6 hg1 hg2 h9 hP hD (va_Str h5 hS) h
end SNH
