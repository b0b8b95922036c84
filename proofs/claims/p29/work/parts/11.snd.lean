/-! SOUNDNESS, on: switches, fields, arrays -/
section SNF
variable {E : Env0} {X : State → Prop} {Y : MT} {d n0 : Nat} {p : Program} {l : Launch} {e : Env} {R : Room} {s : State} {m : MethodId} {args : Array Value} {below : List Frame} {meth : Method} {c : Code} {Q : State → Prop}
variable {pc t fc fs : Nat} {L : List (Option AV)} {st : List AV} {S : St}
theorem swP_none {x : Int32} {P : Nat → Prop} : ∀ (sw : List (Int32 × Nat)) (t : Nat), swP x P sw t → (∀ k q, nth sw k = some q → x ≠ q.1) → P t
  | [], t, h, _ => h
  | a :: l, t, h, hn => swP_none l t (h.2 (hn 0 a rfl)) (fun k q hk => hn (k + 1) q hk)
theorem swP_at {x : Int32} {P : Nat → Prop} : ∀ (sw : List (Int32 × Nat)) (t k : Nat) (q : Int32 × Nat), swP x P sw t → nth sw k = some q → x = q.1 → (∀ k' q', k' < k → nth sw k' = some q' → x ≠ q'.1) → P q.2
  | [], _, _, _, _, hk, _, _ => by simp [nth] at hk
  | a :: l, t, 0, q, h, hk, hx, _ => by
    simp only [nth, Option.some.injEq] at hk
    subst hk
    exact h.1 hx
  | a :: l, t, k + 1, q, h, hk, hx, hn => swP_at l t k q (h.2 (hn 0 a (by omega) rfl)) hk hx (fun k' q' hk' hq' => hn (k' + 1) q' (by omega) hq')
theorem nth_some {α : Type} : ∀ (l : List α) (k : Nat), k < l.length → ∃ a, nth l k = some a
  | [], k, h => by simp at h
  | a :: l, 0, _ => ⟨a, rfl⟩
  | a :: l, k + 1, h => nth_some l k (by simpa using h)
theorem nth_lt {α : Type} : ∀ (l : List α) (k : Nat) (a : α), nth l k = some a → k < l.length
  | [], k, a, h => by simp [nth] at h
  | b :: l, 0, _, _ => by simp
  | b :: l, k + 1, a, h => by
    have := nth_lt l k a h
    simp
    exact this
theorem ofInt_toInt {z : Int} (h0 : 0 ≤ z) (h1 : z < 2147483648) : (Int32.ofInt z).toInt = z := by
  obtain ⟨n, rfl⟩ := Int.eq_ofNat_of_zero_le h0
  have h2 : n < 2 ^ 31 := by omega
  exact nI_toInt h2
theorem s_table (C : Ctx E X Y d p R s m args meth c) {df lo hi : Int} {offs : Array Int} {len : Nat} {x0 : Int32} {sw : List (Int32 × Nat)} (hd : decode Y.2.2.1 pc = .ok (.tableswitch df lo hi offs, len)) (hk : ckI (.tableswitch df lo hi offs) pc t x0 sw = true) (h : popI st fun x r => swP x (fun d => PS E Y n0 p l e R s m args below meth c Q d L r S fc fs) sw t) : PS E Y n0 p l e R s m args below meth c Q pc L st S fc fs := by
  obtain ⟨x, r, rfl, h_1⟩ := popI_of h
  simp only [ckI, Bool.and_eq_true, decide_eq_true_eq] at hk
  obtain ⟨⟨⟨⟨⟨k1, k2⟩, k3⟩, k4⟩, k5⟩, k6⟩ := hk
  have at' : ∀ k q, nth sw k = some q → q.1.toInt = lo + k ∧ ∃ o, offs[k]? = some o ∧ (pc : Int) + o = (q.2 : Int) := by
    intro k q hq
    have hkl := nth_lt sw k q hq
    have h9 := List.all_eq_true.mp k6 k (List.mem_range.mpr hkl)
    rw [hq] at h9
    have ho : offs[k]? = some (offs[k]'(by omega)) := by simp [show k < offs.size by omega]
    rw [ho] at h9
    simp only [Bool.and_eq_true, decide_eq_true_eq] at h9
    refine ⟨?_, _, ho, h9.2⟩
    rw [h9.1, ofInt_toInt (by omega) (by omega)]
  intro H locs ls h1 h2 h3 h4 h5 h6 h7 h8 h9
  by_cases hout : x.toInt < lo ∨ hi < x.toInt
  · refine lv_tableOut C.1 C.2.1 hd hout k1 ?_
    exact swP_none sw t h_1 (fun k q hq hx => by
      obtain ⟨a, -⟩ := at' k q hq
      have hkl := nth_lt sw k q hq
      rw [hx] at hout
      rcases hout with g | g <;> omega) H locs ls h1 h2 h3 (lvt h4) h5 h6 h7 h8 h9
  · have ha : ¬ x.toInt < lo := fun z => hout (Or.inl z)
    have hb : ¬ hi < x.toInt := fun z => hout (Or.inr z)
    obtain ⟨q, hq⟩ := nth_some sw (x.toInt - lo).toNat (by omega)
    obtain ⟨a, o, ho, hp⟩ := at' _ q hq
    refine lv_tableIn C.1 C.2.1 hd ha hb ho hp ?_
    have hxq : x = q.1 := Int32.toInt_inj.mp (by rw [a]; omega)
    exact swP_at sw t _ q h_1 hq hxq (fun k' q' hk' hq' hx => by
      obtain ⟨a', -⟩ := at' k' q' hq'
      rw [← hx] at a'
      omega) H locs ls h1 h2 h3 (lvt h4) h5 h6 h7 h8 h9
theorem fldW {own idx : Nat} {f : Nat × Nat × Nat × Bool} (h : fld own idx = some f) : ckF own f = true ∧ ∀ w ∈ fwords own idx f, w ∈ ALLW := by
  unfold fld at h
  split at h
  · cases h
  · rename_i l hl
    exact ⟨enum_all (f := fun o _ e => ckF o e) ckF_ok hl h, ALLW_of (fun w hw => fW_ok w (allT_in (f := fwords) hl h hw))⟩
/-- a class: its row of vwCl, its words, its types -/
theorem clsF {ci : Nat} {q : vw_C} (h : nth vwCl ci = some q) : vwCl[ci]? = some q ∧ (∀ w ∈ u_ws q.1 q.2.1 q.2.2, w ∈ ALLW) ∧ (∃ ty0 : Nat → FieldType, nth ftT ci = some ty0 ∧ (∀ k, k < q.2.2 → parseFieldDescriptor (q.2.1 k).2.2.1 = some (ty0 k))) ∧ (∀ a, a < q.2.2 → ∀ b, b < q.2.2 → a ≠ b → (q.2.1 a).2.1 ≠ (q.2.1 b).2.1) ∧ q.1 = own8 ci ∧ ci < 7 ∧ q.2.2 = nFl ci := by
  have hn : nFl ci = q.2.2 := by simp [nFl, h]
  refine ⟨by rw [← nth_get]; exact h, ?_⟩
  match ci, h with
  | 0, h => cases h; exact ⟨ALLW_of uW_0, ⟨tyX0, rfl, tyX0_ok⟩, nmX0, rfl, by omega, rfl⟩
  | 1, h => cases h; exact ⟨ALLW_of uW_1, ⟨tyX1, rfl, tyX1_ok⟩, nmX1, rfl, by omega, rfl⟩
  | 2, h => cases h; exact ⟨ALLW_of uW_2, ⟨tyX2, rfl, tyX2_ok⟩, nmX2, rfl, by omega, rfl⟩
  | 3, h => cases h; exact ⟨ALLW_of uW_3, ⟨tyX3, rfl, tyX3_ok⟩, nmX3, rfl, by omega, rfl⟩
  | 4, h => cases h; exact ⟨ALLW_of uW_4, ⟨tyX4, rfl, tyX4_ok⟩, nmX4, rfl, by omega, rfl⟩
  | 5, h => cases h; exact ⟨ALLW_of uW_5, ⟨tyX5, rfl, tyX5_ok⟩, nmX5, rfl, by omega, rfl⟩
  | n + 6, h => simp [nth] at h
/-- a link to a field, in the words of the rows -/
theorem fldQ {own idx ci k ty : Nat} {fin : Bool} (h : fld own idx = some (ci, k, ty, fin)) : ∃ q : vw_C, nth vwCl ci = some q ∧ k < q.2.2 ∧ fty ci k = ty ∧ (q.2.1 k).2.2.2 = fin ∧ (q.2.1 k).1 = own8 ci ∧ Jvm.Cond.fieldLink (own8 own) idx (q.2.1 k).1 (q.2.1 k).2.1 (q.2.1 k).2.2.1 ∈ ALLW := by
  obtain ⟨h1, h2⟩ := fldW h
  unfold ckF at h1
  dsimp only at h1
  split at h1
  · cases h1
  · rename_i q hq
    simp only [Bool.and_eq_true, decide_eq_true_eq] at h1
    obtain ⟨⟨⟨⟨a1, a2⟩, a3⟩, a4⟩, a5⟩ := h1
    exact ⟨q, hq, Nat.le_of_ble_eq_true a1, a2, a3, a4, h2 _ (by simp [fwords, hq])⟩
theorem el_obj {j g : Nat} (h : clsP j < 7) : el E S (j, g) = .inr (clsP j, (List.range (nFl (clsP j))).map (fvl E S j g)) := by simp [el, h]
theorem cv_frf {j g k : Nat} (h1 : fty (clsP j) k = 2) (h2 : S.2.2.1 j g k = true) : fvl E S j g k = cv E (Sum.inr (Sum.inr (some (frf j g k)))) := by
  simp [fvl, h1, h2, cv]
/-- the cells that can be read: a live one of the world -/
theorem cls_lt {j : Nat} (h : clsP j < 7) : j < 60 := by
  rcases Nat.lt_or_ge j 60 with g | g
  · exact g
  · exfalso
    unfold clsP at h
    split at h <;> omega
theorem s_getf (C : Ctx E X Y d p R s m args meth c) {ix ci k ty : Nat} {fin : Bool} (hd : decode Y.2.2.1 pc = .ok (.getfield ix, 3)) (hf : fld Y.1.2.1 ix = some (ci, k, ty, fin)) {j g : Nat} {r : List AV} (hj : clsP j = ci) {v : AV} (hv : ∀ H, lvP S j g → j < 60 → k < nFl ci → fty ci k = ty → Rep E S H → lvA S v) (hvl : fty ci k = ty → fvl E S j g k = cv E v)
    (h : PS E Y n0 p l e R s m args below meth c Q (pc + 3) L (v :: r) S fc fs) : PS E Y n0 p l e R s m args below meth c Q pc L (aR j g :: r) S fc fs := by
  intro H locs ls h1 h2 h3 h4 h5 h6 h7 h8 h9
  obtain ⟨q, hq, hk, hty, hfin, hdecl, hw⟩ := fldQ hf
  subst hj
  obtain ⟨c1, c2, ⟨ty0, -, c3⟩, c4, c5, c6, c7⟩ := clsF hq
  have hl : lvP S j g := lvh h4
  have hj := cls_lt c6
  obtain ⟨a1, a2⟩ := hl.in hj
  have hg := wld_get (E := E) a1 a2
  rw [el_obj c6] at hg
  have ha : cv E (aR j g) = .ref (E.2.2.1 + numP j g) := by simp [cv, adr, hj]
  rw [List.map_cons, ha]
  have hfs : ((List.range (nFl (clsP j))).map (fvl E S j g))[k]? = some (cv E v) := by
    rw [List.getElem?_map, List.getElem?_range (by rw [← c7]; exact hk)]
    simp [hvl hty]
  exact va_get (D := E.1) (cl := vwCl) (tys := tysE E) (ws := wld E S) (ci := clsP j) (C := q.1) (T := q.2.1) (N := q.2.2) C.1 C.2.1 C.2.2.2.2.1 c2 C.2.2.2.1 C.2.2.2.2.2.2.1.1 h1.2.1 (numP j g) hg c1 k hk (C.2.2.2.2.1 _ hw) (fun _ hx => hx) hfs hd (h H locs ls h1 h2 h3 (lv1 (hv H hl hj (by rw [← c7]; exact hk) hty h1) (lvt h4)) h5 h6 h7 h8 h9)
/-- where few cells were made, the heap's size is known -/
theorem W_sized {H : Heap} {locs : List Loc} {cells slots : Nat} {g : JFrame} (h : H.size ≤ s.heap.size + cells → W p l e R s m args below meth c H locs cells slots Q g) : W p l e R s m args below meth c H locs cells slots Q g := by
  intro T hT Z
  have hz := Z.heapSize
  rw [hT] at hz
  exact h hz T hT Z
theorem wld_low {H : Heap} (h : va_P E.1 vwCl (wld E S) H) (h0 : 0 < S.2.2.2.2) : E.2.2.1 + S.2.2.2.2 ≤ H.size := by
  have hl : S.2.2.2.2 - 1 < (wld E S).length := by rw [wld_len]; omega
  have hg : (wld E S)[S.2.2.2.2 - 1]? = some (E.2.2.1 + (S.2.2.2.2 - 1), el E S (idOf (S.2.2.2.2 - 1))) := by
    simp [wld, List.getElem?_map, List.getElem?_range (show S.2.2.2.2 - 1 < S.2.2.2.2 by omega)]
  have := (h _ _ hg).lt
  dsimp only at this
  omega
/-- a state with one cell's contents changed -/
theorem rep_set {S' : St} {H H1 : Heap} {j g : Nat} (h1 : Rep E S H) (hl : lvP S j g) (hj : j < 60) (hc : S'.2.2.2.2 = S.2.2.2.2) (ht : S'.2.2.2.1 = S.2.2.2.1) (hs : ∀ a, 60 ≤ a → ∀ k, S'.1 a 0 k = S.1 a 0 k) (ho : ∀ k, k ≠ numP j g → k < S.2.2.2.2 → el E S' (idOf k) = el E S (idOf k)) (hP : va_P E.1 vwCl ((wld E S).set (numP j g) (E.2.2.1 + numP j g, el E S' (j, g))) H1) (hz : H1.size ≤ E.2.2.1 + S.2.2.2.2)
    (hn : ∀ a b k, S'.2.2.1 a b k = true → S.2.2.1 a b k = true ∨ (a = j ∧ b = g ∧ ((clsP a < 7 → fty (clsP a) k = 2 → lvP S (frf a b k).1 (frf a b k).2) ∧ (1 ≤ rfk a → lvP S (erf a k).1 (erf a k).2)))) : Rep E S' H1 := by
  obtain ⟨r1, r2, r3, r4, r5, r6, r7⟩ := h1
  obtain ⟨a1, a2⟩ := hl.in hj
  rw [wld_set a1 hc ho a2] at hP
  have hlow := wld_low hP (by rw [hc]; omega)
  have hb : ∀ a b, lvP S' a b → lvP S a b := fun a b z => z.up (Nat.le_of_eq hc)
  have hf : ∀ a b, lvP S a b → lvP S' a b := fun a b z => z.up (Nat.le_of_eq hc.symm)
  refine ⟨by rw [hc] at hlow ⊢; omega, hP, fun a ha k => by rw [hs a ha k]; exact r3 a ha k, by rw [ht]; exact r4, fun t => by rw [ht]; exact r5 t, fun a b k x1 x2 x3 x4 x5 x6 => ?_, fun a b k x1 x2 x3 x4 x5 => ?_⟩
  · rcases hn a b k x6 with z | ⟨-, -, z, -⟩
    · exact hf _ _ (r6 a b k (hb _ _ x1) x2 x3 x4 x5 z)
    · exact hf _ _ (z x3 x4)
  · rcases hn a b k x5 with z | ⟨-, -, -, z⟩
    · exact hf _ _ (r7 a b k (hb _ _ x1) x2 x3 (by rw [← ht]; exact x4) z)
    · exact hf _ _ (z x3)
theorem s_putf (C : Ctx E X Y d p R s m args meth c) {ix ci k ty : Nat} {fin : Bool} (hd : decode Y.2.2.1 pc = .ok (.putfield ix, 3)) (hin : fin = true → Y.2.1.name = "<init>" ∧ ci = Y.1.2.1) (hf : fld Y.1.2.1 ix = some (ci, k, ty, fin)) {j g : Nat} {r : List AV} (hj : clsP j = ci) {v : AV} {S' : St}
    (hval : ∀ ty0 : FieldType, tcd ty0 = ty → narrow ty0 (cv E v) = cv E v ∧ fits ty0 (cv E v) = true) (hc : S'.2.2.2.2 = S.2.2.2.2) (ht : S'.2.2.2.1 = S.2.2.2.1) (hs : ∀ a, 60 ≤ a → ∀ k, S'.1 a 0 k = S.1 a 0 k) (ho : lvP S j g → ∀ k, k ≠ numP j g → k < S.2.2.2.2 → el E S' (idOf k) = el E S (idOf k))
    (hth : fty ci k = ty → ∀ z, fvl E S' j g z = if z = k then cv E v else fvl E S j g z)
    (hn : lvA S v → fty ci k = ty → ∀ a b z, S'.2.2.1 a b z = true → S.2.2.1 a b z = true ∨ (a = j ∧ b = g ∧ ((clsP a < 7 → fty (clsP a) z = 2 → lvP S (frf a b z).1 (frf a b z).2) ∧ (1 ≤ rfk a → lvP S (erf a z).1 (erf a z).2))))
    (hfc : fc < 1000) (h : PS E Y n0 p l e R s m args below meth c Q (pc + 3) L r S' fc fs) : PS E Y n0 p l e R s m args below meth c Q pc L (v :: aR j g :: r) S fc fs := by
  intro H locs ls h1 h2 h3 h4 h5 h6 h7 h8 h9
  obtain ⟨q, hq, hk, hty, hfin, hdecl, hw⟩ := fldQ hf
  subst hj
  obtain ⟨c1, c2, ⟨ty0, c0, c3⟩, c4, c5, c6, c7⟩ := clsF hq
  have hl : lvP S j g := lvh (lvt h4)
  have hlv : lvA S v := lvh h4
  have hex := h9 hfc
  have hj := cls_lt c6
  obtain ⟨a1, a2⟩ := hl.in hj
  have hg := wld_get (E := E) a1 a2
  rw [el_obj c6] at hg
  have ha : cv E (aR j g) = .ref (E.2.2.1 + numP j g) := by simp [cv, adr, hj]
  rw [List.map_cons, List.map_cons, ha]
  have hset : ((List.range (nFl (clsP j))).map (fvl E S j g)).set k (cv E v) = (List.range (nFl (clsP j))).map (fvl E S' j g) := by
    apply List.ext_getElem?
    intro z
    by_cases hz : z = k
    · subst hz
      rw [List.getElem?_set_self (by simp [← c7]; exact hk), List.getElem?_map, List.getElem?_range (by rw [← c7]; exact hk)]
      simp [hth hty]
    · rw [List.getElem?_set_ne (fun y => hz y.symm), List.getElem?_map, List.getElem?_map]
      by_cases hl : z < nFl (clsP j)
      · rw [List.getElem?_range hl]
        simp [hth hty, hz]
      · rw [List.getElem?_eq_none (by simp; omega)]
        rfl
  have hel : el E S' (j, g) = .inr (clsP j, (List.range (nFl (clsP j))).map (fvl E S' j g)) := by simp [el, c6]
  have hty0 : tcd (ty0 k) = ty := by
    rw [← hty]
    simp [fty, c0]
  obtain ⟨hna, hfi⟩ := hval (ty0 k) hty0
  have fin' : ∀ (H1 : Heap) (locs1 : List Loc), va_P E.1 vwCl ((wld E S).set (numP j g) (E.2.2.1 + numP j g, .inr (clsP j, ((List.range (nFl (clsP j))).map (fvl E S j g)).set k (cv E v)))) H1 → va_S (baseA E) s.heap H1 locs1 → W p l e R s m args below meth c H1 locs1 fc fs Q (F0 m (pc + 3) ls (r.map (cv E))) := by
    intro H1 locs1 hP hS
    refine W_sized fun hz => ?_
    rw [hset, ← hel] at hP
    have hR := rep_set h1 hl hj hc ht hs (ho hl) hP (by omega) (hn hlv hty)
    exact h H1 locs1 ls hR h2 (fun i u hu => (h3 i u hu).up (Nat.le_of_eq hc.symm)) (fun u hu => ((lvt (lvt h4)) u hu).up (Nat.le_of_eq hc.symm)) hS (by rw [hc]; exact h6) h7 h8 (fun _ => by rw [hc]; exact hex)
  cases fin with
  | false => exact va_put (D := E.1) (cl := vwCl) (tys := tysE E) (ws := wld E S) (A := baseA E) (H0 := s.heap) (ci := clsP j) (C := q.1) (T := q.2.1) (N := q.2.2) C.1 C.2.1 C.2.2.2.2.1 c2 ty0 c3 c4 C.2.2.2.1 C.2.2.2.2.2.2.1.1 h1.2.1 (wld_D E S) h5 (numP j g) hg c1 k hk (C.2.2.2.2.1 _ hw) (fun _ hx => hx) hfin (c3 k hk) hna hfi (by simp [← c7]; exact hk) hd (fun H1 locs1 hP _ hS => fin' H1 locs1 hP hS)
  | true => exact va_putF (D := E.1) (cl := vwCl) (tys := tysE E) (ws := wld E S) (A := baseA E) (H0 := s.heap) (ci := clsP j) (C := q.1) (T := q.2.1) (N := q.2.2) C.1 C.2.1 C.2.2.2.2.1 c2 ty0 c3 c4 C.2.2.2.1 C.2.2.2.2.2.2.1.1 h1.2.1 (wld_D E S) h5 (numP j g) hg c1 k hk (C.2.2.2.2.1 _ hw) (fun _ hx => hx) hfin (C.2.2.2.2.2.2.2.2.2.2.2 (hin rfl).1) (by rw [hdecl, (hin rfl).2]) (c3 k hk) hna hfi (by simp [← c7]; exact hk) hd (fun H1 locs1 hP _ hS => fin' H1 locs1 hP hS)
end SNF
