/-! SOUNDNESS, on: static calls, constructors, the library's own -/
section SNJ
variable {E : Env0} {X : State → Prop} {Y : MT} {d n0 : Nat} {p : Program} {l : Launch} {e : Env} {R : Room} {s : State} {m : MethodId} {args : Array Value} {below : List Frame} {meth : Method} {c : Code} {Q : State → Prop}
variable {pc t fc fs : Nat} {L : List (Option AV)} {st : List AV} {S : St}
theorem catW {pc : Nat} {ls : Array Slot} {rest : List AV} {st0 : List Value} (hcat : catS rest ≤ 8) : 2 * (F0 m pc ls st0).monitorRoom + ((rest.map (cv E)).map fun v => v.category).sum ≤ 8 := by
  have := catS_sum (E := E) rest
  show 2 * 0 + _ ≤ 8
  omega
theorem s_goS (C : Ctx E X Y d p R s m args meth c) (hX : Xok E X) {ix na : Nat} {Z : MT} {as rest : List AV} (hd : decode Y.2.2.1 pc = .ok (.invokestatic ix, 3)) (hl : lnk Y.1.2.1 ix = some (1, Z, na)) (hp : popN na st [] = some (as, rest)) (hcat : catS rest ≤ 8) (hf : fc ≤ Y.1.2.2.1 → fc + Z.1.2.2.1 ≤ Y.1.2.2.1) (hs : fs ≤ Y.1.2.2.2.1 → fs + Z.1.2.2.2.1 ≤ Y.1.2.2.2.1) {K' : KT} (hM : MetC E X l d Z as S K')
    (h : ∀ v S', K' v S' → (Z.1.2.2.1 ≠ 0 → fc + Z.1.2.2.1 < 1000 → S'.2.2.2.2 = S.2.2.2.2 + Z.1.2.2.1) ∧ PS E Y n0 p l e R s m args below meth c Q (pc + 3) L (v.toList ++ rest) S' (fc + Z.1.2.2.1) (fs + Z.1.2.2.2.1)) : PS E Y n0 p l e R s m args below meth c Q pc L st S fc fs := by
  obtain ⟨tk, e1, e2, e3⟩ := popN_of _ _ _ _ _ hp
  obtain ⟨k1, k2⟩ := lnkC hl
  simp only [ckL, Bool.and_eq_true, decide_eq_true_eq] at k1
  obtain ⟨n1, n2, n3, n4, n5, n6⟩ := ckN_of k1.1
  refine s_goX (fun H locs ls h1 h2 h4 hS hf hs => ?_) (in_sub e1) hf hs h
  have hst : st.map (cv E) = (as.map (cv E)).reverse ++ rest.map (cv E) := by
    rw [e1, e2]
    simp
  have hw := k2
  simp only [lwords] at hw
  have hG : GoodIn ALLW (va_wsS (own8 Y.1.2.1) ix Z.2.1 (wsM Z)) := by
    intro w hw'
    rcases List.mem_append.mp hw' with z | z
    · simp only [List.mem_cons, List.not_mem_nil, or_false] at z
      rcases z with rfl | rfl | rfl
      · exact ⟨hw _ (by simp), Or.inl rfl⟩
      · exact ⟨hw _ (by simp), Or.inl rfl⟩
      · exact ⟨hw _ (by simp), Or.inl rfl⟩
    · exact wsM_good (hw _ (by simp)) (fun _ z => z) w z
  exact va_runS (H := H) (locs := locs) (cells := fc) (slots := fs) (below := below) (meth := meth) (p := p) (l := l) (e := e) (R := R) (As := as.map (cv E)) (rest := rest.map (cv E)) (g := F0 m pc ls (st.map (cv E))) (fixC C) hM
    (va_cwS na C.2.2.2.2.1 hG rfl rfl rfl ⟨n3, n4, k1.2⟩ (roomC C k1.1))
    ⟨PcT.blind hX, preC hX C h1 hS (lv_as e1 e2 h4)⟩
    rfl (by rw [e2]; simp [e3]) h2.1.1 hst (catW hcat) hd ⟨Nat.le_trans hf C.2.2.2.2.2.2.2.2.2.1, Nat.le_trans hs C.2.2.2.2.2.2.2.2.2.2.1⟩
theorem lnk11 {own ix na : Nat} {Z : MT} (hl : lnk own ix = some (11, Z, na)) : own = 0 ∧ ix = 72 ∧ Z.2.1 = yX5_within := by
  obtain ⟨k1, -⟩ := lnkC hl
  simp only [ckL, Bool.and_eq_true, decide_eq_true_eq] at k1
  have ho := Nat.eq_of_beq_eq_true k1.2
  subst ho
  refine ⟨rfl, ?_, k1.1.2⟩
  have hm := lkp_mem lnk_0 ix (11, Z, na) hl
  have := List.all_eq_true.mp ckNest.1 _ hm
  exact Nat.eq_of_beq_eq_true (by simpa using this)
theorem lnk12 {own ix na : Nat} {Z : MT} (hl : lnk own ix = some (12, Z, na)) : own = 5 ∧ ((ix = 34 ∧ Z.2.1 = yX1_init) ∨ (ix = 41 ∧ Z.2.1 = yX3_init)) := by
  obtain ⟨k1, -⟩ := lnkC hl
  simp only [ckL, Bool.and_eq_true, decide_eq_true_eq] at k1
  have ho := Nat.eq_of_beq_eq_true k1.2
  subst ho
  refine ⟨rfl, ?_⟩
  have hm := lkp_mem lnk_5 ix (12, Z, na) hl
  have := List.all_eq_true.mp ckNest.2 _ hm
  have h2 : (Nat.beq ix 34 && decide (Z.2.1 = yX1_init) || Nat.beq ix 41 && decide (Z.2.1 = yX3_init)) = true := this
  simp only [Bool.or_eq_true, Bool.and_eq_true, decide_eq_true_eq] at h2
  rcases h2 with ⟨a, b⟩ | ⟨a, b⟩
  · exact Or.inl ⟨Nat.eq_of_beq_eq_true a, b⟩
  · exact Or.inr ⟨Nat.eq_of_beq_eq_true a, b⟩
theorem s_goN (C : Ctx E X Y d p R s m args meth c) (hX : Xok E X) {ix na : Nat} {Z : MT} {as rest : List AV} (hd : decode Y.2.2.1 pc = .ok (.invokestatic ix, 3)) (hl : lnk Y.1.2.1 ix = some (11, Z, na)) (hp : popN na st [] = some (as, rest)) (hcat : catS rest ≤ 8) (hf : fc ≤ Y.1.2.2.1 → fc + Z.1.2.2.1 ≤ Y.1.2.2.1) (hs : fs ≤ Y.1.2.2.2.1 → fs + Z.1.2.2.2.1 ≤ Y.1.2.2.2.1) {K' : KT} (hM : MetC E X l d Z as S K')
    (h : ∀ v S', K' v S' → (Z.1.2.2.1 ≠ 0 → fc + Z.1.2.2.1 < 1000 → S'.2.2.2.2 = S.2.2.2.2 + Z.1.2.2.1) ∧ PS E Y n0 p l e R s m args below meth c Q (pc + 3) L (v.toList ++ rest) S' (fc + Z.1.2.2.1) (fs + Z.1.2.2.2.1)) : PS E Y n0 p l e R s m args below meth c Q pc L st S fc fs := by
  obtain ⟨tk, e1, e2, e3⟩ := popN_of _ _ _ _ _ hp
  obtain ⟨k1, k2⟩ := lnkC hl
  obtain ⟨o1, o2, o3⟩ := lnk11 hl
  simp only [ckL, Bool.and_eq_true, decide_eq_true_eq] at k1
  obtain ⟨n1, n2, n3, n4, n5, n6⟩ := ckN_of k1.1.1.1
  refine s_goX (fun H locs ls h1 h2 h4 hS hf hs => ?_) (in_sub e1) hf hs h
  have hst : st.map (cv E) = (as.map (cv E)).reverse ++ rest.map (cv E) := by
    rw [e1, e2]
    simp
  have hw := k2
  simp only [lwords] at hw
  have hown : own8 Y.1.2.1 = RX0 := by rw [o1]; rfl
  have hNw : va_Nw (.methodLinkNest (own8 Y.1.2.1) ix Z.2.1 RX5) s := by
    rw [hown, o2, o3]
    exact C.2.2.2.2.2.2.1.2.2.2.2.2.2.2.2.1
  exact va_runSN (H := H) (locs := locs) (cells := fc) (slots := fs) (below := below) (meth := meth) (p := p) (l := l) (e := e) (R := R) (As := as.map (cv E)) (rest := rest.map (cv E)) (g := F0 m pc ls (st.map (cv E))) (fixC C) hM
    ⟨va_cnB na C.2.2.2.2.1 (wsM_good (hw _ (by simp)) (fun _ z => z)) rfl rfl rfl hNw (C.2.2.2.2.1 _ (hw _ (by simp))) ⟨n3, n4, k1.1.1.2⟩ (roomC C k1.1.1.1), C.2.2.2.2.1 _ (hw _ (by simp)), trivial⟩
    ⟨PcT.blind hX, preC hX C h1 hS (lv_as e1 e2 h4)⟩
    rfl (by rw [e2]; simp [e3]) h2.1.1 hst (catW hcat) hd ⟨Nat.le_trans hf C.2.2.2.2.2.2.2.2.2.1, Nat.le_trans hs C.2.2.2.2.2.2.2.2.2.2.1⟩
theorem s_goI (C : Ctx E X Y d p R s m args meth c) (hX : Xok E X) {ix na kd : Nat} {Z : MT} {as rest : List AV} (hkd : kd = 2 ∨ kd = 12) (hd : decode Y.2.2.1 pc = .ok (.invokespecial ix, 3)) (hl : lnk Y.1.2.1 ix = some (kd, Z, na)) (hp : popN (na + 1) st [] = some (as, rest)) (hrc : rcv Z (some (as, rest)) = true) (hcat : catS rest ≤ 8) (hf : fc ≤ Y.1.2.2.1 → fc + Z.1.2.2.1 ≤ Y.1.2.2.1) (hs : fs ≤ Y.1.2.2.2.1 → fs + Z.1.2.2.2.1 ≤ Y.1.2.2.2.1) {K' : KT} (hM : MetC E X l d Z as S K')
    (h : ∀ v S', K' v S' → (Z.1.2.2.1 ≠ 0 → fc + Z.1.2.2.1 < 1000 → S'.2.2.2.2 = S.2.2.2.2 + Z.1.2.2.1) ∧ PS E Y n0 p l e R s m args below meth c Q (pc + 3) L (v.toList ++ rest) S' (fc + Z.1.2.2.1) (fs + Z.1.2.2.2.1)) : PS E Y n0 p l e R s m args below meth c Q pc L st S fc fs := by
  obtain ⟨tk, e1, e2, e3⟩ := popN_of _ _ _ _ _ hp
  obtain ⟨j, g, As, e4, e5, e6⟩ := rcv_of hrc
  obtain ⟨k1, k2⟩ := lnkC hl
  have k1' : ckN Z = true ∧ (parseMethodDescriptor Z.2.1.desc).map (fun d => d.parameters.length) = some na ∧ Z.2.1.name = "<init>" ∧ Z.2.2.2.2 = none ∧ Jvm.Cond.instanceMethod Z.2.1 ∈ ALLW ∧ Jvm.Cond.initialized Z.2.1.cls ∈ ALLW ∧ wC Z ∈ ALLW := by
    rcases hkd with rfl | rfl
    · simp only [ckL, Bool.and_eq_true, decide_eq_true_eq] at k1
      simp only [lwords] at k2
      exact ⟨k1.1.1.1, k1.1.1.2, k1.1.2, k1.2, k2 _ (by simp), k2 _ (by simp), k2 _ (by simp)⟩
    · simp only [ckL, Bool.and_eq_true, decide_eq_true_eq] at k1
      simp only [lwords] at k2
      exact ⟨k1.1.1.1.1, k1.1.1.1.2, k1.1.1.2, k1.1.2, k2 _ (by simp), k2 _ (by simp), k2 _ (by simp)⟩
  obtain ⟨q1, q2, q3, q4, q5, q6, q7⟩ := k1'
  obtain ⟨n1, n2, n3, n4, n5, n6⟩ := ckN_of q1
  refine s_goX (fun H locs ls h1 h2 h4 hS hf hs => ?_) (in_sub e1) hf hs h
  have hlv : lvP S j g := h4 (aR j g) (by
    rw [e1]
    refine List.mem_append_left _ ?_
    have : aR j g ∈ tk.reverse ++ [] := by rw [← e2, e4]; exact List.mem_cons_self
    simpa using this)
  obtain ⟨r1, r2⟩ := rcvr_of C h1 hlv e6
  have hst : st.map (cv E) = (As.map (cv E)).reverse ++ Value.ref (E.2.2.1 + numP j g) :: rest.map (cv E) := by
    have htk : tk = (aR j g :: As).reverse := by rw [← e4, e2]; simp
    rw [e1, htk, ← r1]
    simp
  have hn : As.length = na := by
    have : as.length = na + 1 := by rw [e2]; simp [e3]
    rw [e4] at this
    simpa using this
  have hpre : PreS s H (PcT E X as S) (Value.ref (E.2.2.1 + numP j g) :: As.map (cv E)) := ⟨PcT.blind hX, fun U hU hW => by
      have := preC hX C (as := as) h1 hS (lv_as e1 e2 h4) U hU hW
      rw [e4, List.map_cons, r1] at this
      rw [e4]
      exact this⟩
  have hwc : wC Z = Cond.code Z.2.1 Z.2.2.1 Z.2.2.2.1 none := by rw [wC, q4]
  rcases hkd with rfl | rfl
  · simp only [lwords] at k2
    exact va_runI (H := H) (locs := locs) (cells := fc) (slots := fs) (below := below) (meth := meth) (p := p) (l := l) (e := e) (R := R) (b := E.2.2.1 + numP j g) (As := As.map (cv E)) (rest := rest.map (cv E)) (g := F0 m pc ls (st.map (cv E))) (fixC C) hM
      (cwI na C.2.2.2.2.1 (wsM_good q7 (fun _ z => z)) (by rw [wsM, hwc]) rfl rfl (C.2.2.2.2.1 _ q6) (C.2.2.2.2.1 _ (k2 _ (by simp))) (C.2.2.2.2.1 _ q5) q3 ⟨n3, n4, q2⟩ (roomC C q1))
      hpre rfl (by simp [hn]) h2.1.1 hst (catW hcat) hd ⟨Nat.le_trans hf C.2.2.2.2.2.2.2.2.2.1, Nat.le_trans hs C.2.2.2.2.2.2.2.2.2.2.1⟩
  · obtain ⟨o1, o2⟩ := lnk12 hl
    have hown : own8 Y.1.2.1 = RX5 := by rw [o1]; rfl
    have hNw : va_Nw (.methodLinkNest (own8 Y.1.2.1) ix Z.2.1 RX5) s := by
      have hst := C.2.2.2.2.2.2.1
      rcases o2 with ⟨rfl, z⟩ | ⟨rfl, z⟩
      · rw [hown, z]
        exact hst.2.2.2.2.2.2.1
      · rw [hown, z]
        exact hst.2.2.2.2.2.2.2.1
    exact va_runIN (H := H) (locs := locs) (cells := fc) (slots := fs) (below := below) (meth := meth) (p := p) (l := l) (e := e) (R := R) (b := E.2.2.1 + numP j g) (As := As.map (cv E)) (rest := rest.map (cv E)) (g := F0 m pc ls (st.map (cv E))) (fixC C) hM
      ⟨va_cnB na C.2.2.2.2.1 (wsM_good q7 (fun _ z => z)) (by rw [wsM, hwc]) rfl rfl hNw (C.2.2.2.2.1 _ q6) ⟨n3, n4, q2⟩ (roomC C q1), q3, C.2.2.2.2.1 _ q5⟩
      hpre rfl (by simp [hn]) h2.1.1 hst (catW hcat) hd ⟨Nat.le_trans hf C.2.2.2.2.2.2.2.2.2.1, Nat.le_trans hs C.2.2.2.2.2.2.2.2.2.2.1⟩
/-- Object.<init>, min, max -/
theorem s_obj (C : Ctx E X Y d p R s m args meth c) {ix na : Nat} {Z : MT} {j g : Nat} {r : List AV} (hd : decode Y.2.2.1 pc = .ok (.invokespecial ix, 3)) (hl : lnk Y.1.2.1 ix = some (3, Z, na)) (hcat : catS r ≤ 8) (h : PS E Y n0 p l e R s m args below meth c Q (pc + 3) L r S fc fs) : PS E Y n0 p l e R s m args below meth c Q pc L (aR j g :: r) S fc fs := by
  obtain ⟨-, k2⟩ := lnkC hl
  simp only [lwords] at k2
  intro H locs ls h1 h2 h3 h4 h5 h6 h7 h8 h9
  have f1 := C.2.2.2.2.2.2.2.1
  have f2 := C.2.2.2.2.2.2.2.2.1
  have := catS_sum (E := E) r
  refine W.objInit C.1 C.2.1 C.2.2.2.1 (C.2.2.2.2.1 _ (k2 (.methodLink (own8 Y.1.2.1) ix objectInit) (by simp))) (C.2.2.2.2.1 _ (k2 (.instanceMethod objectInit) (by simp))) (C.2.2.2.2.1 _ (k2 (.code objectInit ⟨#[0xb1]⟩ 1 none) (by simp))) rfl (by rw [C.2.2.1]; exact h2.1.1) rfl hd (by omega) ?_ ?_
  · show 2 * 0 + _ + _ ≤ _
    omega
  · exact W.eq rfl (h H locs ls h1 h2 h3 (lvt h4) h5 h6 h7 h8 h9)
theorem s_min (C : Ctx E X Y d p R s m args meth c) {ix na : Nat} {Z : MT} {x y : Int32} {r : List AV} (hd : decode Y.2.2.1 pc = .ok (.invokestatic ix, 3)) (hl : lnk Y.1.2.1 ix = some (4, Z, na)) (hcat : catS r ≤ 8) (h : PS E Y n0 p l e R s m args below meth c Q (pc + 3) L (aI (if y < x then y else x) :: r) S fc fs) : PS E Y n0 p l e R s m args below meth c Q pc L (aI y :: aI x :: r) S fc fs := by
  obtain ⟨-, k2⟩ := lnkC hl
  simp only [lwords] at k2
  intro H locs ls h1 h2 h3 h4 h5 h6 h7 h8 h9
  have f1 := C.2.2.2.2.2.2.2.1
  have f2 := C.2.2.2.2.2.2.2.2.1
  have := catS_sum (E := E) r
  exact va_mmin C.1 C.2.1 (by rw [C.2.2.1]; exact h2.1.1.symm) C.2.2.2.1 (C.2.2.2.2.1 _ (k2 _ (by simp))) (C.2.2.2.2.1 _ (k2 _ (by simp))) (C.2.2.2.2.1 _ (k2 _ (by simp))) (C.2.2.2.2.1 _ (k2 _ (by simp))) (by omega) (by omega) (Nat.le_trans h7 C.2.2.2.2.2.2.2.2.2.1) (Nat.le_trans h8 C.2.2.2.2.2.2.2.2.2.2.1) hd (h H locs ls h1 h2 h3 (lv1 (v := aI (if y < x then y else x)) trivial (lvt (lvt h4))) h5 h6 h7 h8 h9)
theorem s_max (C : Ctx E X Y d p R s m args meth c) {ix na : Nat} {Z : MT} {x y : Int32} {r : List AV} (hd : decode Y.2.2.1 pc = .ok (.invokestatic ix, 3)) (hl : lnk Y.1.2.1 ix = some (5, Z, na)) (hcat : catS r ≤ 8) (h : PS E Y n0 p l e R s m args below meth c Q (pc + 3) L (aI (if x < y then y else x) :: r) S fc fs) : PS E Y n0 p l e R s m args below meth c Q pc L (aI y :: aI x :: r) S fc fs := by
  obtain ⟨-, k2⟩ := lnkC hl
  simp only [lwords] at k2
  intro H locs ls h1 h2 h3 h4 h5 h6 h7 h8 h9
  have f1 := C.2.2.2.2.2.2.2.1
  have f2 := C.2.2.2.2.2.2.2.2.1
  have := catS_sum (E := E) r
  exact va_mmax C.1 C.2.1 (by rw [C.2.2.1]; exact h2.1.1.symm) C.2.2.2.1 (C.2.2.2.2.1 _ (k2 _ (by simp))) (C.2.2.2.2.1 _ (k2 _ (by simp))) (C.2.2.2.2.1 _ (k2 _ (by simp))) (C.2.2.2.2.1 _ (k2 _ (by simp))) (by omega) (by omega) (Nat.le_trans h7 C.2.2.2.2.2.2.2.2.2.1) (Nat.le_trans h8 C.2.2.2.2.2.2.2.2.2.2.1) hd (h H locs ls h1 h2 h3 (lv1 (v := aI (if x < y then y else x)) trivial (lvt (lvt h4))) h5 h6 h7 h8 h9)
/-- arraycopy of ints -/
theorem s_copy (C : Ctx E X Y d p R s m args meth c) {ix na : Nat} {Z : MT} {j g a b ks kd kn : Nat} {r : List AV} (hfc : fc < 1000) (hd : decode Y.2.2.1 pc = .ok (.invokestatic ix, 3)) (hl : lnk Y.1.2.1 ix = some (6, Z, na)) (hcat : catS r ≤ 8) (hj : iak j = 1) (ha : iak a = 1) (hb1 : ks + kn ≤ aln S.2.2.2.1 j g) (hb2 : kd + kn ≤ aln S.2.2.2.1 a b) (hkn : kn ≤ 1000)
    (h : PS E Y n0 p l e R s m args below meth c Q (pc + 3) L r ((fun x y k => if x = a ∧ y = b ∧ kd ≤ k ∧ k < kd + kn then S.1 j g (ks + (k - kd)) else S.1 x y k), S.2) fc fs) : PS E Y n0 p l e R s m args below meth c Q pc L (aI (nI kn) :: aI (nI kd) :: aR a b :: aI (nI ks) :: aR j g :: r) S fc fs := by
  obtain ⟨-, k2⟩ := lnkC hl
  simp only [lwords] at k2
  intro H locs ls h1 h2 h3 h4 h5 h6 h7 h8 h9
  have f1 := C.2.2.2.2.2.2.2.1
  have f2 := C.2.2.2.2.2.2.2.2.1
  have hsum := catS_sum (E := E) r
  have l1 := aln_lt h1.2.2.2.2.1 j g
  have l2 := aln_lt h1.2.2.2.2.1 a b
  have hlj : lvP S j g := lvh (lvt (lvt (lvt (lvt h4))))
  have hla : lvP S a b := lvh (lvt (lvt h4))
  have hj6 := iak_lt (Or.inl hj)
  have ha6 := iak_lt (Or.inl ha)
  obtain ⟨a1, a2⟩ := hlj.in hj6
  obtain ⟨b1, b2⟩ := hla.in ha6
  have hgj := wld_get (E := E) a1 a2
  have hga := wld_get (E := E) b1 b2
  rw [el_int hj] at hgj
  rw [el_int ha] at hga
  have haj : cv E (aR j g) = .ref (E.2.2.1 + numP j g) := by simp [cv, adr, hj6]
  have haa : cv E (aR a b) = .ref (E.2.2.1 + numP a b) := by simp [cv, adr, ha6]
  rw [List.map_cons, List.map_cons, List.map_cons, List.map_cons, List.map_cons, haj, haa]
  obtain ⟨s1, s2⟩ := nI_nn (k := ks) (by omega)
  obtain ⟨d1, d2⟩ := nI_nn (k := kd) (by omega)
  obtain ⟨n1, n2⟩ := nI_nn (k := kn) (by omega)
  have hnw : nativeFrameWords "java/lang/System" "arraycopy" 5 + 11 ≤ 100 := by decide +kernel
  refine va_copyi (D := E.1) (cl := vwCl) (tys := tysE E) (ws := wld E S) (A := baseA E) (H0 := s.heap) (ty := .int) C.1 C.2.1 (by rw [C.2.2.1]; exact h2.1.1.symm) C.2.2.2.1 (C.2.2.2.2.1 _ (k2 _ (by simp))) (C.2.2.2.2.1 _ (k2 _ (by simp))) (C.2.2.2.2.1 _ (k2 _ (by simp))) (C.2.2.2.2.1 _ (k2 _ (by simp))) C.2.2.2.2.2.2.1.1 h1.2.1 (wld_D E S) h5 (numP j g) (numP a b) 0 0 hgj hga rfl rfl rfl s1 d1 n1 (by rw [s2, n2]; exact hb1) (by rw [d2, n2]; exact hb2) (fun i _ => rfl) (by omega) (by omega) hd (fun H1 locs1 hP _ hS => ?_)
  rw [s2, d2, n2] at hP
  generalize hS1 : (((fun x y k => if x = a ∧ y = b ∧ kd ≤ k ∧ k < kd + kn then S.1 j g (ks + (k - kd)) else S.1 x y k), S.2) : St) = S1 at h
  have hrow : S1.1 a b = va_cpy (S.1 j g) (S.1 a b) ks kd kn := by
    rw [← hS1]
    funext k
    simp [va_cpy]
  refine s_arr (S := S) (S' := S1) (j := a) (g := b) ha6 (by rw [← hS1]) (by rw [← hS1]) (fun z hz k => by
      rw [← hS1]
      dsimp only
      rw [if_neg (fun y => by omega)]) (fun q hq => ?_) hfc h1 h2 h3 hla (lvt (lvt (lvt (lvt (lvt h4))))) h6 h7 h8 h9 (fun x y z hz => Or.inl (by rw [← hS1] at hz; exact hz)) ?_ hS h
  · have hne : ¬ (q.1 = a ∧ q.2 = b) := fun z => hq (Prod.ext z.1 z.2)
    have e1 : S1.1 q.1 q.2 = S.1 q.1 q.2 := by
      rw [← hS1]
      funext k
      dsimp only
      rw [if_neg (fun y => hne ⟨y.1, y.2.1⟩)]
    have e0 : S1.2 = S.2 := by rw [← hS1]
    have e3 : fvl E S1 q.1 q.2 = fvl E S q.1 q.2 := funext fun z => by
      unfold fvl
      rw [e0, e1]
    unfold el
    rw [e0, e1, e3]
  · rw [el_int ha, hrow]
    have e0 : S1.2 = S.2 := by rw [← hS1]
    rw [e0]
    exact hP
end SNJ
