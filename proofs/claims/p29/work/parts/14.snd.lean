/-! SOUNDNESS, on: calls -/
/-- what a method leaves -/
def QcT (E : Env0) (S : St) (K : KT) : State → Outcome → State → Prop := fun st o t =>
  (∃ (v : Option AV) (S' : St), K v S' ∧ o = .returned (v.map (cv E)) ∧ Rep E S' t.heap ∧ (∀ u, v = some u → lvA S' u) ∧ S.2.2.2.2 ≤ S'.2.2.2.2) ∧ va_F (baseA E) st t
def rmOf (d : Nat) (Z : MT) : Room := { frames := d + 8, cells := Z.1.2.2.1, slots := Z.1.2.2.2.1, locals := 64 * d + 600 }
def wsM (Z : MT) : List Cond := wC Z :: ALLW
def PcT (E : Env0) (X : State → Prop) (as : List AV) (S : St) : Array Value → State → Prop := va_Pc (as.map (cv E)) (fun U => Rep E S U.heap ∧ Stt E X U ∧ ∀ v ∈ as, lvA S v)
def MetC (E : Env0) (X : State → Prop) (l : Launch) (d : Nat) (Z : MT) (as : List AV) (S : St) (K : KT) : Prop :=
  Met l Z.2.1 (wsM Z) (rmOf d Z) (PcT E X as S) (fun _ st o t => QcT E S K st o t) Z.1.2.2.1 Z.1.2.2.2.1 (baseA E)
/-- what the extra word must bear -/
def Xok (E : Env0) (X : State → Prop) : Prop := ∀ s U : State, s.WarmedH U.vm → s.heap.size ≤ U.heap.size → (∀ q : Nat, q < s.heap.size → ¬ baseA E q → U.heap[q]? = s.heap[q]?) → X s → X U
theorem Stt.moved {E : Env0} {X : State → Prop} (hX : Xok E X) {s U : State} (hW : s.WarmedH U.vm) (hz : s.heap.size ≤ U.heap.size) (hq : ∀ q : Nat, q < s.heap.size → ¬ baseA E q → U.heap[q]? = s.heap[q]?) (h : Stt E X s) : Stt E X U := by
  obtain ⟨h1, h2, h3, h4, h5, h6, h7, h8, h9, h10, h11, h12, h13, h14, h15, h16⟩ := h
  exact ⟨h1.moved hW.alike, fun j a b => ((h2 j a b).kept hq).moved hW.alike, fun j a b => ((h3 j a b).kept hq).moved hW.alike, h4.warmF hW, h5.warmF hW, h6.warmF hW, h7.warmM hW, h8.warmM hW, h9.warmM hW, trivial, h11.moved hW.alike, h12.moved hW.alike, h13.moved hW.alike, trivial, h15, hX s U hW hz hq h16⟩
theorem PcT.blind {E : Env0} {X : State → Prop} (hX : Xok E X) {as : List AV} {S : St} : FrameBlind (PcT E X as S) := by
  intro a U g mk h
  obtain ⟨h1, h2, h3, h4⟩ := h
  exact ⟨h1, h2, Stt.moved hX (U := U.calling g mk a) (State.WarmedH.refl U) (Nat.le_refl _) (fun _ _ _ => rfl) h3, h4⟩
section SNI
variable {E : Env0} {X : State → Prop} {Y : MT} {d n0 : Nat} {p : Program} {l : Launch} {e : Env} {R : Room} {s : State} {m : MethodId} {args : Array Value} {below : List Frame} {meth : Method} {c : Code} {Q : State → Prop}
variable {pc t fc fs : Nat} {L : List (Option AV)} {st : List AV} {S : St}
theorem W_run {mc ms : Nat} {H : Heap} {locs : List Loc} {ls : Array Slot} {st0 rest : List Value} {K : KT} (hr : va_Run p l e R s m args below meth c H locs fc fs mc ms (F0 m pc ls st0) rest (QcT E S K) (baseA E)) (hS : va_S (baseA E) s.heap H locs)
    (kk : ∀ (v : Option AV) (S' : St) (H1 : Heap) (locs1 : List Loc), K v S' → Rep E S' H1 → (∀ u, v = some u → lvA S' u) → S.2.2.2.2 ≤ S'.2.2.2.2 → va_S (baseA E) s.heap H1 locs1 → W p l e R s m args below meth c H1 locs1 (fc + mc) (fs + ms) Q (F0 m (pc + 3) ls ((v.map (cv E)).toList ++ rest))) : W p l e R s m args below meth c H locs fc fs Q (F0 m pc ls st0) := by
  intro T hT Z
  obtain ⟨v, st₀, t, T', L, h0, X', hL, e1, e2, ⟨⟨v', S', hK, hv, hR, hlv, hle⟩, hz, hk⟩, stp⟩ := hr T hT Z
  rw [h0] at hz hk
  cases hv
  have hS1 : va_S (baseA E) s.heap T'.heap (locs ++ L) := ⟨Nat.le_trans hS.1 (by rw [e1]; exact hz), fun q h1 h2 => by rw [e1, hk q (Nat.lt_of_lt_of_le h1 hS.1) h2]; exact hS.2.1 q h1 h2, fun q hq => by
      rcases List.mem_append.mp hq with h | h
      · exact hS.2.2 q h
      · exact hL q h⟩
  obtain ⟨t2, a1, b1⟩ := kk v' S' T'.heap (locs ++ L) hK (by rw [e1]; exact hR) hlv hle hS1 T' rfl X'
  exact ⟨t2, stp t2 a1, b1⟩
theorem popN_of : ∀ (n : Nat) (st acc as rest : List AV), popN n st acc = some (as, rest) → ∃ tk, st = tk ++ rest ∧ as = tk.reverse ++ acc ∧ tk.length = n
  | 0, st, acc, as, rest, h => by
    simp only [popN, Option.some.injEq, Prod.mk.injEq] at h
    obtain ⟨rfl, rfl⟩ := h
    exact ⟨[], rfl, rfl, rfl⟩
  | n + 1, [], acc, as, rest, h => by simp [popN] at h
  | n + 1, v :: st, acc, as, rest, h => by
    obtain ⟨tk, h1, h2, h3⟩ := popN_of n st (v :: acc) as rest h
    exact ⟨v :: tk, by rw [h1]; rfl, by rw [h2]; simp, by simp [h3]⟩
theorem catS_sum (r : List AV) : ((r.map (cv E)).map fun v => v.category).sum = catS r := by
  induction r with
  | nil => rfl
  | cons v r ih =>
    simp only [List.map_cons, List.sum_cons, ih, catS]
    rcases v with x | x | x | x <;> rfl
/-- what a link of a method gives -/
theorem lnkC {own idx : Nat} {f : LK} (h : lnk own idx = some f) : ckL own f = true ∧ ∀ w ∈ lwords own idx f, w ∈ ALLW := by
  refine ⟨?_, ALLW_of (lwW h)⟩
  unfold lnk at h
  split at h
  · cases h
  · rename_i l hl
    have a := enum_nth lnkT 0 own l hl
    have b := List.all_eq_true.mp ckL_ok _ a
    have c := List.all_eq_true.mp b (idx, f) (lkp_mem l idx f h)
    simpa using c
theorem wsM_good {Z : MT} {big : List Cond} (h1 : wC Z ∈ big) (h2 : ∀ w ∈ ALLW, w ∈ big) : GoodIn big (wsM Z) := by
  intro w hw
  rcases List.mem_cons.mp hw with rfl | hw
  · exact ⟨h1, Or.inl rfl⟩
  · exact ⟨h2 w hw, good_of_word (List.mem_filter.mp hw).2⟩
/-- on, behind a call -/
theorem s_goX {mc ms : Nat} {rest : List AV} {K' : KT} (hrun : ∀ (H : Heap) (locs : List Loc) (ls : Array Slot), Rep E S H → LokL E ls Y.2.2.2.1 L → (∀ v ∈ st, lvA S v) → va_S (baseA E) s.heap H locs → fc + mc ≤ Y.1.2.2.1 → fs + ms ≤ Y.1.2.2.2.1 → va_Run p l e R s m args below meth c H locs fc fs mc ms (F0 m pc ls (st.map (cv E))) (rest.map (cv E)) (QcT E S K') (baseA E)) (hsub : ∀ v ∈ rest, v ∈ st) (hf : fc ≤ Y.1.2.2.1 → fc + mc ≤ Y.1.2.2.1) (hs : fs ≤ Y.1.2.2.2.1 → fs + ms ≤ Y.1.2.2.2.1)
    (h : ∀ v S', K' v S' → (mc ≠ 0 → fc + mc < 1000 → S'.2.2.2.2 = S.2.2.2.2 + mc) ∧ PS E Y n0 p l e R s m args below meth c Q (pc + 3) L (v.toList ++ rest) S' (fc + mc) (fs + ms)) : PS E Y n0 p l e R s m args below meth c Q pc L st S fc fs := by
  intro H locs ls h1 h2 h3 h4 h5 h6 h7 h8 h9
  refine W_run (hrun H locs ls h1 h2 h4 h5 (hf h7) (hs h8)) h5 (fun v S' H1 locs1 hK hR hv hle hS => ?_)
  obtain ⟨g1, g2⟩ := h v S' hK
  refine W_sized fun hz => ?_
  have hst : (v.map (cv E)).toList ++ rest.map (cv E) = (v.toList ++ rest).map (cv E) := by cases v <;> rfl
  rw [hst]
  refine g2 H1 locs1 ls hR h2 (fun i u hu => (h3 i u hu).up hle) (fun u hu => ?_) hS (Nat.le_trans h6 hle) (hf h7) (hs h8) (fun hlt => ?_)
  · rcases List.mem_append.mp hu with z | z
    · exact hv u (by cases v <;> simp_all)
    · exact (h4 u (hsub u z)).up hle
  · have x1 := h9 (by omega)
    by_cases hm : mc = 0
    · subst hm
      have := hR.1
      omega
    · rw [g1 hm hlt]
      omega
theorem fixC (C : Ctx E X Y d p R s m args meth c) : CallFix p m c Y.2.2.1 Y.2.2.2.1 s args ALLW (own8 Y.1.2.1) := ⟨C.1, C.2.1, C.2.2.1, C.2.2.2.1, C.2.2.2.2.1⟩
theorem preC (hX : Xok E X) (C : Ctx E X Y d p R s m args meth c) {H : Heap} {as : List AV} {locs : List Loc} (hR : Rep E S H) (hS : va_S (baseA E) s.heap H locs) (hlv : ∀ v ∈ as, lvA S v) : ∀ U : State, U.heap = H → s.WarmedH U.vm → PcT E X as S (as.map (cv E)).toArray U := fun U hU hW =>
  ⟨rfl, by rw [hU]; exact hR, Stt.moved hX hW (by rw [hU]; exact hS.1) (fun q h1 h2 => by rw [hU]; exact hS.2.1 q h1 h2) C.2.2.2.2.2.2.1, hlv⟩
set_option maxRecDepth 100000 in
theorem roomC (C : Ctx E X Y d p R s m args meth c) {Z : MT} (h : ckN Z = true) : (rmOf d Z).frames + 1 ≤ R.frames ∧ 8 + (Z.2.2.2.1 + 11) + (rmOf d Z).locals ≤ R.locals := by
  simp only [ckN, Bool.and_eq_true] at h
  have h40 := Nat.le_of_ble_eq_true h.2
  have f1 := C.2.2.2.2.2.2.2.1
  have f2 := C.2.2.2.2.2.2.2.2.1
  refine ⟨?_, ?_⟩
  · simp only [rmOf]
    omega
  · simp only [rmOf]
    omega
theorem ckN_of {Z : MT} (h : ckN Z = true) : Z.2.1.cls = own8 Z.1.2.1 ∧ plainName Z.2.1.cls = true ∧ Z.2.1.cls ≠ "java/lang/invoke/MethodHandle" ∧ Z.2.1.cls ≠ "java/lang/invoke/VarHandle" ∧ rkOf Z.2.2.2.2 = Z.1.2.2.2.2 ∧ Z.2.2.2.1 ≤ 40 := by
  simp only [ckN, Bool.and_eq_true, decide_eq_true_eq] at h
  exact ⟨h.1.1.1.1.1, h.1.1.1.1.2, h.1.1.1.2, h.1.1.2, h.1.2, Nat.le_of_ble_eq_true h.2⟩
theorem rcv_of {Z : MT} {as rest : List AV} (h : rcv Z (some (as, rest)) = true) : ∃ (j g : Nat) (As : List AV), as = aR j g :: As ∧ clsP j = Z.1.2.1 ∧ clsP j < 7 := by
  unfold rcv at h
  split at h
  · rename_i r q rst heq
    simp only [Option.some.injEq, Prod.mk.injEq] at heq
    simp only [Bool.and_eq_true] at h
    exact ⟨r.1, r.2, q, heq.1, Nat.eq_of_beq_eq_true h.2, Nat.lt_succ_of_le (Nat.le_of_ble_eq_true h.1)⟩
  · cases h
theorem cls6 {j : Nat} (h : clsP j < 7) : clsP j < 6 := by
  have key : clsP j < 6 ∨ clsP j = 9 := by
    unfold clsP
    split <;> first | (left; decide) | (right; rfl)
  omega
/-- the receiver is an object of the class -/
theorem rcvr_of (C : Ctx E X Y d p R s m args meth c) {H : Heap} (hR : Rep E S H) {j g : Nat} (hl : lvP S j g) (hc : clsP j < 7) : cv E (aR j g) = .ref (E.2.2.1 + numP j g) ∧ ∃ cellB : Cell, H[E.2.2.1 + numP j g]? = some cellB ∧ cellB.vm.isStatics = false ∧ s.vm.findClass (own8 (clsP j)) = some cellB.cls := by
  have hj := cls_lt hc
  obtain ⟨a1, a2⟩ := hl.in hj
  have hg := wld_get (E := E) a1 a2
  rw [el_obj hc] at hg
  obtain ⟨q, hq⟩ := nth_some vwCl (clsP j) (cls6 hc)
  obtain ⟨c1, -, -, -, c5, -⟩ := clsF hq
  have := va_recv (D := E.1) (cl := vwCl) (tys := tysE E) C.2.2.2.2.2.2.1.1 hR.2.1 c1 hg
  rw [c5] at this
  exact ⟨by simp [cv, adr, hj], this⟩
theorem lv_as {S : St} {st tk rest as : List AV} (e1 : st = tk ++ rest) (e2 : as = tk.reverse ++ []) (h4 : ∀ v ∈ st, lvA S v) : ∀ v ∈ as, lvA S v := fun v hv => h4 v (by
  rw [e1]
  rw [e2] at hv
  exact List.mem_append_left _ (by simpa using hv))
theorem in_sub {st tk rest : List AV} (h : st = tk ++ rest) : ∀ v ∈ rest, v ∈ st := fun v hv => by rw [h]; exact List.mem_append_right _ hv
theorem s_goV (C : Ctx E X Y d p R s m args meth c) (hX : Xok E X) {ix na : Nat} {Z : MT} {as rest : List AV} (hd : decode Y.2.2.1 pc = .ok (.invokevirtual ix, 3)) (hl : lnk Y.1.2.1 ix = some (0, Z, na)) (hp : popN (na + 1) st [] = some (as, rest)) (hrc : rcv Z (some (as, rest)) = true) (hcat : catS rest ≤ 8) (hf : fc ≤ Y.1.2.2.1 → fc + Z.1.2.2.1 ≤ Y.1.2.2.1) (hs : fs ≤ Y.1.2.2.2.1 → fs + Z.1.2.2.2.1 ≤ Y.1.2.2.2.1) {K' : KT} (hM : MetC E X l d Z as S K')
    (h : ∀ v S', K' v S' → (Z.1.2.2.1 ≠ 0 → fc + Z.1.2.2.1 < 1000 → S'.2.2.2.2 = S.2.2.2.2 + Z.1.2.2.1) ∧ PS E Y n0 p l e R s m args below meth c Q (pc + 3) L (v.toList ++ rest) S' (fc + Z.1.2.2.1) (fs + Z.1.2.2.2.1)) : PS E Y n0 p l e R s m args below meth c Q pc L st S fc fs := by
  obtain ⟨tk, e1, e2, e3⟩ := popN_of _ _ _ _ _ hp
  obtain ⟨j, g, As, e4, e5, e6⟩ := rcv_of hrc
  obtain ⟨k1, k2⟩ := lnkC hl
  simp only [ckL, Bool.and_eq_true, decide_eq_true_eq] at k1
  obtain ⟨n1, n2, n3, n4, n5, n6⟩ := ckN_of k1.1
  refine s_goX (fun H locs ls h1 h2 h4 hS hf hs => ?_) (in_sub e1) hf hs h
  have hlv : lvP S j g := h4 (aR j g) (by
    rw [e1]
    refine List.mem_append_left _ ?_
    have : aR j g ∈ tk.reverse ++ [] := by rw [← e2, e4]; exact List.mem_cons_self
    simpa using this)
  obtain ⟨r1, r2⟩ := rcvr_of C h1 hlv e6
  have hst : st.map (cv E) = (As.map (cv E)).reverse ++ Value.ref (E.2.2.1 + numP j g) :: rest.map (cv E) := by
    have htk : tk = (aR j g :: As).reverse := by rw [← e4, e2]; simp
    rw [e1, htk, ← r1]
    simp
  have hw := k2
  simp only [lwords] at hw
  have hG : GoodIn ALLW (wsV (own8 Y.1.2.1) ix Z.2.1.cls Z.2.1 (wsM Z)) := by
    intro w hw'
    rcases List.mem_append.mp hw' with z | z
    · simp only [List.mem_cons, List.not_mem_nil, or_false] at z
      rcases z with rfl | rfl | rfl | rfl
      · exact ⟨hw _ (by simp), Or.inl rfl⟩
      · exact ⟨hw _ (by simp), Or.inl rfl⟩
      · exact ⟨hw _ (by simp), Or.inl rfl⟩
      · exact ⟨hw _ (by simp), Or.inl rfl⟩
    · exact wsM_good (hw _ (by simp)) (fun _ z => z) w z
  have hn : As.length = na := by
    have : as.length = na + 1 := by rw [e2]; simp [e3]
    rw [e4] at this
    simpa using this
  have hrun := va_runV (H := H) (locs := locs) (cells := fc) (slots := fs) (below := below) (meth := meth) (p := p) (l := l) (e := e) (R := R) (b := E.2.2.1 + numP j g) (As := As.map (cv E)) (rest := rest.map (cv E)) (g := F0 m pc ls (st.map (cv E))) (fixC C) hM
    (cwV (C := Z.2.1.cls) na C.2.2.2.2.1 hG rfl rfl rfl ⟨rfl, n3, n4, k1.2⟩ (roomC C k1.1))
    ⟨PcT.blind hX, by rw [n1, ← e5]; exact r2, fun U hU hW => by
      have := preC hX C (as := as) h1 hS (lv_as e1 e2 h4) U hU hW
      rw [e4, List.map_cons, r1] at this
      rw [e4]
      exact this⟩
    rfl (by simp [hn]) h2.1.1 hst (by
      have := catS_sum (E := E) rest
      show 2 * 0 + _ ≤ 8
      omega) hd ⟨Nat.le_trans hf C.2.2.2.2.2.2.2.2.2.1, Nat.le_trans hs C.2.2.2.2.2.2.2.2.2.2.1⟩
  exact hrun
end SNI
