/-! SOUNDNESS: an instruction of AM is one of the machine -/
/-- where a method stands -/
def Ctx (E : Env0) (X : State → Prop) (Y : MT) (d : Nat) (p : Program) (R : Room) (s : State) (m : MethodId) (args : Array Value) (meth : Method) (c : Code) : Prop :=
  p.tables.exec = Jvm.exec ∧ c.code = Y.2.2.1 ∧ c.maxLocals = Y.2.2.2.1 ∧ s.vm.findClass (own8 Y.1.2.1) = some m.cls ∧ (∀ w ∈ ALLW, w.before args s = true) ∧ ckP Y ∧ Stt E X s ∧ d + 9 ≤ R.frames ∧ 64 * d + 664 ≤ R.locals ∧ Y.1.2.2.1 ≤ R.cells ∧ Y.1.2.2.2.1 ≤ R.slots ∧ (Y.2.1.name = "<init>" → meth.name = "<init>")
/-- what AM's place means -/
def PS (E : Env0) (Y : MT) (n0 : Nat) (p : Program) (l : Launch) (e : Env) (R : Room) (s : State) (m : MethodId) (args : Array Value) (below : List Frame) (meth : Method) (c : Code) (Q : State → Prop) : PT := fun pc L st S fc fs =>
  ∀ (H : Heap) (locs : List Loc) (ls : Array Slot), Rep E S H → LokL E ls Y.2.2.2.1 L → (∀ k v, nth L k = some (some v) → lvA S v) → (∀ v ∈ st, lvA S v) → va_S (baseA E) s.heap H locs → n0 ≤ S.2.2.2.2 → fc ≤ Y.1.2.2.1 → fs ≤ Y.1.2.2.2.1 → (fc < 1000 → E.2.2.1 + S.2.2.2.2 = s.heap.size + fc) →
    W p l e R s m args below meth c H locs fc fs Q (F0 m pc ls (st.map (cv E)))
section SND
variable {E : Env0} {X : State → Prop} {Y : MT} {d n0 : Nat} {p : Program} {l : Launch} {e : Env} {R : Room} {s : State} {m : MethodId} {args : Array Value} {below : List Frame} {meth : Method} {c : Code} {Q : State → Prop}
variable {pc t fc fs : Nat} {L : List (Option AV)} {st : List AV} {S : St}
theorem lv1 {v : AV} {st : List AV} (hv : lvA S v) (h : ∀ u ∈ st, lvA S u) : ∀ u ∈ v :: st, lvA S u := fun u hu => (List.mem_cons.mp hu).elim (fun z => z ▸ hv) (h u)
theorem lvt {v : AV} {st : List AV} (h : ∀ u ∈ v :: st, lvA S u) : ∀ u ∈ st, lvA S u := fun u hu => h u (List.mem_cons_of_mem _ hu)
theorem lvh {v : AV} {st : List AV} (h : ∀ u ∈ v :: st, lvA S u) : lvA S v := h v List.mem_cons_self
/-- a row that puts a number on the stack -/
theorem s_push {v : AV} {n : Nat} (hv : lvA S v) (hW : ∀ {H : Heap} {locs : List Loc} {ls : Array Slot}, W p l e R s m args below meth c H locs fc fs Q (F0 m n ls (cv E v :: st.map (cv E))) → W p l e R s m args below meth c H locs fc fs Q (F0 m pc ls (st.map (cv E))))
    (h : PS E Y n0 p l e R s m args below meth c Q n L (v :: st) S fc fs) : PS E Y n0 p l e R s m args below meth c Q pc L st S fc fs :=
  fun H locs ls h1 h2 h3 h4 h5 h6 h7 h8 h9 => hW (h H locs ls h1 h2 h3 (lv1 hv h4) h5 h6 h7 h8 h9)
theorem s_iconst (C : Ctx E X Y d p R s m args meth c) {z : Int} {x : Int32} (hd : decode Y.2.2.1 pc = .ok (.iconst z, 1)) (hx : Int32.ofInt z = x) (h : PS E Y n0 p l e R s m args below meth c Q (pc + 1) L (aI x :: st) S fc fs) : PS E Y n0 p l e R s m args below meth c Q pc L st S fc fs :=
  s_push (v := aI x) trivial (fun k => lv_iconst C.1 C.2.1 hd hx k) h
theorem s_bipush (C : Ctx E X Y d p R s m args meth c) {z : Int} {x : Int32} (hd : decode Y.2.2.1 pc = .ok (.bipush z, 2)) (hx : (Int8.ofInt z).toInt32 = x) (h : PS E Y n0 p l e R s m args below meth c Q (pc + 2) L (aI x :: st) S fc fs) : PS E Y n0 p l e R s m args below meth c Q pc L st S fc fs :=
  s_push (v := aI x) trivial (fun k => lv_bipush C.1 C.2.1 hd hx k) h
theorem s_sipush (C : Ctx E X Y d p R s m args meth c) {z : Int} {x : Int32} (hd : decode Y.2.2.1 pc = .ok (.sipush z, 3)) (hx : (Int16.ofInt z).toInt32 = x) (h : PS E Y n0 p l e R s m args below meth c Q (pc + 3) L (aI x :: st) S fc fs) : PS E Y n0 p l e R s m args below meth c Q pc L st S fc fs :=
  s_push (v := aI x) trivial (fun k => lv_sipush C.1 C.2.1 hd hx k) h
theorem s_lconst (C : Ctx E X Y d p R s m args meth c) {z : Fin 2} (hd : decode Y.2.2.1 pc = .ok (.lconst z, 1)) (h : PS E Y n0 p l e R s m args below meth c Q (pc + 1) L (aL (Int64.ofNat z.val) :: st) S fc fs) : PS E Y n0 p l e R s m args below meth c Q pc L st S fc fs :=
  s_push (v := aL (Int64.ofNat z.val)) trivial (fun k => lv_lconst C.1 C.2.1 hd rfl k) h
theorem s_null (C : Ctx E X Y d p R s m args meth c) (hd : decode Y.2.2.1 pc = .ok (.aconst_null, 1)) (h : PS E Y n0 p l e R s m args below meth c Q (pc + 1) L (aN :: st) S fc fs) : PS E Y n0 p l e R s m args below meth c Q pc L st S fc fs :=
  s_push (v := aN) trivial (fun k => lv_null C.1 C.2.1 hd k) h
theorem ickW {own idx : Nat} {v : Int32} (h : ick own idx = some v) : Jvm.Cond.constant (own8 own) idx v ∈ ALLW := by
  unfold ick at h
  split at h
  · cases h
  · rename_i l hl
    exact ALLW_of (ws := icwords own idx v) (fun w hw => icW_ok w (allT_in (f := icwords) hl h hw)) _ (by simp [icwords])
theorem lckW {own idx : Nat} {v : Int64} (h : lck own idx = some v) : Jvm.Cond.constantLong (own8 own) idx v ∈ ALLW := by
  unfold lck at h
  split at h
  · cases h
  · rename_i l hl
    exact ALLW_of (ws := lcwords own idx v) (fun w hw => lcW_ok w (allT_in (f := lcwords) hl h hw)) _ (by simp [lcwords])
theorem s_ldcw (C : Ctx E X Y d p R s m args meth c) {ix : Nat} {v : Int32} (hd : decode Y.2.2.1 pc = .ok (.ldc_w ix, 3)) (hv : ick Y.1.2.1 ix = some v) (h : PS E Y n0 p l e R s m args below meth c Q (pc + 3) L (aI v :: st) S fc fs) : PS E Y n0 p l e R s m args below meth c Q pc L st S fc fs :=
  s_push (v := aI v) trivial (fun k => lv_ldcw C.1 C.2.1 C.2.2.2.1 (C.2.2.2.2.1 _ (ickW hv)) hd k) h
theorem s_ldc2 (C : Ctx E X Y d p R s m args meth c) {ix : Nat} {v : Int64} (hd : decode Y.2.2.1 pc = .ok (.ldc2_w ix, 3)) (hv : lck Y.1.2.1 ix = some v) (h : PS E Y n0 p l e R s m args below meth c Q (pc + 3) L (aL v :: st) S fc fs) : PS E Y n0 p l e R s m args below meth c Q pc L st S fc fs :=
  s_push (v := aL v) trivial (fun k => lv_ldc2 C.1 C.2.1 C.2.2.2.1 (C.2.2.2.2.1 _ (lckW hv)) hd k) h
/-- a row that reads a local -/
theorem s_load {v : AV} {n i : Nat} (hv : nth L i = some (some v)) (hW : ∀ {H : Heap} {locs : List Loc} {ls : Array Slot}, ls[i]? = some (.val (cv E v)) → W p l e R s m args below meth c H locs fc fs Q (F0 m n ls (cv E v :: st.map (cv E))) → W p l e R s m args below meth c H locs fc fs Q (F0 m pc ls (st.map (cv E))))
    (h : PS E Y n0 p l e R s m args below meth c Q n L (v :: st) S fc fs) : PS E Y n0 p l e R s m args below meth c Q pc L st S fc fs :=
  fun H locs ls h1 h2 h3 h4 h5 h6 h7 h8 h9 => hW (h2.at hv) (h H locs ls h1 h2 h3 (lv1 (h3 i v hv) h4) h5 h6 h7 h8 h9)
theorem getI_of {i : Nat} {k : Int32 → Prop} (h : getI L i k) : ∃ x, nth L i = some (some (aI x)) ∧ k x := by
  unfold getI at h
  split at h
  · exact ⟨_, by assumption, h⟩
  · exact h.elim
theorem getJ_of {i : Nat} {k : Int64 → Prop} (h : getJ L i k) : ∃ x, nth L i = some (some (aL x)) ∧ k x := by
  unfold getJ at h
  split at h
  · exact ⟨_, by assumption, h⟩
  · exact h.elim
theorem getA_of {i : Nat} {k : Option (Nat × Nat) → Prop} (h : getA L i k) : ∃ x, nth L i = some (some (Sum.inr (Sum.inr x))) ∧ k x := by
  unfold getA at h
  split at h
  · exact ⟨_, by assumption, h⟩
  · exact h.elim
theorem s_iload (C : Ctx E X Y d p R s m args meth c) {i : Nat} (hd : decode Y.2.2.1 pc = .ok (.iload i, 2)) (h : getI L i fun x => PS E Y n0 p l e R s m args below meth c Q (pc + 2) L (aI x :: st) S fc fs) : PS E Y n0 p l e R s m args below meth c Q pc L st S fc fs := by
  obtain ⟨x, hx, h⟩ := getI_of h
  exact s_load hx (fun hl k => lv_iload C.1 C.2.1 hd hl k) h
theorem s_iload_n (C : Ctx E X Y d p R s m args meth c) {i : Fin 4} (hd : decode Y.2.2.1 pc = .ok (.iload_n i, 1)) (h : getI L i.val fun x => PS E Y n0 p l e R s m args below meth c Q (pc + 1) L (aI x :: st) S fc fs) : PS E Y n0 p l e R s m args below meth c Q pc L st S fc fs := by
  obtain ⟨x, hx, h⟩ := getI_of h
  exact s_load hx (fun hl k => lv_iload_n C.1 C.2.1 hd rfl hl k) h
theorem s_lload (C : Ctx E X Y d p R s m args meth c) {i : Nat} (hd : decode Y.2.2.1 pc = .ok (.lload i, 2)) (h : getJ L i fun x => PS E Y n0 p l e R s m args below meth c Q (pc + 2) L (aL x :: st) S fc fs) : PS E Y n0 p l e R s m args below meth c Q pc L st S fc fs := by
  obtain ⟨x, hx, h⟩ := getJ_of h
  exact s_load hx (fun hl k => lv_lload C.1 C.2.1 hd hl k) h
theorem s_lload_n (C : Ctx E X Y d p R s m args meth c) {i : Fin 4} (hd : decode Y.2.2.1 pc = .ok (.lload_n i, 1)) (h : getJ L i.val fun x => PS E Y n0 p l e R s m args below meth c Q (pc + 1) L (aL x :: st) S fc fs) : PS E Y n0 p l e R s m args below meth c Q pc L st S fc fs := by
  obtain ⟨x, hx, h⟩ := getJ_of h
  exact s_load hx (fun hl k => lv_lload_n C.1 C.2.1 hd rfl hl k) h
theorem s_aload (C : Ctx E X Y d p R s m args meth c) {i : Nat} (hd : decode Y.2.2.1 pc = .ok (.aload i, 2)) (h : getA L i fun x => PS E Y n0 p l e R s m args below meth c Q (pc + 2) L (Sum.inr (Sum.inr x) :: st) S fc fs) : PS E Y n0 p l e R s m args below meth c Q pc L st S fc fs := by
  obtain ⟨x, hx, h⟩ := getA_of h
  rcases x with _ | x
  · exact s_load hx (fun hl k => lv_aloadN C.1 C.2.1 hd hl k) h
  · exact s_load hx (fun hl k => lv_aload C.1 C.2.1 hd hl k) h
theorem s_aload_n (C : Ctx E X Y d p R s m args meth c) {i : Fin 4} (hd : decode Y.2.2.1 pc = .ok (.aload_n i, 1)) (h : getA L i.val fun x => PS E Y n0 p l e R s m args below meth c Q (pc + 1) L (Sum.inr (Sum.inr x) :: st) S fc fs) : PS E Y n0 p l e R s m args below meth c Q pc L st S fc fs := by
  obtain ⟨x, hx, h⟩ := getA_of h
  rcases x with _ | x
  · exact s_load hx (fun hl k => lv_aload_nN C.1 C.2.1 hd rfl hl k) h
  · exact s_load hx (fun hl k => lv_aload_n C.1 C.2.1 hd rfl hl k) h
/-- a row that writes a local -/
theorem s_store {v : AV} {n i : Nat} {r : List AV} (hj : isJ v = false) (hW : ∀ {H : Heap} {locs : List Loc} {ls : Array Slot}, LokL E ls Y.2.2.2.1 L → (∀ ls' : Array Slot, lv_has ls' Y.2.2.2.1 ((i, cv E v) :: (lvl E L 0).filter (fun q => !(q.1 == i) && !(q.1 + 1 == i && q.2.category == 2))) → W p l e R s m args below meth c H locs fc fs Q (F0 m n ls' (r.map (cv E)))) → W p l e R s m args below meth c H locs fc fs Q (F0 m pc ls (cv E v :: r.map (cv E))))
    (h : PS E Y n0 p l e R s m args below meth c Q n (putL L i v) r S fc fs) : PS E Y n0 p l e R s m args below meth c Q pc L (v :: r) S fc fs :=
  fun H locs ls h1 h2 h3 h4 h5 h6 h7 h8 h9 => hW h2 (fun ls' h' => h H locs ls' h1 (h2.put1 hj h') (lvs_put h3 (lvh h4)) (lvt h4) h5 h6 h7 h8 h9)
theorem s_store2 {v : AV} {n i : Nat} {r : List AV} (hj : isJ v = true) (hW : ∀ {H : Heap} {locs : List Loc} {ls : Array Slot}, LokL E ls Y.2.2.2.1 L → (∀ ls' : Array Slot, lv_has ls' Y.2.2.2.1 ((i, cv E v) :: (lvl E L 0).filter (fun q => !(q.1 == i) && (!(q.1 == i + 1) && !(q.1 + 1 == i && q.2.category == 2)))) → W p l e R s m args below meth c H locs fc fs Q (F0 m n ls' (r.map (cv E)))) → W p l e R s m args below meth c H locs fc fs Q (F0 m pc ls (cv E v :: r.map (cv E))))
    (h : PS E Y n0 p l e R s m args below meth c Q n (putL L i v) r S fc fs) : PS E Y n0 p l e R s m args below meth c Q pc L (v :: r) S fc fs :=
  fun H locs ls h1 h2 h3 h4 h5 h6 h7 h8 h9 => hW h2 (fun ls' h' => h H locs ls' h1 (h2.put2 hj h') (lvs_put h3 (lvh h4)) (lvt h4) h5 h6 h7 h8 h9)
theorem popI_of {k : Int32 → List AV → Prop} (h : popI st k) : ∃ x r, st = aI x :: r ∧ k x r := by
  unfold popI at h
  split at h
  · exact ⟨_, _, rfl, h⟩
  · exact h.elim
theorem popJ_of {k : Int64 → List AV → Prop} (h : popJ st k) : ∃ x r, st = aL x :: r ∧ k x r := by
  unfold popJ at h
  split at h
  · exact ⟨_, _, rfl, h⟩
  · exact h.elim
theorem popR_of {k : Nat → Nat → List AV → Prop} (h : popR st k) : ∃ j g r, st = aR j g :: r ∧ k j g r := by
  unfold popR at h
  split at h
  · exact ⟨_, _, _, rfl, h⟩
  · exact h.elim
theorem popS_of {k : AV → List AV → Prop} (h : popS st k) : ∃ v r, st = v :: r ∧ isJ v = false ∧ k v r := by
  unfold popS at h
  split at h
  · exact ⟨_, _, rfl, rfl, h⟩
  · exact ⟨_, _, rfl, rfl, h⟩
  · exact h.elim
end SND
