/-! SOUNDNESS, on: stores, numbers, branches -/
section SNE
variable {E : Env0} {X : State → Prop} {Y : MT} {d n0 : Nat} {p : Program} {l : Launch} {e : Env} {R : Room} {s : State} {m : MethodId} {args : Array Value} {below : List Frame} {meth : Method} {c : Code} {Q : State → Prop}
variable {pc t fc fs : Nat} {L : List (Option AV)} {st : List AV} {S : St}
theorem s_istore (C : Ctx E X Y d p R s m args meth c) {i : Nat} (hd : decode Y.2.2.1 pc = .ok (.istore i, 2)) (hi : i < Y.2.2.2.1) (h : popI st fun x r => PS E Y n0 p l e R s m args below meth c Q (pc + 2) (putL L i (aI x)) r S fc fs) : PS E Y n0 p l e R s m args below meth c Q pc L st S fc fs := by
  obtain ⟨x, r, rfl, h_1⟩ := popI_of h
  exact s_store (v := aI x) rfl (fun hl k => lv_istore C.1 C.2.1 hd hl.1 hi rfl k) h_1
theorem s_istore_n (C : Ctx E X Y d p R s m args meth c) {i : Fin 4} (hd : decode Y.2.2.1 pc = .ok (.istore_n i, 1)) (hi : i.val < Y.2.2.2.1) (h : popI st fun x r => PS E Y n0 p l e R s m args below meth c Q (pc + 1) (putL L i.val (aI x)) r S fc fs) : PS E Y n0 p l e R s m args below meth c Q pc L st S fc fs := by
  obtain ⟨x, r, rfl, h_1⟩ := popI_of h
  exact s_store (v := aI x) rfl (fun hl k => lv_istore_n C.1 C.2.1 hd rfl hl.1 hi rfl k) h_1
theorem s_lstore (C : Ctx E X Y d p R s m args meth c) {i : Nat} (hd : decode Y.2.2.1 pc = .ok (.lstore i, 2)) (hi : i + 1 < Y.2.2.2.1) (h : popJ st fun x r => PS E Y n0 p l e R s m args below meth c Q (pc + 2) (putL L i (aL x)) r S fc fs) : PS E Y n0 p l e R s m args below meth c Q pc L st S fc fs := by
  obtain ⟨x, r, rfl, h_1⟩ := popJ_of h
  exact s_store2 (v := aL x) rfl (fun hl k => lv_lstore C.1 C.2.1 hd hl.1 hi rfl k) h_1
theorem s_lstore_n (C : Ctx E X Y d p R s m args meth c) {i : Fin 4} (hd : decode Y.2.2.1 pc = .ok (.lstore_n i, 1)) (hi : i.val + 1 < Y.2.2.2.1) (h : popJ st fun x r => PS E Y n0 p l e R s m args below meth c Q (pc + 1) (putL L i.val (aL x)) r S fc fs) : PS E Y n0 p l e R s m args below meth c Q pc L st S fc fs := by
  obtain ⟨x, r, rfl, h_1⟩ := popJ_of h
  exact s_store2 (v := aL x) rfl (fun hl k => lv_lstore_n C.1 C.2.1 hd rfl hl.1 hi rfl k) h_1
theorem s_astore (C : Ctx E X Y d p R s m args meth c) {i : Nat} (hd : decode Y.2.2.1 pc = .ok (.astore i, 2)) (hi : i < Y.2.2.2.1) (h : popR st fun j g r => PS E Y n0 p l e R s m args below meth c Q (pc + 2) (putL L i (aR j g)) r S fc fs) : PS E Y n0 p l e R s m args below meth c Q pc L st S fc fs := by
  obtain ⟨j, g, r, rfl, h_1⟩ := popR_of h
  exact s_store (v := aR j g) rfl (fun hl k => lv_astore C.1 C.2.1 hd hl.1 hi rfl k) h_1
theorem s_astore_n (C : Ctx E X Y d p R s m args meth c) {i : Fin 4} (hd : decode Y.2.2.1 pc = .ok (.astore_n i, 1)) (hi : i.val < Y.2.2.2.1) {q : Option (Nat × Nat)} {r : List AV} (h : PS E Y n0 p l e R s m args below meth c Q (pc + 1) (putL L i.val (Sum.inr (Sum.inr q))) r S fc fs) : PS E Y n0 p l e R s m args below meth c Q pc L (Sum.inr (Sum.inr q) :: r) S fc fs := by
  rcases q with _ | q
  · exact s_store (v := aN) rfl (fun hl k => lv_astore_nN C.1 C.2.1 hd rfl hl.1 hi rfl k) h
  · exact s_store (v := aR q.1 q.2) rfl (fun hl k => lv_astore_n C.1 C.2.1 hd rfl hl.1 hi rfl k) h
theorem s_iinc (C : Ctx E X Y d p R s m args meth c) {i : Nat} {z : Int} {x : Int32} (hd : decode Y.2.2.1 pc = .ok (.iinc i z, 3)) (hz : Int32.ofInt z = x) (hi : i < Y.2.2.2.1) (h : getI L i fun y => PS E Y n0 p l e R s m args below meth c Q (pc + 3) (putL L i (aI (y + x))) st S fc fs) : PS E Y n0 p l e R s m args below meth c Q pc L st S fc fs := by
  obtain ⟨y, hy, h_1⟩ := getI_of h
  intro H locs ls h1 h2 h3 h4 h5 h6 h7 h8 h9
  obtain ⟨k, hk⟩ := lvl_at (E := E) L i 0 (aI y) hy
  rw [Nat.zero_add] at hk
  exact lv_iinc C.1 C.2.1 hd h2.1 hk (by rw [hz]) hi rfl (fun ls' h' => h_1 H locs ls' h1 (h2.put1 (v := aI (y + x)) rfl h') (lvs_put h3 trivial) h4 h5 h6 h7 h8 h9)
/-- a row that takes numbers and gives one -/
theorem s_op1 {a v : AV} {n : Nat} {r : List AV} (hv : lvA S v) (hW : ∀ {H : Heap} {locs : List Loc} {ls : Array Slot}, W p l e R s m args below meth c H locs fc fs Q (F0 m n ls (cv E v :: r.map (cv E))) → W p l e R s m args below meth c H locs fc fs Q (F0 m pc ls (cv E a :: r.map (cv E))))
    (h : PS E Y n0 p l e R s m args below meth c Q n L (v :: r) S fc fs) : PS E Y n0 p l e R s m args below meth c Q pc L (a :: r) S fc fs :=
  fun H locs ls h1 h2 h3 h4 h5 h6 h7 h8 h9 => hW (h H locs ls h1 h2 h3 (lv1 hv (lvt h4)) h5 h6 h7 h8 h9)
theorem s_op2 {a b v : AV} {n : Nat} {r : List AV} (hv : lvA S v) (hW : ∀ {H : Heap} {locs : List Loc} {ls : Array Slot}, W p l e R s m args below meth c H locs fc fs Q (F0 m n ls (cv E v :: r.map (cv E))) → W p l e R s m args below meth c H locs fc fs Q (F0 m pc ls (cv E a :: cv E b :: r.map (cv E))))
    (h : PS E Y n0 p l e R s m args below meth c Q n L (v :: r) S fc fs) : PS E Y n0 p l e R s m args below meth c Q pc L (a :: b :: r) S fc fs :=
  fun H locs ls h1 h2 h3 h4 h5 h6 h7 h8 h9 => hW (h H locs ls h1 h2 h3 (lv1 hv (lvt (lvt h4))) h5 h6 h7 h8 h9)
theorem s_bin {f : Int32 → Int32 → Int32} (hW : ∀ {x y : Int32} {H : Heap} {locs : List Loc} {ls : Array Slot} {r : List Value}, W p l e R s m args below meth c H locs fc fs Q (F0 m (pc + 1) ls (.int (f x y) :: r)) → W p l e R s m args below meth c H locs fc fs Q (F0 m pc ls (.int y :: .int x :: r)))
    (h : popI st fun y r => popI r fun x r => PS E Y n0 p l e R s m args below meth c Q (pc + 1) L (aI (f x y) :: r) S fc fs) : PS E Y n0 p l e R s m args below meth c Q pc L st S fc fs := by
  obtain ⟨y, r, rfl, h_1⟩ := popI_of h
  obtain ⟨x, r, rfl, h_2⟩ := popI_of h_1
  exact s_op2 (v := aI (f x y)) trivial (fun k => hW k) h_2
theorem s_binG {f : Int32 → Int32 → Int32} (hW : ∀ {x y : Int32} {H : Heap} {locs : List Loc} {ls : Array Slot} {r : List Value}, ¬ y = 0 → W p l e R s m args below meth c H locs fc fs Q (F0 m (pc + 1) ls (.int (f x y) :: r)) → W p l e R s m args below meth c H locs fc fs Q (F0 m pc ls (.int y :: .int x :: r)))
    (h : popI st fun y r => popI r fun x r => ¬ y = 0 ∧ PS E Y n0 p l e R s m args below meth c Q (pc + 1) L (aI (f x y) :: r) S fc fs) : PS E Y n0 p l e R s m args below meth c Q pc L st S fc fs := by
  obtain ⟨y, r, rfl, h_1⟩ := popI_of h
  obtain ⟨x, r, rfl, h_2⟩ := popI_of h_1
  exact s_op2 (v := aI (f x y)) trivial (fun k => hW h_2.1 k) h_2.2
theorem s_binL {f : Int64 → Int64 → Int64} (hW : ∀ {x y : Int64} {H : Heap} {locs : List Loc} {ls : Array Slot} {r : List Value}, W p l e R s m args below meth c H locs fc fs Q (F0 m (pc + 1) ls (.long (f x y) :: r)) → W p l e R s m args below meth c H locs fc fs Q (F0 m pc ls (.long y :: .long x :: r)))
    (h : popJ st fun y r => popJ r fun x r => PS E Y n0 p l e R s m args below meth c Q (pc + 1) L (aL (f x y) :: r) S fc fs) : PS E Y n0 p l e R s m args below meth c Q pc L st S fc fs := by
  obtain ⟨y, r, rfl, h_1⟩ := popJ_of h
  obtain ⟨x, r, rfl, h_2⟩ := popJ_of h_1
  exact s_op2 (v := aL (f x y)) trivial (fun k => hW k) h_2
theorem s_binLG {f : Int64 → Int64 → Int64} (hW : ∀ {x y : Int64} {H : Heap} {locs : List Loc} {ls : Array Slot} {r : List Value}, ¬ y = 0 → W p l e R s m args below meth c H locs fc fs Q (F0 m (pc + 1) ls (.long (f x y) :: r)) → W p l e R s m args below meth c H locs fc fs Q (F0 m pc ls (.long y :: .long x :: r)))
    (h : popJ st fun y r => popJ r fun x r => ¬ y = 0 ∧ PS E Y n0 p l e R s m args below meth c Q (pc + 1) L (aL (f x y) :: r) S fc fs) : PS E Y n0 p l e R s m args below meth c Q pc L st S fc fs := by
  obtain ⟨y, r, rfl, h_1⟩ := popJ_of h
  obtain ⟨x, r, rfl, h_2⟩ := popJ_of h_1
  exact s_op2 (v := aL (f x y)) trivial (fun k => hW h_2.1 k) h_2.2
theorem s_lcmp (C : Ctx E X Y d p R s m args meth c) (hd : decode Y.2.2.1 pc = .ok (.lcmp, 1)) (h : popJ st fun y r => popJ r fun x r => PS E Y n0 p l e R s m args below meth c Q (pc + 1) L (aI (lg_cmp x y) :: r) S fc fs) : PS E Y n0 p l e R s m args below meth c Q pc L st S fc fs := by
  obtain ⟨y, r, rfl, h_1⟩ := popJ_of h
  obtain ⟨x, r, rfl, h_2⟩ := popJ_of h_1
  exact s_op2 (v := aI (lg_cmp x y)) trivial (fun k => W.lcmp C.1 C.2.1 hd k) h_2
theorem s_un {f : Int32 → AV} (hf : ∀ x, lvA S (f x)) (hW : ∀ {x : Int32} {H : Heap} {locs : List Loc} {ls : Array Slot} {r : List Value}, W p l e R s m args below meth c H locs fc fs Q (F0 m (pc + 1) ls (cv E (f x) :: r)) → W p l e R s m args below meth c H locs fc fs Q (F0 m pc ls (.int x :: r)))
    (h : popI st fun x r => PS E Y n0 p l e R s m args below meth c Q (pc + 1) L (f x :: r) S fc fs) : PS E Y n0 p l e R s m args below meth c Q pc L st S fc fs := by
  obtain ⟨x, r, rfl, h_1⟩ := popI_of h
  exact s_op1 (hf x) (fun k => hW k) h_1
theorem s_l2i (C : Ctx E X Y d p R s m args meth c) (hd : decode Y.2.2.1 pc = .ok (.l2i, 1)) (h : popJ st fun x r => PS E Y n0 p l e R s m args below meth c Q (pc + 1) L (aI x.toInt32 :: r) S fc fs) : PS E Y n0 p l e R s m args below meth c Q pc L st S fc fs := by
  obtain ⟨x, r, rfl, h_1⟩ := popJ_of h
  exact s_op1 (v := aI x.toInt32) trivial (fun k => lv_l2i C.1 C.2.1 hd rfl k) h_1
theorem cv_cat1 {v : AV} (h : isJ v = false) : (cv E v).category = 1 := by
  rcases v with x | x | x | x <;> first | rfl | (simp [isJ] at h; done)
theorem s_dup (C : Ctx E X Y d p R s m args meth c) (hd : decode Y.2.2.1 pc = .ok (.dup, 1)) (h : popS st fun v r => PS E Y n0 p l e R s m args below meth c Q (pc + 1) L (v :: v :: r) S fc fs) : PS E Y n0 p l e R s m args below meth c Q pc L st S fc fs := by
  obtain ⟨v, r, rfl, hv, h_1⟩ := popS_of h
  exact fun H locs ls h1 h2 h3 h4 h5 h6 h7 h8 h9 => lv_dup C.1 C.2.1 hd (cv_cat1 hv) (h_1 H locs ls h1 h2 h3 (lv1 (lvh h4) h4) h5 h6 h7 h8 h9)
theorem s_dup2 (C : Ctx E X Y d p R s m args meth c) (hd : decode Y.2.2.1 pc = .ok (.dup2, 1)) (h : popS st fun v r => popS r fun u r => PS E Y n0 p l e R s m args below meth c Q (pc + 1) L (v :: u :: v :: u :: r) S fc fs) : PS E Y n0 p l e R s m args below meth c Q pc L st S fc fs := by
  obtain ⟨v, r, rfl, hv, h_1⟩ := popS_of h
  obtain ⟨u, r, rfl, hu, h_2⟩ := popS_of h_1
  exact fun H locs ls h1 h2 h3 h4 h5 h6 h7 h8 h9 => lv_dup2_11 C.1 C.2.1 hd (cv_cat1 hv) (cv_cat1 hu) (h_2 H locs ls h1 h2 h3 (lv1 (lvh h4) (lv1 (lvh (lvt h4)) h4)) h5 h6 h7 h8 h9)
theorem s_pop (C : Ctx E X Y d p R s m args meth c) (hd : decode Y.2.2.1 pc = .ok (.pop, 1)) (h : popS st fun _ r => PS E Y n0 p l e R s m args below meth c Q (pc + 1) L r S fc fs) : PS E Y n0 p l e R s m args below meth c Q pc L st S fc fs := by
  obtain ⟨v, r, rfl, hv, h_1⟩ := popS_of h
  exact fun H locs ls h1 h2 h3 h4 h5 h6 h7 h8 h9 => lv_pop C.1 C.2.1 hd (cv_cat1 hv) (h_1 H locs ls h1 h2 h3 (lvt h4) h5 h6 h7 h8 h9)
/-- a branch on one number, on two -/
theorem s_br1 {u w : Int32 → Prop} {n : Nat} (hW : ∀ {x : Int32} {H : Heap} {locs : List Loc} {ls : Array Slot} {r : List Value}, (u x → W p l e R s m args below meth c H locs fc fs Q (F0 m t ls r)) → (w x → W p l e R s m args below meth c H locs fc fs Q (F0 m n ls r)) → W p l e R s m args below meth c H locs fc fs Q (F0 m pc ls (.int x :: r)))
    (h : popI st fun x r => (u x → PS E Y n0 p l e R s m args below meth c Q t L r S fc fs) ∧ (w x → PS E Y n0 p l e R s m args below meth c Q n L r S fc fs)) : PS E Y n0 p l e R s m args below meth c Q pc L st S fc fs := by
  obtain ⟨x, r, rfl, h_1⟩ := popI_of h
  exact fun H locs ls h1 h2 h3 h4 h5 h6 h7 h8 h9 => hW (fun z => h_1.1 z H locs ls h1 h2 h3 (lvt h4) h5 h6 h7 h8 h9) (fun z => h_1.2 z H locs ls h1 h2 h3 (lvt h4) h5 h6 h7 h8 h9)
theorem s_br2 {u w : Int32 → Int32 → Prop} {n : Nat} (hW : ∀ {x y : Int32} {H : Heap} {locs : List Loc} {ls : Array Slot} {r : List Value}, (u x y → W p l e R s m args below meth c H locs fc fs Q (F0 m t ls r)) → (w x y → W p l e R s m args below meth c H locs fc fs Q (F0 m n ls r)) → W p l e R s m args below meth c H locs fc fs Q (F0 m pc ls (.int y :: .int x :: r)))
    (h : popI st fun y r => popI r fun x r => (u x y → PS E Y n0 p l e R s m args below meth c Q t L r S fc fs) ∧ (w x y → PS E Y n0 p l e R s m args below meth c Q n L r S fc fs)) : PS E Y n0 p l e R s m args below meth c Q pc L st S fc fs := by
  obtain ⟨y, r, rfl, h_1⟩ := popI_of h
  obtain ⟨x, r, rfl, h_2⟩ := popI_of h_1
  exact fun H locs ls h1 h2 h3 h4 h5 h6 h7 h8 h9 => hW (fun z => h_2.1 z H locs ls h1 h2 h3 (lvt (lvt h4)) h5 h6 h7 h8 h9) (fun z => h_2.2 z H locs ls h1 h2 h3 (lvt (lvt h4)) h5 h6 h7 h8 h9)
theorem s_goto (C : Ctx E X Y d p R s m args meth c) {o : Int} (hd : decode Y.2.2.1 pc = .ok (.goto o, 3)) (ht : (pc : Int) + o = (t : Int)) (h : PS E Y n0 p l e R s m args below meth c Q t L st S fc fs) : PS E Y n0 p l e R s m args below meth c Q pc L st S fc fs :=
  fun H locs ls h1 h2 h3 h4 h5 h6 h7 h8 h9 => lv_goto C.1 C.2.1 hd ht (h H locs ls h1 h2 h3 h4 h5 h6 h7 h8 h9)
theorem s_ifnn (C : Ctx E X Y d p R s m args meth c) {o : Int} (hd : decode Y.2.2.1 pc = .ok (.ifnonnull o, 3)) (ht : (pc : Int) + o = (t : Int)) {q : Nat × Nat} {r : List AV} (h : PS E Y n0 p l e R s m args below meth c Q t L r S fc fs) : PS E Y n0 p l e R s m args below meth c Q pc L (Sum.inr (Sum.inr (some q)) :: r) S fc fs :=
  fun H locs ls h1 h2 h3 h4 h5 h6 h7 h8 h9 => lv_ifnonnull C.1 C.2.1 hd ht (h H locs ls h1 h2 h3 (lvt h4) h5 h6 h7 h8 h9)
theorem s_ifnnN (C : Ctx E X Y d p R s m args meth c) {o : Int} (hd : decode Y.2.2.1 pc = .ok (.ifnonnull o, 3)) {r : List AV} (h : PS E Y n0 p l e R s m args below meth c Q (pc + 3) L r S fc fs) : PS E Y n0 p l e R s m args below meth c Q pc L (aN :: r) S fc fs :=
  fun H locs ls h1 h2 h3 h4 h5 h6 h7 h8 h9 => lv_ifnonnullN C.1 C.2.1 hd (h H locs ls h1 h2 h3 (lvt h4) h5 h6 h7 h8 h9)
end SNE
