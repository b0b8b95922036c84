/-! THE CLAIM OUT OF ONE WALK OF THE LAW'S BODY. Your part is whole_start (and what it stands on); all else here is the same for every law, but numbers. -/
def R_law : String := "DanceStillOwedLaw"
def lw_P (b : Addr) (xs : List Int32) (args : Array Value) (s : State) : Prop := args = #[.ref b] ∧ s.IntsAt b xs ∧ xs.length ≤ 260 ∧ (Jvm.Cond.and given_1 narrow_1).before args s = true
def lw_Q (_ : Array Value) (s : State) (o : Outcome) (t : State) : Prop := o = .returned (some (.int 1)) ∧ Framed s o t [] 600000 7302250
def lw_Z (below : List Frame) (a : Array Value) (s : State) : State → Prop := fun t => ∃ o, t.status = .running ∧ Ended t below o ∧ lw_Q a s o t
/-- the law's own end, with 1 on the stack, nothing written that was there before, its room as the claim has it -/
theorem lw_ret {p : Program} {l : Launch} {e : Env} {s : State} {m : MethodId} {below : List Frame} {meth : Method} {c : Code} {b : Nat} (hx : p.tables.exec = Jvm.exec) (hb : c.code = code) (hr : meth.sig.returnType = ret) (hlocks : meth.locks = false) {pc : Nat} {H : Heap} {ls : Array Slot} (hdg : decode code pc = .ok (.ireturn, 1)) : W p l e room_1 s m #[Value.ref b] below meth c H [] 600000 7302250 (lw_Z below #[Value.ref b] s) (F0 m pc ls [.int 1]) := by
  intro T hT X
  obtain ⟨fs, hret, hrun, hended, hW, hframe⟩ := X.leave (v := some (.int 1)) (hlocks := hlocks) (fun h => by rw [hr] at h; cases h)
  have hmeth' : T.vm.method? m = some meth := X.method'
  refine ⟨T.setFrames fs, ?_, .returned (some (.int 1)), hrun, hended, rfl, ⟨_, rfl⟩, hW, hframe⟩
  jvm_step X.here [X.here.top, hx, hb, hdg, hmeth', hr, ret, narrow_b1]
  (try refine ⟨rfl, ?_⟩); (try refine ⟨rfl, ?_⟩)
  first | (intro acts; rw [hret _ acts rfl rfl rfl]) | rw [hret _ _ rfl rfl rfl]
  exact Steps.refl _
/-- what holds at the law's entry: the machine, the code, the tables' words (any of lw_tbl by 'hts w (by decide +kernel)'), the script of L ints xs at the cell b, what the Statement gives of the start (any of its parts by flat_of_before) -/
def lw_At (p : Program) (s : State) (m : MethodId) (meth : Method) (c : Code) (b L : Nat) (xs : Nat → Int32) : Prop :=
  p.tables.exec = Jvm.exec ∧ c.code = code ∧ meth.sig.returnType = ret ∧ c.maxLocals = 12 ∧ s.vm.findClass R_law = some m.cls ∧ (∀ w ∈ lw_tbl, w.before #[Value.ref b] s = true) ∧ va_X b L xs s s.heap ∧ b < s.heap.size ∧ meth.locks = false ∧ (Jvm.Cond.and given_1 narrow_1).before #[Value.ref b] s = true
theorem hw_ls_LESSER : (.laysStatic RX5 "LESSER" "[I" : Cond) ∈ lw_tbl := List.mem_of_getElem? (i := 80) (by decide +kernel)
theorem hw_ls_GREATER : (.laysStatic RX5 "GREATER" "[I" : Cond) ∈ lw_tbl := List.mem_of_getElem? (i := 295) (by decide +kernel)
theorem hw_ls_SETS : (.laysStatic RX5 "SETS" "[I" : Cond) ∈ lw_tbl := List.mem_of_getElem? (i := 368) (by decide +kernel)
theorem hw_ls_GREATEST : (.laysStatic RX5 "GREATEST" "[I" : Cond) ∈ lw_tbl := List.mem_of_getElem? (i := 213) (by decide +kernel)
theorem hw_n_X5 : (.initialized RX5 : Cond) ∈ lw_tbl := List.mem_of_getElem? (i := 18) (by decide +kernel)
theorem hw_ai : (.arrayClass .int : Cond) ∈ lw_tbl := List.mem_of_getElem? (i := 57) (by decide +kernel)
theorem hw_ao_0 : (.arrayOver (.object RX0) : Cond) ∈ lw_tbl := List.mem_of_getElem? (i := 130) (by decide +kernel)
theorem hw_ao_3 : (.arrayOver (.object RX3) : Cond) ∈ lw_tbl := List.mem_of_getElem? (i := 163) (by decide +kernel)
theorem hw_ao_4 : (.arrayOver (.object RX4) : Cond) ∈ lw_tbl := List.mem_of_getElem? (i := 42) (by decide +kernel)
theorem hw_in_0 : (.instantiable RX0 13 : Cond) ∈ lw_tbl := List.mem_of_getElem? (i := 74) (by decide +kernel)
theorem hw_in_1 : (.instantiable RX1 10 : Cond) ∈ lw_tbl := List.mem_of_getElem? (i := 132) (by decide +kernel)
theorem hw_in_2 : (.instantiable RX2 4 : Cond) ∈ lw_tbl := List.mem_of_getElem? (i := 36) (by decide +kernel)
theorem hw_in_3 : (.instantiable RX3 3 : Cond) ∈ lw_tbl := List.mem_of_getElem? (i := 164) (by decide +kernel)
theorem hw_in_4 : (.instantiable RX4 2 : Cond) ∈ lw_tbl := List.mem_of_getElem? (i := 43) (by decide +kernel)
theorem hw_in_5 : (.instantiable RX5 8 : Cond) ∈ lw_tbl := List.mem_of_getElem? (i := 28) (by decide +kernel)
theorem hw_fn1 : (.fieldLinkNest RX0 24 RX5 "LESSER" "[I" RX5 : Cond) ∈ lw_tbl := List.mem_of_getElem? (i := 79) (by decide +kernel)
theorem hw_fn2 : (.fieldLinkNest RX0 107 RX5 "GREATER" "[I" RX5 : Cond) ∈ lw_tbl := List.mem_of_getElem? (i := 294) (by decide +kernel)
theorem hw_fn3 : (.fieldLinkNest RX0 131 RX5 "SETS" "[I" RX5 : Cond) ∈ lw_tbl := List.mem_of_getElem? (i := 367) (by decide +kernel)
theorem hw_mn1 : (.methodLinkNest RX5 34 yX1_init RX5 : Cond) ∈ lw_tbl := List.mem_of_getElem? (i := 133) (by decide +kernel)
theorem hw_mn2 : (.methodLinkNest RX5 41 yX3_init RX5 : Cond) ∈ lw_tbl := List.mem_of_getElem? (i := 165) (by decide +kernel)
theorem hw_mn3 : (.methodLinkNest RX0 72 yX5_within RX5 : Cond) ∈ lw_tbl := List.mem_of_getElem? (i := 246) (by decide +kernel)
/-- what the Statement gives of the start, piece by piece -/
def FLT : List Cond := flatC (Jvm.Cond.and given_1 narrow_1)
def tmA (n : String) : Term := .static RX5 n "[I"
theorem fl_len : ∀ w ∈ ([.eq (.length (tmA "LESSER")) (.int (Int32.ofNat 10)), .eq (.length (tmA "GREATER")) (.int (Int32.ofNat 10)), .eq (.length (tmA "SETS")) (.int (Int32.ofNat 26)), .eq (.length (tmA "GREATEST")) (.int (Int32.ofNat 5)), .arrayOf (tmA "LESSER") .int, .arrayOf (tmA "GREATER") .int, .arrayOf (tmA "SETS") .int, .arrayOf (tmA "GREATEST") .int] : List Cond), w ∈ FLT := by decide +kernel
theorem fl_61 : ∀ j, j < 10 → (Cond.eq (.elem (tmA "LESSER") (.int (Int32.ofNat j))) (.int (nI (prA j)))) ∈ FLT := by decide +kernel
theorem fl_62 : ∀ j, j < 10 → (Cond.eq (.elem (tmA "GREATER") (.int (Int32.ofNat j))) (.int (nI (prB j)))) ∈ FLT := by decide +kernel
theorem fl_63 : ∀ j, j < 26 → (Cond.eq (.elem (tmA "SETS") (.int (Int32.ofNat j))) (.int (nI (setN j)))) ∈ FLT := by decide +kernel
theorem fl_64 : ∀ j, j < 5 → (Cond.eq (.elem (tmA "GREATEST") (.int (Int32.ofNat j))) (.int (nI (grN j)))) ∈ FLT := by decide +kernel
theorem arrI {s : State} {args : Array Value} {ty : FieldType} (hty : ty = .int ∨ ty = .boolean) (h : (Cond.arrayClass ty).before args s = true) : ∃ c, ArrOfT s c ty ∧ va_RA s c ty := by
  obtain ⟨c, k, comp, h1, h2, h3⟩ := Cond.arrayClass_spec h
  refine ⟨c, fun n z => ⟨fun k' hk => (by cases hk), k, h2, comp, h3⟩, ?_⟩
  rcases hty with rfl | rfl
  · exact h1
  · exact h1
theorem arrO {s : State} {args : Array Value} {C : String} (h : (Cond.arrayOver (.object C)).before args s = true) : ∃ c, ArrOfT s c (.object C) ∧ va_RA s c (.object C) := by
  obtain ⟨comp, c, k, f1, f2, f3, f4, f5⟩ := Cond.arrayOver_spec h
  exact ⟨c, fun n z => ⟨fun k' hk => (by cases hk), k, f3, comp, f4⟩, k, comp, f3, f4, f1, f5⟩
theorem st_one {s : State} {args : Array Value} {A : Nat → Prop} {n : String} {N : Nat} {f : Nat → Int32} (hN : N < 2 ^ 31) (hl : (Cond.laysStatic RX5 n "[I").before args s = true) (hini : (Cond.initialized RX5).before args s = true) (harr : (Cond.arrayOf (tmA n) .int).before args s = true) (hlen : (Cond.eq (.length (tmA n)) (.int (Int32.ofNat N))).before args s = true) (hel : ∀ j, j < N → (Cond.eq (.elem (tmA n) (.int (Int32.ofNat j))) (.int (f j))).before args s = true) (hA : ∀ a : Nat, a < s.heap.size → ¬ A a) : ∃ t, va_Z RX5 n "[I" (.ref t) A s s.heap ∧ va_T .int t N (fun j => .int (f j)) A s s.heap := by
  obtain ⟨t, h1, h2⟩ := va_Tof (f := fun j => .int (f j)) hN harr (va_eqt hlen) (fun j hj => va_eqt (hel j hj)) hA
  exact ⟨t, va_Zref hl hini h1 hA, h2⟩
theorem va_Zmo {C n d : String} {v : Value} {A B : Nat → Prop} {U : State} {H : Heap} (h : va_Z C n d v A U H) (hB : ∀ a, ¬ A a → ¬ B a) : va_Z C n d v B U H := by
  obtain ⟨cf, kf, fi, f, a, cell, h1, h2, h3, h4, h5, h6, h7, h8⟩ := h
  exact ⟨cf, kf, fi, f, a, cell, h1, h2, h3, h4, h5, h6, h7, hB a h8⟩
theorem va_Tmo {ty : FieldType} {t N : Nat} {f : Nat → Value} {A B : Nat → Prop} {U : State} {H : Heap} (h : va_T ty t N f A U H) (hB : ∀ a, ¬ A a → ¬ B a) : va_T ty t N f B U H := by
  obtain ⟨cell, h1, h2, h3, h4, h5, h6, h7⟩ := h
  exact ⟨cell, h1, h2, h3, h4, h5, h6, hB t h7⟩
/-- what the static rows hold -/
def scn (xs : Nat → Int32) (j k : Nat) : Int32 := match j with
  | 60 => xs k
  | 61 => nI (prA k)
  | 62 => nI (prB k)
  | 63 => nI (setN k)
  | 64 => nI (grN k)
  | _ => unI k
def sad (b : Nat) (t : Nat → Nat) (j _g : Nat) : Nat := if j = 60 then b else t j
def S00 (xs : Nat → Int32) (L : Nat) : St := (fun j g k => if 60 ≤ j ∧ g = 0 then scn xs j k else 0, 0, fun _ _ _ => true, fun t => if t = 1000 then L else 0, 0)

