/-! THE CLAIM OUT OF ONE WALK OF THE LAW'S BODY. Your part is whole_start (and what it stands on); all else here is the same for every law, but numbers. -/
def R_law : String := "DanceStillOwedLaw"
def lw_P (b : Addr) (xs : List Int32) (args : Array Value) (s : State) : Prop := args = #[.ref b] ∧ s.IntsAt b xs ∧ xs.length ≤ 3072 ∧ (Jvm.Cond.and given_1 narrow_1).before args s = true
def lw_Q (_ : Array Value) (s : State) (o : Outcome) (t : State) : Prop := o = .returned (some (.int 1)) ∧ Framed s o t [] 600000 7302250
def lw_Z (below : List Frame) (a : Array Value) (s : State) : State → Prop := fun t => ∃ o, t.status = .running ∧ Ended t below o ∧ lw_Q a s o t
/-- the law's own end, with 1 on the stack, nothing written that was there before, its room as the claim has it -/
theorem lw_ret {p : Program} {l : Launch} {e : Env} {s : State} {m : MethodId} {below : List Frame} {meth : Method} {c : Code} {b : Nat} (hx : p.tables.exec = Jvm.exec) (hb : c.code = code) (hr : meth.sig.returnType = ret) (hlocks : meth.locks = false) {pc : Nat} {H : Heap} {ls : Array Slot} (hdg : decode code pc = .ok (.ireturn, 1)) : W p l e room_1 s m #[Value.ref b] below meth c H [] 600000 7302250 (lw_Z below #[Value.ref b] s) (F0 m pc ls [.int 1]) := by
  intro T hT X
  obtain ⟨fs, hret, hrun, hended, hW, hframe⟩ := X.leave (v := some (.int 1)) (hlocks := hlocks) (fun h => by rw [hr] at h; cases h)
  have hmeth' : T.vm.method? m = some meth := X.method'
  refine ⟨T.setFrames fs, ?_, .returned (some (.int 1)), hrun, hended, rfl, ⟨_, rfl⟩, hW, hframe⟩
  jvm_step X.here [X.here.top, hx, hb, hdg, hmeth', hr, ret, narrow_b1]
  (try refine ⟨rfl, ?_⟩); (try refine ⟨rfl, ?_⟩)
  first | (intro acts; rw [hret _ acts rfl rfl rfl]) | rw [hret _ _ rfl rfl rfl]
  exact Steps.refl _
/-- what holds at the law's entry: the machine, the code, the tables' words (any of lw_tbl by 'hts w (by decide +kernel)'), the script of L ints xs at the cell b, what the Statement gives of the start (any of its parts by flat_of_before) -/
def lw_At (p : Program) (s : State) (m : MethodId) (meth : Method) (c : Code) (b L : Nat) (xs : Nat → Int32) : Prop :=
  p.tables.exec = Jvm.exec ∧ c.code = code ∧ meth.sig.returnType = ret ∧ c.maxLocals = 4 ∧ s.vm.findClass R_law = some m.cls ∧ (∀ w ∈ lw_tbl, w.before #[Value.ref b] s = true) ∧ va_X b L xs s s.heap ∧ b < s.heap.size ∧ meth.locks = false ∧ (Jvm.Cond.and given_1 narrow_1).before #[Value.ref b] s = true
theorem hw_ls_LESSER : (.laysStatic RX5 "LESSER" "[I" : Cond) ∈ lw_tbl := List.mem_of_getElem? (i := 151) (by decide +kernel)
theorem hw_ls_GREATER : (.laysStatic RX5 "GREATER" "[I" : Cond) ∈ lw_tbl := List.mem_of_getElem? (i := 612) (by decide +kernel)
theorem hw_ls_SETS : (.laysStatic RX5 "SETS" "[I" : Cond) ∈ lw_tbl := List.mem_of_getElem? (i := 668) (by decide +kernel)
theorem hw_ls_GREATEST : (.laysStatic RX5 "GREATEST" "[I" : Cond) ∈ lw_tbl := List.mem_of_getElem? (i := 293) (by decide +kernel)
theorem hw_ls_UNDER : (.laysStatic RX5 "UNDER" "[I" : Cond) ∈ lw_tbl := List.mem_of_getElem? (i := 837) (by decide +kernel)
theorem hw_ls_CS : (.laysStatic RJ0 "COMPACT_STRINGS" "Z" : Cond) ∈ lw_tbl := List.mem_of_getElem? (i := 414) (by decide +kernel)
theorem hw_ls_SI : (.laysStatic RJ3 "SIOOBE_FORMATTER" "Ljava/util/function/BiFunction;" : Cond) ∈ lw_tbl := List.mem_of_getElem? (i := 430) (by decide +kernel)
theorem hw_n_X5 : (.initialized RX5 : Cond) ∈ lw_tbl := List.mem_of_getElem? (i := 84) (by decide +kernel)
theorem hw_n_J0 : (.initialized RJ0 : Cond) ∈ lw_tbl := List.mem_of_getElem? (i := 91) (by decide +kernel)
theorem hw_n_J3 : (.initialized RJ3 : Cond) ∈ lw_tbl := List.mem_of_getElem? (i := 93) (by decide +kernel)
theorem hw_ai : (.arrayClass .int : Cond) ∈ lw_tbl := List.mem_of_getElem? (i := 128) (by decide +kernel)
theorem hw_az : (.arrayClass .boolean : Cond) ∈ lw_tbl := List.mem_of_getElem? (i := 989) (by decide +kernel)
theorem hw_ao_0 : (.arrayOver (.object RX0) : Cond) ∈ lw_tbl := List.mem_of_getElem? (i := 201) (by decide +kernel)
theorem hw_ao_3 : (.arrayOver (.object RX3) : Cond) ∈ lw_tbl := List.mem_of_getElem? (i := 242) (by decide +kernel)
theorem hw_ao_4 : (.arrayOver (.object RX4) : Cond) ∈ lw_tbl := List.mem_of_getElem? (i := 113) (by decide +kernel)
theorem hw_in_0 : (.instantiable RX0 13 : Cond) ∈ lw_tbl := List.mem_of_getElem? (i := 145) (by decide +kernel)
theorem hw_in_1 : (.instantiable RX1 10 : Cond) ∈ lw_tbl := List.mem_of_getElem? (i := 203) (by decide +kernel)
theorem hw_in_2 : (.instantiable RX2 4 : Cond) ∈ lw_tbl := List.mem_of_getElem? (i := 107) (by decide +kernel)
theorem hw_in_3 : (.instantiable RX3 3 : Cond) ∈ lw_tbl := List.mem_of_getElem? (i := 243) (by decide +kernel)
theorem hw_in_4 : (.instantiable RX4 2 : Cond) ∈ lw_tbl := List.mem_of_getElem? (i := 114) (by decide +kernel)
theorem hw_in_5 : (.instantiable RX5 8 : Cond) ∈ lw_tbl := List.mem_of_getElem? (i := 99) (by decide +kernel)
theorem hw_in_6 : (.instantiable RX6 45 : Cond) ∈ lw_tbl := List.mem_of_getElem? (i := 839) (by decide +kernel)
theorem hw_fn1 : (.fieldLinkNest RX0 24 RX5 "LESSER" "[I" RX5 : Cond) ∈ lw_tbl := List.mem_of_getElem? (i := 150) (by decide +kernel)
theorem hw_fn2 : (.fieldLinkNest RX0 107 RX5 "GREATER" "[I" RX5 : Cond) ∈ lw_tbl := List.mem_of_getElem? (i := 611) (by decide +kernel)
theorem hw_fn3 : (.fieldLinkNest RX0 131 RX5 "SETS" "[I" RX5 : Cond) ∈ lw_tbl := List.mem_of_getElem? (i := 667) (by decide +kernel)
theorem hw_mn1 : (.methodLinkNest RX5 34 yX1_init RX5 : Cond) ∈ lw_tbl := List.mem_of_getElem? (i := 204) (by decide +kernel)
theorem hw_mn2 : (.methodLinkNest RX5 41 yX3_init RX5 : Cond) ∈ lw_tbl := List.mem_of_getElem? (i := 244) (by decide +kernel)
theorem hw_mn3 : (.methodLinkNest RX0 72 yX5_within RX5 : Cond) ∈ lw_tbl := List.mem_of_getElem? (i := 326) (by decide +kernel)
theorem hw_cl : (.castable "[I" "java/lang/Cloneable" : Cond) ∈ lw_tbl := List.mem_of_getElem? (i := 573) (by decide +kernel)
theorem hw_sr_0 : (.stringRef RX1 106 "();+-*<=" : Cond) ∈ lw_tbl := List.mem_of_getElem? (i := 464) (by decide +kernel)
theorem hw_sr_1 : (.stringRef RX1 114 "pays" : Cond) ∈ lw_tbl := List.mem_of_getElem? (i := 400) (by decide +kernel)
theorem hw_sr_2 : (.stringRef RX1 120 "wills" : Cond) ∈ lw_tbl := List.mem_of_getElem? (i := 453) (by decide +kernel)
theorem hw_sr_3 : (.stringRef RX1 122 "breath" : Cond) ∈ lw_tbl := List.mem_of_getElem? (i := 454) (by decide +kernel)
theorem hw_sr_4 : (.stringRef RX1 124 "or" : Cond) ∈ lw_tbl := List.mem_of_getElem? (i := 455) (by decide +kernel)
theorem hw_sr_5 : (.stringRef RX1 126 "and" : Cond) ∈ lw_tbl := List.mem_of_getElem? (i := 456) (by decide +kernel)
theorem hw_sr_6 : (.stringRef RX1 128 "not" : Cond) ∈ lw_tbl := List.mem_of_getElem? (i := 457) (by decide +kernel)
theorem hw_sr_7 : (.stringRef RX1 130 "debt" : Cond) ∈ lw_tbl := List.mem_of_getElem? (i := 458) (by decide +kernel)
theorem hw_sr_8 : (.stringRef RX1 132 "owed" : Cond) ∈ lw_tbl := List.mem_of_getElem? (i := 459) (by decide +kernel)
theorem hw_sr_9 : (.stringRef RX1 134 "number" : Cond) ∈ lw_tbl := List.mem_of_getElem? (i := 460) (by decide +kernel)
theorem hw_sr_10 : (.stringRef RX1 135 "round" : Cond) ∈ lw_tbl := List.mem_of_getElem? (i := 461) (by decide +kernel)
theorem hw_sr_11 : (.stringRef RX1 137 "done" : Cond) ∈ lw_tbl := List.mem_of_getElem? (i := 462) (by decide +kernel)
theorem hw_sr_12 : (.stringRef RX1 139 "night" : Cond) ∈ lw_tbl := List.mem_of_getElem? (i := 463) (by decide +kernel)
/-- what the Statement gives of the start, piece by piece -/
def FLT : List Cond := flatC (Jvm.Cond.and given_1 narrow_1)
def tmA (n : String) : Term := .static RX5 n "[I"
theorem fl_len : ∀ w ∈ ([.eq (.length (tmA "LESSER")) (.int (Int32.ofNat 10)), .eq (.length (tmA "GREATER")) (.int (Int32.ofNat 10)), .eq (.length (tmA "SETS")) (.int (Int32.ofNat 26)), .eq (.length (tmA "GREATEST")) (.int (Int32.ofNat 5)), .eq (.length (tmA "UNDER")) (.int (Int32.ofNat 6)), .arrayOf (tmA "LESSER") .int, .arrayOf (tmA "GREATER") .int, .arrayOf (tmA "SETS") .int, .arrayOf (tmA "GREATEST") .int, .arrayOf (tmA "UNDER") .int, .eq (.static RJ0 "COMPACT_STRINGS" "Z") (.int 1), .isRef (.static RJ3 "SIOOBE_FORMATTER" "Ljava/util/function/BiFunction;")] : List Cond), w ∈ FLT := by decide +kernel
theorem fl_61 : ∀ j, j < 10 → (Cond.eq (.elem (tmA "LESSER") (.int (Int32.ofNat j))) (.int (nI (prA j)))) ∈ FLT := by decide +kernel
theorem fl_62 : ∀ j, j < 10 → (Cond.eq (.elem (tmA "GREATER") (.int (Int32.ofNat j))) (.int (nI (prB j)))) ∈ FLT := by decide +kernel
theorem fl_63 : ∀ j, j < 26 → (Cond.eq (.elem (tmA "SETS") (.int (Int32.ofNat j))) (.int (nI (setN j)))) ∈ FLT := by decide +kernel
theorem fl_64 : ∀ j, j < 5 → (Cond.eq (.elem (tmA "GREATEST") (.int (Int32.ofNat j))) (.int (nI (grN j)))) ∈ FLT := by decide +kernel
theorem fl_65 : ∀ j, j < 6 → (Cond.eq (.elem (tmA "UNDER") (.int (Int32.ofNat j))) (.int (unI j))) ∈ FLT := by decide +kernel
def ixG (g : Nat) : Nat := [106, 114, 120, 122, 124, 126, 128, 130, 132, 134, 135, 137, 139].getD g 0
def tmS (g : Nat) : Term := .string RX1 (ixG g)
def tmV (g : Nat) : Term := .field (tmS g) "java/lang/String" "value" "[B"
theorem fl_s : ∀ g, g < 13 → (Cond.exactly (tmS g) "java/lang/String") ∈ FLT ∧ (Cond.eq (.field (tmS g) "java/lang/String" "coder" "B") (.int 0)) ∈ FLT ∧ (Cond.arrayOf (tmV g) .byte) ∈ FLT ∧ (Cond.eq (.length (tmV g)) (.int (Int32.ofNat (lenJ.getD g 0)))) ∈ FLT := by decide +kernel
theorem fl_b : ∀ g, g < 13 → ∀ j, j < lenJ.getD g 0 → (Cond.eq (.elem (tmV g) (.int (Int32.ofNat j))) (.int ((bytJ.getD g []).getD j 0))) ∈ FLT := by decide +kernel
theorem fn_1_2 : Cond.not (Cond.eq (tmS 1) (tmS 2)) ∈ FLT := List.mem_of_getElem? (i := 119) (by decide +kernel)
theorem fn_1_3 : Cond.not (Cond.eq (tmS 1) (tmS 3)) ∈ FLT := List.mem_of_getElem? (i := 130) (by decide +kernel)
theorem fn_2_3 : Cond.not (Cond.eq (tmS 2) (tmS 3)) ∈ FLT := List.mem_of_getElem? (i := 131) (by decide +kernel)
theorem fn_1_4 : Cond.not (Cond.eq (tmS 1) (tmS 4)) ∈ FLT := List.mem_of_getElem? (i := 138) (by decide +kernel)
theorem fn_2_4 : Cond.not (Cond.eq (tmS 2) (tmS 4)) ∈ FLT := List.mem_of_getElem? (i := 139) (by decide +kernel)
theorem fn_3_4 : Cond.not (Cond.eq (tmS 3) (tmS 4)) ∈ FLT := List.mem_of_getElem? (i := 140) (by decide +kernel)
theorem fn_1_5 : Cond.not (Cond.eq (tmS 1) (tmS 5)) ∈ FLT := List.mem_of_getElem? (i := 148) (by decide +kernel)
theorem fn_2_5 : Cond.not (Cond.eq (tmS 2) (tmS 5)) ∈ FLT := List.mem_of_getElem? (i := 149) (by decide +kernel)
theorem fn_3_5 : Cond.not (Cond.eq (tmS 3) (tmS 5)) ∈ FLT := List.mem_of_getElem? (i := 150) (by decide +kernel)
theorem fn_4_5 : Cond.not (Cond.eq (tmS 4) (tmS 5)) ∈ FLT := List.mem_of_getElem? (i := 151) (by decide +kernel)
theorem fn_1_6 : Cond.not (Cond.eq (tmS 1) (tmS 6)) ∈ FLT := List.mem_of_getElem? (i := 159) (by decide +kernel)
theorem fn_2_6 : Cond.not (Cond.eq (tmS 2) (tmS 6)) ∈ FLT := List.mem_of_getElem? (i := 160) (by decide +kernel)
theorem fn_3_6 : Cond.not (Cond.eq (tmS 3) (tmS 6)) ∈ FLT := List.mem_of_getElem? (i := 161) (by decide +kernel)
theorem fn_4_6 : Cond.not (Cond.eq (tmS 4) (tmS 6)) ∈ FLT := List.mem_of_getElem? (i := 162) (by decide +kernel)
theorem fn_5_6 : Cond.not (Cond.eq (tmS 5) (tmS 6)) ∈ FLT := List.mem_of_getElem? (i := 163) (by decide +kernel)
theorem fn_1_7 : Cond.not (Cond.eq (tmS 1) (tmS 7)) ∈ FLT := List.mem_of_getElem? (i := 172) (by decide +kernel)
theorem fn_2_7 : Cond.not (Cond.eq (tmS 2) (tmS 7)) ∈ FLT := List.mem_of_getElem? (i := 173) (by decide +kernel)
theorem fn_3_7 : Cond.not (Cond.eq (tmS 3) (tmS 7)) ∈ FLT := List.mem_of_getElem? (i := 174) (by decide +kernel)
theorem fn_4_7 : Cond.not (Cond.eq (tmS 4) (tmS 7)) ∈ FLT := List.mem_of_getElem? (i := 175) (by decide +kernel)
theorem fn_5_7 : Cond.not (Cond.eq (tmS 5) (tmS 7)) ∈ FLT := List.mem_of_getElem? (i := 176) (by decide +kernel)
theorem fn_6_7 : Cond.not (Cond.eq (tmS 6) (tmS 7)) ∈ FLT := List.mem_of_getElem? (i := 177) (by decide +kernel)
theorem fn_1_8 : Cond.not (Cond.eq (tmS 1) (tmS 8)) ∈ FLT := List.mem_of_getElem? (i := 186) (by decide +kernel)
theorem fn_2_8 : Cond.not (Cond.eq (tmS 2) (tmS 8)) ∈ FLT := List.mem_of_getElem? (i := 187) (by decide +kernel)
theorem fn_3_8 : Cond.not (Cond.eq (tmS 3) (tmS 8)) ∈ FLT := List.mem_of_getElem? (i := 188) (by decide +kernel)
theorem fn_4_8 : Cond.not (Cond.eq (tmS 4) (tmS 8)) ∈ FLT := List.mem_of_getElem? (i := 189) (by decide +kernel)
theorem fn_5_8 : Cond.not (Cond.eq (tmS 5) (tmS 8)) ∈ FLT := List.mem_of_getElem? (i := 190) (by decide +kernel)
theorem fn_6_8 : Cond.not (Cond.eq (tmS 6) (tmS 8)) ∈ FLT := List.mem_of_getElem? (i := 191) (by decide +kernel)
theorem fn_7_8 : Cond.not (Cond.eq (tmS 7) (tmS 8)) ∈ FLT := List.mem_of_getElem? (i := 192) (by decide +kernel)
theorem fn_1_9 : Cond.not (Cond.eq (tmS 1) (tmS 9)) ∈ FLT := List.mem_of_getElem? (i := 203) (by decide +kernel)
theorem fn_2_9 : Cond.not (Cond.eq (tmS 2) (tmS 9)) ∈ FLT := List.mem_of_getElem? (i := 204) (by decide +kernel)
theorem fn_3_9 : Cond.not (Cond.eq (tmS 3) (tmS 9)) ∈ FLT := List.mem_of_getElem? (i := 205) (by decide +kernel)
theorem fn_4_9 : Cond.not (Cond.eq (tmS 4) (tmS 9)) ∈ FLT := List.mem_of_getElem? (i := 206) (by decide +kernel)
theorem fn_5_9 : Cond.not (Cond.eq (tmS 5) (tmS 9)) ∈ FLT := List.mem_of_getElem? (i := 207) (by decide +kernel)
theorem fn_6_9 : Cond.not (Cond.eq (tmS 6) (tmS 9)) ∈ FLT := List.mem_of_getElem? (i := 208) (by decide +kernel)
theorem fn_7_9 : Cond.not (Cond.eq (tmS 7) (tmS 9)) ∈ FLT := List.mem_of_getElem? (i := 209) (by decide +kernel)
theorem fn_8_9 : Cond.not (Cond.eq (tmS 8) (tmS 9)) ∈ FLT := List.mem_of_getElem? (i := 210) (by decide +kernel)
theorem fn_1_10 : Cond.not (Cond.eq (tmS 1) (tmS 10)) ∈ FLT := List.mem_of_getElem? (i := 220) (by decide +kernel)
theorem fn_2_10 : Cond.not (Cond.eq (tmS 2) (tmS 10)) ∈ FLT := List.mem_of_getElem? (i := 221) (by decide +kernel)
theorem fn_3_10 : Cond.not (Cond.eq (tmS 3) (tmS 10)) ∈ FLT := List.mem_of_getElem? (i := 222) (by decide +kernel)
theorem fn_4_10 : Cond.not (Cond.eq (tmS 4) (tmS 10)) ∈ FLT := List.mem_of_getElem? (i := 223) (by decide +kernel)
theorem fn_5_10 : Cond.not (Cond.eq (tmS 5) (tmS 10)) ∈ FLT := List.mem_of_getElem? (i := 224) (by decide +kernel)
theorem fn_6_10 : Cond.not (Cond.eq (tmS 6) (tmS 10)) ∈ FLT := List.mem_of_getElem? (i := 225) (by decide +kernel)
theorem fn_7_10 : Cond.not (Cond.eq (tmS 7) (tmS 10)) ∈ FLT := List.mem_of_getElem? (i := 226) (by decide +kernel)
theorem fn_8_10 : Cond.not (Cond.eq (tmS 8) (tmS 10)) ∈ FLT := List.mem_of_getElem? (i := 227) (by decide +kernel)
theorem fn_9_10 : Cond.not (Cond.eq (tmS 9) (tmS 10)) ∈ FLT := List.mem_of_getElem? (i := 228) (by decide +kernel)
theorem fn_1_11 : Cond.not (Cond.eq (tmS 1) (tmS 11)) ∈ FLT := List.mem_of_getElem? (i := 237) (by decide +kernel)
theorem fn_2_11 : Cond.not (Cond.eq (tmS 2) (tmS 11)) ∈ FLT := List.mem_of_getElem? (i := 238) (by decide +kernel)
theorem fn_3_11 : Cond.not (Cond.eq (tmS 3) (tmS 11)) ∈ FLT := List.mem_of_getElem? (i := 239) (by decide +kernel)
theorem fn_4_11 : Cond.not (Cond.eq (tmS 4) (tmS 11)) ∈ FLT := List.mem_of_getElem? (i := 240) (by decide +kernel)
theorem fn_5_11 : Cond.not (Cond.eq (tmS 5) (tmS 11)) ∈ FLT := List.mem_of_getElem? (i := 241) (by decide +kernel)
theorem fn_6_11 : Cond.not (Cond.eq (tmS 6) (tmS 11)) ∈ FLT := List.mem_of_getElem? (i := 242) (by decide +kernel)
theorem fn_7_11 : Cond.not (Cond.eq (tmS 7) (tmS 11)) ∈ FLT := List.mem_of_getElem? (i := 243) (by decide +kernel)
theorem fn_8_11 : Cond.not (Cond.eq (tmS 8) (tmS 11)) ∈ FLT := List.mem_of_getElem? (i := 244) (by decide +kernel)
theorem fn_9_11 : Cond.not (Cond.eq (tmS 9) (tmS 11)) ∈ FLT := List.mem_of_getElem? (i := 245) (by decide +kernel)
theorem fn_10_11 : Cond.not (Cond.eq (tmS 10) (tmS 11)) ∈ FLT := List.mem_of_getElem? (i := 246) (by decide +kernel)
theorem fn_1_12 : Cond.not (Cond.eq (tmS 1) (tmS 12)) ∈ FLT := List.mem_of_getElem? (i := 256) (by decide +kernel)
theorem fn_2_12 : Cond.not (Cond.eq (tmS 2) (tmS 12)) ∈ FLT := List.mem_of_getElem? (i := 257) (by decide +kernel)
theorem fn_3_12 : Cond.not (Cond.eq (tmS 3) (tmS 12)) ∈ FLT := List.mem_of_getElem? (i := 258) (by decide +kernel)
theorem fn_4_12 : Cond.not (Cond.eq (tmS 4) (tmS 12)) ∈ FLT := List.mem_of_getElem? (i := 259) (by decide +kernel)
theorem fn_5_12 : Cond.not (Cond.eq (tmS 5) (tmS 12)) ∈ FLT := List.mem_of_getElem? (i := 260) (by decide +kernel)
theorem fn_6_12 : Cond.not (Cond.eq (tmS 6) (tmS 12)) ∈ FLT := List.mem_of_getElem? (i := 261) (by decide +kernel)
theorem fn_7_12 : Cond.not (Cond.eq (tmS 7) (tmS 12)) ∈ FLT := List.mem_of_getElem? (i := 262) (by decide +kernel)
theorem fn_8_12 : Cond.not (Cond.eq (tmS 8) (tmS 12)) ∈ FLT := List.mem_of_getElem? (i := 263) (by decide +kernel)
theorem fn_9_12 : Cond.not (Cond.eq (tmS 9) (tmS 12)) ∈ FLT := List.mem_of_getElem? (i := 264) (by decide +kernel)
theorem fn_10_12 : Cond.not (Cond.eq (tmS 10) (tmS 12)) ∈ FLT := List.mem_of_getElem? (i := 265) (by decide +kernel)
theorem fn_11_12 : Cond.not (Cond.eq (tmS 11) (tmS 12)) ∈ FLT := List.mem_of_getElem? (i := 266) (by decide +kernel)
theorem fn_1_0 : Cond.not (Cond.eq (tmS 1) (tmS 0)) ∈ FLT := List.mem_of_getElem? (i := 279) (by decide +kernel)
theorem fn_2_0 : Cond.not (Cond.eq (tmS 2) (tmS 0)) ∈ FLT := List.mem_of_getElem? (i := 280) (by decide +kernel)
theorem fn_3_0 : Cond.not (Cond.eq (tmS 3) (tmS 0)) ∈ FLT := List.mem_of_getElem? (i := 281) (by decide +kernel)
theorem fn_4_0 : Cond.not (Cond.eq (tmS 4) (tmS 0)) ∈ FLT := List.mem_of_getElem? (i := 282) (by decide +kernel)
theorem fn_5_0 : Cond.not (Cond.eq (tmS 5) (tmS 0)) ∈ FLT := List.mem_of_getElem? (i := 283) (by decide +kernel)
theorem fn_6_0 : Cond.not (Cond.eq (tmS 6) (tmS 0)) ∈ FLT := List.mem_of_getElem? (i := 284) (by decide +kernel)
theorem fn_7_0 : Cond.not (Cond.eq (tmS 7) (tmS 0)) ∈ FLT := List.mem_of_getElem? (i := 285) (by decide +kernel)
theorem fn_8_0 : Cond.not (Cond.eq (tmS 8) (tmS 0)) ∈ FLT := List.mem_of_getElem? (i := 286) (by decide +kernel)
theorem fn_9_0 : Cond.not (Cond.eq (tmS 9) (tmS 0)) ∈ FLT := List.mem_of_getElem? (i := 287) (by decide +kernel)
theorem fn_10_0 : Cond.not (Cond.eq (tmS 10) (tmS 0)) ∈ FLT := List.mem_of_getElem? (i := 288) (by decide +kernel)
theorem fn_11_0 : Cond.not (Cond.eq (tmS 11) (tmS 0)) ∈ FLT := List.mem_of_getElem? (i := 289) (by decide +kernel)
theorem fn_12_0 : Cond.not (Cond.eq (tmS 12) (tmS 0)) ∈ FLT := List.mem_of_getElem? (i := 290) (by decide +kernel)
theorem fl_n : ∀ g i, g < 13 → i < 13 → g ≠ i → (Cond.not (Cond.eq (tmS g) (tmS i))) ∈ FLT ∨ (Cond.not (Cond.eq (tmS i) (tmS g))) ∈ FLT := by
  intro g i hg hi hn
  rcases (show g = 0 ∨ g = 1 ∨ g = 2 ∨ g = 3 ∨ g = 4 ∨ g = 5 ∨ g = 6 ∨ g = 7 ∨ g = 8 ∨ g = 9 ∨ g = 10 ∨ g = 11 ∨ g = 12 by omega) with rfl | rfl | rfl | rfl | rfl | rfl | rfl | rfl | rfl | rfl | rfl | rfl | rfl
  · rcases (show i = 0 ∨ i = 1 ∨ i = 2 ∨ i = 3 ∨ i = 4 ∨ i = 5 ∨ i = 6 ∨ i = 7 ∨ i = 8 ∨ i = 9 ∨ i = 10 ∨ i = 11 ∨ i = 12 by omega) with rfl | rfl | rfl | rfl | rfl | rfl | rfl | rfl | rfl | rfl | rfl | rfl | rfl
    · exact absurd rfl hn
    · exact Or.inr fn_1_0
    · exact Or.inr fn_2_0
    · exact Or.inr fn_3_0
    · exact Or.inr fn_4_0
    · exact Or.inr fn_5_0
    · exact Or.inr fn_6_0
    · exact Or.inr fn_7_0
    · exact Or.inr fn_8_0
    · exact Or.inr fn_9_0
    · exact Or.inr fn_10_0
    · exact Or.inr fn_11_0
    · exact Or.inr fn_12_0
  · rcases (show i = 0 ∨ i = 1 ∨ i = 2 ∨ i = 3 ∨ i = 4 ∨ i = 5 ∨ i = 6 ∨ i = 7 ∨ i = 8 ∨ i = 9 ∨ i = 10 ∨ i = 11 ∨ i = 12 by omega) with rfl | rfl | rfl | rfl | rfl | rfl | rfl | rfl | rfl | rfl | rfl | rfl | rfl
    · exact Or.inl fn_1_0
    · exact absurd rfl hn
    · exact Or.inl fn_1_2
    · exact Or.inl fn_1_3
    · exact Or.inl fn_1_4
    · exact Or.inl fn_1_5
    · exact Or.inl fn_1_6
    · exact Or.inl fn_1_7
    · exact Or.inl fn_1_8
    · exact Or.inl fn_1_9
    · exact Or.inl fn_1_10
    · exact Or.inl fn_1_11
    · exact Or.inl fn_1_12
  · rcases (show i = 0 ∨ i = 1 ∨ i = 2 ∨ i = 3 ∨ i = 4 ∨ i = 5 ∨ i = 6 ∨ i = 7 ∨ i = 8 ∨ i = 9 ∨ i = 10 ∨ i = 11 ∨ i = 12 by omega) with rfl | rfl | rfl | rfl | rfl | rfl | rfl | rfl | rfl | rfl | rfl | rfl | rfl
    · exact Or.inl fn_2_0
    · exact Or.inr fn_1_2
    · exact absurd rfl hn
    · exact Or.inl fn_2_3
    · exact Or.inl fn_2_4
    · exact Or.inl fn_2_5
    · exact Or.inl fn_2_6
    · exact Or.inl fn_2_7
    · exact Or.inl fn_2_8
    · exact Or.inl fn_2_9
    · exact Or.inl fn_2_10
    · exact Or.inl fn_2_11
    · exact Or.inl fn_2_12
  · rcases (show i = 0 ∨ i = 1 ∨ i = 2 ∨ i = 3 ∨ i = 4 ∨ i = 5 ∨ i = 6 ∨ i = 7 ∨ i = 8 ∨ i = 9 ∨ i = 10 ∨ i = 11 ∨ i = 12 by omega) with rfl | rfl | rfl | rfl | rfl | rfl | rfl | rfl | rfl | rfl | rfl | rfl | rfl
    · exact Or.inl fn_3_0
    · exact Or.inr fn_1_3
    · exact Or.inr fn_2_3
    · exact absurd rfl hn
    · exact Or.inl fn_3_4
    · exact Or.inl fn_3_5
    · exact Or.inl fn_3_6
    · exact Or.inl fn_3_7
    · exact Or.inl fn_3_8
    · exact Or.inl fn_3_9
    · exact Or.inl fn_3_10
    · exact Or.inl fn_3_11
    · exact Or.inl fn_3_12
  · rcases (show i = 0 ∨ i = 1 ∨ i = 2 ∨ i = 3 ∨ i = 4 ∨ i = 5 ∨ i = 6 ∨ i = 7 ∨ i = 8 ∨ i = 9 ∨ i = 10 ∨ i = 11 ∨ i = 12 by omega) with rfl | rfl | rfl | rfl | rfl | rfl | rfl | rfl | rfl | rfl | rfl | rfl | rfl
    · exact Or.inl fn_4_0
    · exact Or.inr fn_1_4
    · exact Or.inr fn_2_4
    · exact Or.inr fn_3_4
    · exact absurd rfl hn
    · exact Or.inl fn_4_5
    · exact Or.inl fn_4_6
    · exact Or.inl fn_4_7
    · exact Or.inl fn_4_8
    · exact Or.inl fn_4_9
    · exact Or.inl fn_4_10
    · exact Or.inl fn_4_11
    · exact Or.inl fn_4_12
  · rcases (show i = 0 ∨ i = 1 ∨ i = 2 ∨ i = 3 ∨ i = 4 ∨ i = 5 ∨ i = 6 ∨ i = 7 ∨ i = 8 ∨ i = 9 ∨ i = 10 ∨ i = 11 ∨ i = 12 by omega) with rfl | rfl | rfl | rfl | rfl | rfl | rfl | rfl | rfl | rfl | rfl | rfl | rfl
    · exact Or.inl fn_5_0
    · exact Or.inr fn_1_5
    · exact Or.inr fn_2_5
    · exact Or.inr fn_3_5
    · exact Or.inr fn_4_5
    · exact absurd rfl hn
    · exact Or.inl fn_5_6
    · exact Or.inl fn_5_7
    · exact Or.inl fn_5_8
    · exact Or.inl fn_5_9
    · exact Or.inl fn_5_10
    · exact Or.inl fn_5_11
    · exact Or.inl fn_5_12
  · rcases (show i = 0 ∨ i = 1 ∨ i = 2 ∨ i = 3 ∨ i = 4 ∨ i = 5 ∨ i = 6 ∨ i = 7 ∨ i = 8 ∨ i = 9 ∨ i = 10 ∨ i = 11 ∨ i = 12 by omega) with rfl | rfl | rfl | rfl | rfl | rfl | rfl | rfl | rfl | rfl | rfl | rfl | rfl
    · exact Or.inl fn_6_0
    · exact Or.inr fn_1_6
    · exact Or.inr fn_2_6
    · exact Or.inr fn_3_6
    · exact Or.inr fn_4_6
    · exact Or.inr fn_5_6
    · exact absurd rfl hn
    · exact Or.inl fn_6_7
    · exact Or.inl fn_6_8
    · exact Or.inl fn_6_9
    · exact Or.inl fn_6_10
    · exact Or.inl fn_6_11
    · exact Or.inl fn_6_12
  · rcases (show i = 0 ∨ i = 1 ∨ i = 2 ∨ i = 3 ∨ i = 4 ∨ i = 5 ∨ i = 6 ∨ i = 7 ∨ i = 8 ∨ i = 9 ∨ i = 10 ∨ i = 11 ∨ i = 12 by omega) with rfl | rfl | rfl | rfl | rfl | rfl | rfl | rfl | rfl | rfl | rfl | rfl | rfl
    · exact Or.inl fn_7_0
    · exact Or.inr fn_1_7
    · exact Or.inr fn_2_7
    · exact Or.inr fn_3_7
    · exact Or.inr fn_4_7
    · exact Or.inr fn_5_7
    · exact Or.inr fn_6_7
    · exact absurd rfl hn
    · exact Or.inl fn_7_8
    · exact Or.inl fn_7_9
    · exact Or.inl fn_7_10
    · exact Or.inl fn_7_11
    · exact Or.inl fn_7_12
  · rcases (show i = 0 ∨ i = 1 ∨ i = 2 ∨ i = 3 ∨ i = 4 ∨ i = 5 ∨ i = 6 ∨ i = 7 ∨ i = 8 ∨ i = 9 ∨ i = 10 ∨ i = 11 ∨ i = 12 by omega) with rfl | rfl | rfl | rfl | rfl | rfl | rfl | rfl | rfl | rfl | rfl | rfl | rfl
    · exact Or.inl fn_8_0
    · exact Or.inr fn_1_8
    · exact Or.inr fn_2_8
    · exact Or.inr fn_3_8
    · exact Or.inr fn_4_8
    · exact Or.inr fn_5_8
    · exact Or.inr fn_6_8
    · exact Or.inr fn_7_8
    · exact absurd rfl hn
    · exact Or.inl fn_8_9
    · exact Or.inl fn_8_10
    · exact Or.inl fn_8_11
    · exact Or.inl fn_8_12
  · rcases (show i = 0 ∨ i = 1 ∨ i = 2 ∨ i = 3 ∨ i = 4 ∨ i = 5 ∨ i = 6 ∨ i = 7 ∨ i = 8 ∨ i = 9 ∨ i = 10 ∨ i = 11 ∨ i = 12 by omega) with rfl | rfl | rfl | rfl | rfl | rfl | rfl | rfl | rfl | rfl | rfl | rfl | rfl
    · exact Or.inl fn_9_0
    · exact Or.inr fn_1_9
    · exact Or.inr fn_2_9
    · exact Or.inr fn_3_9
    · exact Or.inr fn_4_9
    · exact Or.inr fn_5_9
    · exact Or.inr fn_6_9
    · exact Or.inr fn_7_9
    · exact Or.inr fn_8_9
    · exact absurd rfl hn
    · exact Or.inl fn_9_10
    · exact Or.inl fn_9_11
    · exact Or.inl fn_9_12
  · rcases (show i = 0 ∨ i = 1 ∨ i = 2 ∨ i = 3 ∨ i = 4 ∨ i = 5 ∨ i = 6 ∨ i = 7 ∨ i = 8 ∨ i = 9 ∨ i = 10 ∨ i = 11 ∨ i = 12 by omega) with rfl | rfl | rfl | rfl | rfl | rfl | rfl | rfl | rfl | rfl | rfl | rfl | rfl
    · exact Or.inl fn_10_0
    · exact Or.inr fn_1_10
    · exact Or.inr fn_2_10
    · exact Or.inr fn_3_10
    · exact Or.inr fn_4_10
    · exact Or.inr fn_5_10
    · exact Or.inr fn_6_10
    · exact Or.inr fn_7_10
    · exact Or.inr fn_8_10
    · exact Or.inr fn_9_10
    · exact absurd rfl hn
    · exact Or.inl fn_10_11
    · exact Or.inl fn_10_12
  · rcases (show i = 0 ∨ i = 1 ∨ i = 2 ∨ i = 3 ∨ i = 4 ∨ i = 5 ∨ i = 6 ∨ i = 7 ∨ i = 8 ∨ i = 9 ∨ i = 10 ∨ i = 11 ∨ i = 12 by omega) with rfl | rfl | rfl | rfl | rfl | rfl | rfl | rfl | rfl | rfl | rfl | rfl | rfl
    · exact Or.inl fn_11_0
    · exact Or.inr fn_1_11
    · exact Or.inr fn_2_11
    · exact Or.inr fn_3_11
    · exact Or.inr fn_4_11
    · exact Or.inr fn_5_11
    · exact Or.inr fn_6_11
    · exact Or.inr fn_7_11
    · exact Or.inr fn_8_11
    · exact Or.inr fn_9_11
    · exact Or.inr fn_10_11
    · exact absurd rfl hn
    · exact Or.inl fn_11_12
  · rcases (show i = 0 ∨ i = 1 ∨ i = 2 ∨ i = 3 ∨ i = 4 ∨ i = 5 ∨ i = 6 ∨ i = 7 ∨ i = 8 ∨ i = 9 ∨ i = 10 ∨ i = 11 ∨ i = 12 by omega) with rfl | rfl | rfl | rfl | rfl | rfl | rfl | rfl | rfl | rfl | rfl | rfl | rfl
    · exact Or.inl fn_12_0
    · exact Or.inr fn_1_12
    · exact Or.inr fn_2_12
    · exact Or.inr fn_3_12
    · exact Or.inr fn_4_12
    · exact Or.inr fn_5_12
    · exact Or.inr fn_6_12
    · exact Or.inr fn_7_12
    · exact Or.inr fn_8_12
    · exact Or.inr fn_9_12
    · exact Or.inr fn_10_12
    · exact Or.inr fn_11_12
    · exact absurd rfl hn
theorem lenJ_lt : ∀ g, g < 13 → lenJ.getD g 0 < 2 ^ 31 := by decide +kernel
theorem arrI {s : State} {args : Array Value} {ty : FieldType} (hty : ty = .int ∨ ty = .boolean) (h : (Cond.arrayClass ty).before args s = true) : ∃ c, ArrOfT s c ty ∧ va_RA s c ty := by
  obtain ⟨c, k, comp, h1, h2, h3⟩ := Cond.arrayClass_spec h
  refine ⟨c, fun n z => ⟨fun k' hk => (by cases hk), k, h2, comp, h3⟩, ?_⟩
  rcases hty with rfl | rfl
  · exact h1
  · exact h1
theorem arrO {s : State} {args : Array Value} {C : String} (h : (Cond.arrayOver (.object C)).before args s = true) : ∃ c, ArrOfT s c (.object C) ∧ va_RA s c (.object C) := by
  obtain ⟨comp, c, k, f1, f2, f3, f4, f5⟩ := Cond.arrayOver_spec h
  exact ⟨c, fun n z => ⟨fun k' hk => (by cases hk), k, f3, comp, f4⟩, k, comp, f3, f4, f1, f5⟩
theorem st_one {s : State} {args : Array Value} {A : Nat → Prop} {n : String} {N : Nat} {f : Nat → Int32} (hN : N < 2 ^ 31) (hl : (Cond.laysStatic RX5 n "[I").before args s = true) (hini : (Cond.initialized RX5).before args s = true) (harr : (Cond.arrayOf (tmA n) .int).before args s = true) (hlen : (Cond.eq (.length (tmA n)) (.int (Int32.ofNat N))).before args s = true) (hel : ∀ j, j < N → (Cond.eq (.elem (tmA n) (.int (Int32.ofNat j))) (.int (f j))).before args s = true) (hA : ∀ a : Nat, a < s.heap.size → ¬ A a) : ∃ t, va_Z RX5 n "[I" (.ref t) A s s.heap ∧ va_T .int t N (fun j => .int (f j)) A s s.heap := by
  obtain ⟨t, h1, h2⟩ := va_Tof (f := fun j => .int (f j)) hN harr (va_eqt hlen) (fun j hj => va_eqt (hel j hj)) hA
  exact ⟨t, va_Zref hl hini h1 hA, h2⟩
/-- what the static rows hold -/
def scn (xs : Nat → Int32) (j k : Nat) : Int32 := match j with
  | 60 => xs k
  | 61 => nI (prA k)
  | 62 => nI (prB k)
  | 63 => nI (setN k)
  | 64 => nI (grN k)
  | _ => unI k
def sad (b : Nat) (t : Nat → Nat) (adK : Nat → Nat) (j g : Nat) : Nat := if j = 60 then b else if j = 70 then adK g else t j
def S00 (xs : Nat → Int32) (L : Nat) : St := (fun j g k => if 60 ≤ j ∧ g = 0 then scn xs j k else 0, 0, fun _ _ _ => true, fun t => if t = 1000 then L else 0, 0)
theorem stk_of {own ix g : Nat} (h : stk own ix = some g) : own = 1 ∧ g < 13 ∧ ix = ixG g := by
  unfold stk at h
  split at h
  · cases h
  · rename_i l hl
    match own, hl with
    | 1, hl =>
      simp only [nth, Option.some.injEq] at hl
      subst hl
      have := lkp_mem _ ix g h
      simp only [List.mem_cons, Prod.mk.injEq, List.not_mem_nil, or_false] at this
      refine ⟨rfl, ?_⟩
      rcases this with ⟨rfl, rfl⟩ | ⟨rfl, rfl⟩ | ⟨rfl, rfl⟩ | ⟨rfl, rfl⟩ | ⟨rfl, rfl⟩ | ⟨rfl, rfl⟩ | ⟨rfl, rfl⟩ | ⟨rfl, rfl⟩ | ⟨rfl, rfl⟩ | ⟨rfl, rfl⟩ | ⟨rfl, rfl⟩ | ⟨rfl, rfl⟩ | ⟨rfl, rfl⟩ <;> decide
    | 0, hl => simp only [nth, Option.some.injEq] at hl; subst hl; simp [lkp] at h
    | 2, hl => simp only [nth, Option.some.injEq] at hl; subst hl; simp [lkp] at h
    | 3, hl => simp only [nth, Option.some.injEq] at hl; subst hl; simp [lkp] at h
    | 4, hl => simp only [nth, Option.some.injEq] at hl; subst hl; simp [lkp] at h
    | 5, hl => simp only [nth, Option.some.injEq] at hl; subst hl; simp [lkp] at h
    | 6, hl => simp only [nth, Option.some.injEq] at hl; subst hl; simp [lkp] at h
    | 7, hl => simp only [nth, Option.some.injEq] at hl; subst hl; simp [lkp] at h
    | n + 8, hl => simp [nth] at hl

