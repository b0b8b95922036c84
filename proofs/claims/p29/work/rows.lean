section
-- ===== PART A: goes FIRST, ahead of the names: the tables' words, and 'selects' of the private methods out of them =====
/-- a private method of a class that the tables say can be made, by its rows of tables_1 -/
def lw_okq (q : MethodName × Nat) : Prop := (q.1.cls ≠ "java/lang/invoke/MethodHandle" ∧ q.1.cls ≠ "java/lang/invoke/VarHandle") ∧ Cond.instantiable q.1.cls q.2 ∈ tables_1 ∧ Cond.privateMethod q.1 ∈ tables_1 ∧ Cond.instanceMethod q.1 ∈ tables_1
theorem lw_p0 : lw_okq (⟨"DanceStillOwed", "debtPlace", "(I)I"⟩, 8) := ⟨⟨by decide +kernel, by decide +kernel⟩, List.mem_of_getElem? (i := 11) (by decide +kernel), List.mem_of_getElem? (i := 202) (by decide +kernel), List.mem_of_getElem? (i := 203) (by decide +kernel)⟩
theorem lw_p1 : lw_okq (⟨"DanceStillOwed", "isTwo", "(II)Z"⟩, 8) := ⟨⟨by decide +kernel, by decide +kernel⟩, List.mem_of_getElem? (i := 11) (by decide +kernel), List.mem_of_getElem? (i := 206) (by decide +kernel), List.mem_of_getElem? (i := 207) (by decide +kernel)⟩
theorem lw_p2 : lw_okq (⟨"DanceStillOwed", "isDancer", "(I)Z"⟩, 8) := ⟨⟨by decide +kernel, by decide +kernel⟩, List.mem_of_getElem? (i := 11) (by decide +kernel), List.mem_of_getElem? (i := 210) (by decide +kernel), List.mem_of_getElem? (i := 211) (by decide +kernel)⟩
theorem lw_p3 : lw_okq (⟨"DanceStillOwed$Floor", "value", "(III)I"⟩, 13) := ⟨⟨by decide +kernel, by decide +kernel⟩, List.mem_of_getElem? (i := 57) (by decide +kernel), List.mem_of_getElem? (i := 218) (by decide +kernel), List.mem_of_getElem? (i := 219) (by decide +kernel)⟩
theorem lw_p4 : lw_okq (⟨"DanceStillOwed$Floor", "settle", "(IIII)V"⟩, 13) := ⟨⟨by decide +kernel, by decide +kernel⟩, List.mem_of_getElem? (i := 57) (by decide +kernel), List.mem_of_getElem? (i := 286) (by decide +kernel), List.mem_of_getElem? (i := 287) (by decide +kernel)⟩
theorem lw_p5 : lw_okq (⟨"DanceStillOwed", "readRing", "(I)I"⟩, 8) := ⟨⟨by decide +kernel, by decide +kernel⟩, List.mem_of_getElem? (i := 11) (by decide +kernel), List.mem_of_getElem? (i := 309) (by decide +kernel), List.mem_of_getElem? (i := 310) (by decide +kernel)⟩
theorem lw_p6 : lw_okq (⟨"DanceStillOwed", "think", "()LDanceStillOwed$Floor;"⟩, 8) := ⟨⟨by decide +kernel, by decide +kernel⟩, List.mem_of_getElem? (i := 11) (by decide +kernel), List.mem_of_getElem? (i := 319) (by decide +kernel), List.mem_of_getElem? (i := 320) (by decide +kernel)⟩
theorem lw_p7 : lw_okq (⟨"DanceStillOwed", "sitters", "()I"⟩, 8) := ⟨⟨by decide +kernel, by decide +kernel⟩, List.mem_of_getElem? (i := 11) (by decide +kernel), List.mem_of_getElem? (i := 362) (by decide +kernel), List.mem_of_getElem? (i := 363) (by decide +kernel)⟩
theorem lw_p8 : lw_okq (⟨"DanceStillOwed", "soonest", "()I"⟩, 8) := ⟨⟨by decide +kernel, by decide +kernel⟩, List.mem_of_getElem? (i := 11) (by decide +kernel), List.mem_of_getElem? (i := 366) (by decide +kernel), List.mem_of_getElem? (i := 367) (by decide +kernel)⟩
theorem lw_p9 : lw_okq (⟨"DanceStillOwed", "clears", "(II)Z"⟩, 8) := ⟨⟨by decide +kernel, by decide +kernel⟩, List.mem_of_getElem? (i := 11) (by decide +kernel), List.mem_of_getElem? (i := 370) (by decide +kernel), List.mem_of_getElem? (i := 371) (by decide +kernel)⟩
theorem lw_p10 : lw_okq (⟨"DanceStillOwed$Floor", "longest", "(IIII)I"⟩, 13) := ⟨⟨by decide +kernel, by decide +kernel⟩, List.mem_of_getElem? (i := 57) (by decide +kernel), List.mem_of_getElem? (i := 395) (by decide +kernel), List.mem_of_getElem? (i := 396) (by decide +kernel)⟩
theorem lw_p11 : lw_okq (⟨"DanceStillOwed", "kindsTold", "(LDanceStillOwed$Sheet;I)I"⟩, 8) := ⟨⟨by decide +kernel, by decide +kernel⟩, List.mem_of_getElem? (i := 11) (by decide +kernel), List.mem_of_getElem? (i := 427) (by decide +kernel), List.mem_of_getElem? (i := 428) (by decide +kernel)⟩
theorem lw_p12 : lw_okq (⟨"DanceStillOwed", "numbersTold", "(LDanceStillOwed$Sheet;I)I"⟩, 8) := ⟨⟨by decide +kernel, by decide +kernel⟩, List.mem_of_getElem? (i := 11) (by decide +kernel), List.mem_of_getElem? (i := 436) (by decide +kernel), List.mem_of_getElem? (i := 437) (by decide +kernel)⟩
theorem lw_p13 : lw_okq (⟨"DanceStillOwed", "roundsTold", "(LDanceStillOwed$Sheet;IZ)I"⟩, 8) := ⟨⟨by decide +kernel, by decide +kernel⟩, List.mem_of_getElem? (i := 11) (by decide +kernel), List.mem_of_getElem? (i := 440) (by decide +kernel), List.mem_of_getElem? (i := 441) (by decide +kernel)⟩
theorem lw_p14 : lw_okq (⟨"DanceStillOwed", "donesTold", "(LDanceStillOwed$Sheet;IZ)I"⟩, 8) := ⟨⟨by decide +kernel, by decide +kernel⟩, List.mem_of_getElem? (i := 11) (by decide +kernel), List.mem_of_getElem? (i := 444) (by decide +kernel), List.mem_of_getElem? (i := 445) (by decide +kernel)⟩
theorem lw_p15 : lw_okq (⟨"DanceStillOwed", "textsTold", "(LDanceStillOwed$Sheet;I)I"⟩, 8) := ⟨⟨by decide +kernel, by decide +kernel⟩, List.mem_of_getElem? (i := 11) (by decide +kernel), List.mem_of_getElem? (i := 448) (by decide +kernel), List.mem_of_getElem? (i := 449) (by decide +kernel)⟩
def lw_privs_1 : List (MethodName × Nat) := [(⟨"DanceStillOwed", "debtPlace", "(I)I"⟩, 8), (⟨"DanceStillOwed", "isTwo", "(II)Z"⟩, 8), (⟨"DanceStillOwed", "isDancer", "(I)Z"⟩, 8), (⟨"DanceStillOwed$Floor", "value", "(III)I"⟩, 13), (⟨"DanceStillOwed$Floor", "settle", "(IIII)V"⟩, 13), (⟨"DanceStillOwed", "readRing", "(I)I"⟩, 8), (⟨"DanceStillOwed", "think", "()LDanceStillOwed$Floor;"⟩, 8), (⟨"DanceStillOwed", "sitters", "()I"⟩, 8), (⟨"DanceStillOwed", "soonest", "()I"⟩, 8), (⟨"DanceStillOwed", "clears", "(II)Z"⟩, 8), (⟨"DanceStillOwed$Floor", "longest", "(IIII)I"⟩, 13), (⟨"DanceStillOwed", "kindsTold", "(LDanceStillOwed$Sheet;I)I"⟩, 8), (⟨"DanceStillOwed", "numbersTold", "(LDanceStillOwed$Sheet;I)I"⟩, 8), (⟨"DanceStillOwed", "roundsTold", "(LDanceStillOwed$Sheet;IZ)I"⟩, 8), (⟨"DanceStillOwed", "donesTold", "(LDanceStillOwed$Sheet;IZ)I"⟩, 8), (⟨"DanceStillOwed", "textsTold", "(LDanceStillOwed$Sheet;I)I"⟩, 8)]
theorem lw_r1 : ∀ q ∈ lw_privs_1, lw_okq q := List.forall_mem_cons.mpr ⟨lw_p0, List.forall_mem_cons.mpr ⟨lw_p1, List.forall_mem_cons.mpr ⟨lw_p2, List.forall_mem_cons.mpr ⟨lw_p3, List.forall_mem_cons.mpr ⟨lw_p4, List.forall_mem_cons.mpr ⟨lw_p5, List.forall_mem_cons.mpr ⟨lw_p6, List.forall_mem_cons.mpr ⟨lw_p7, List.forall_mem_cons.mpr ⟨lw_p8, List.forall_mem_cons.mpr ⟨lw_p9, List.forall_mem_cons.mpr ⟨lw_p10, List.forall_mem_cons.mpr ⟨lw_p11, List.forall_mem_cons.mpr ⟨lw_p12, List.forall_mem_cons.mpr ⟨lw_p13, List.forall_mem_cons.mpr ⟨lw_p14, List.forall_mem_cons.mpr ⟨lw_p15, fun _ h => absurd h List.not_mem_nil⟩⟩⟩⟩⟩⟩⟩⟩⟩⟩⟩⟩⟩⟩⟩⟩
theorem lw_p16 : lw_okq (⟨"DanceStillOwed", "dancersTold", "(LDanceStillOwed$Sheet;I)I"⟩, 8) := ⟨⟨by decide +kernel, by decide +kernel⟩, List.mem_of_getElem? (i := 11) (by decide +kernel), List.mem_of_getElem? (i := 452) (by decide +kernel), List.mem_of_getElem? (i := 453) (by decide +kernel)⟩
def lw_privs_2 : List (MethodName × Nat) := [(⟨"DanceStillOwed", "dancersTold", "(LDanceStillOwed$Sheet;I)I"⟩, 8)]
theorem lw_r2 : ∀ q ∈ lw_privs_2, lw_okq q := List.forall_mem_cons.mpr ⟨lw_p16, fun _ h => absurd h List.not_mem_nil⟩
def lw_privs : List (MethodName × Nat) := lw_privs_1 ++ (lw_privs_2)
def lw_tbl : List Cond := k2_sels lw_privs ++ tables_1
theorem lw_privs_ok : ∀ q ∈ lw_privs, lw_okq q := by
  show ∀ q ∈ lw_privs_1 ++ (lw_privs_2), lw_okq q
  exact List.forall_mem_append.mpr ⟨lw_r1, lw_r2⟩
-- ===== end of PART A; then your names; then what follows =====
theorem goodIn_r {big : List Cond} (ws : List Cond) (ps : List Nat) (hp : ws = ps.filterMap (fun i => big[i]?)) (h : ws.all goodWord = true) : GoodIn big ws := by
  intro w hw
  have h1 := List.all_eq_true.mp h w hw
  rw [hp] at hw
  obtain ⟨i, -, hi⟩ := List.mem_filterMap.mp hw
  have hm : w ∈ big := by first | exact List.mem_of_getElem? hi | exact List.getElem?_mem hi
  exact ⟨hm, good_of_word h1⟩
theorem goodIn_app {big a b : List Cond} (ha : GoodIn big a) (hb : GoodIn big b) : GoodIn big (a ++ b) := fun w h => (List.mem_append.mp h).elim (ha w) (hb w)
theorem goodIn_ca {big a b : List Cond} {c : Cond} (ha : GoodIn big (c :: a)) (hb : GoodIn big b) : GoodIn big (c :: (a ++ b)) := fun w h => (List.mem_cons.mp h).elim (fun e => ha w (List.mem_cons.mpr (Or.inl e))) (fun h => (List.mem_append.mp h).elim (fun h => ha w (List.mem_cons.mpr (Or.inr h))) (hb w))
theorem goodIn_sub {big ws : List Cond} (hm : ∀ w ∈ ws, w ∈ big) (h : ws.all goodWord = true) : GoodIn big ws := fun w hw => ⟨hm w hw, good_of_word (List.all_eq_true.mp h w hw)⟩
def RX0 : String := "DanceStillOwed$Floor"
def TX0 : u_T := fun k => match k with
  | 0 => ("DanceStillOwed$Floor", "rules", "LDanceStillOwed$Rules;", true)
  | 1 => ("DanceStillOwed$Floor", "dancers", "I", false)
  | 2 => ("DanceStillOwed$Floor", "round", "I", false)
  | 3 => ("DanceStillOwed$Floor", "night", "I", false)
  | 4 => ("DanceStillOwed$Floor", "rule", "I", false)
  | 5 => ("DanceStillOwed$Floor", "kind", "[I", true)
  | 6 => ("DanceStillOwed$Floor", "number", "[I", true)
  | 7 => ("DanceStillOwed$Floor", "done", "[I", true)
  | 8 => ("DanceStillOwed$Floor", "debt", "[I", true)
  | 9 => ("DanceStillOwed$Floor", "danced", "I", false)
  | 10 => ("DanceStillOwed$Floor", "mayDance", "I", false)
  | 11 => ("DanceStillOwed$Floor", "paidByLesser", "[I", true)
  | _ => ("DanceStillOwed$Floor", "paidByGreater", "[I", true)
def tyX0 : Nat → FieldType := fun k => match k with
  | 0 => .object "DanceStillOwed$Rules"
  | 1 => .int
  | 2 => .int
  | 3 => .int
  | 4 => .int
  | 5 => .array .int
  | 6 => .array .int
  | 7 => .array .int
  | 8 => .array .int
  | 9 => .int
  | 10 => .int
  | 11 => .array .int
  | _ => .array .int
abbrev wsX00 : List Cond := u_ws RX0 TX0 13
theorem nmX0 : ∀ a, a < 13 → ∀ b, b < 13 → a ≠ b → (TX0 a).2.1 ≠ (TX0 b).2.1 := by decide +kernel
theorem tyX0_ok : ∀ k, k < 13 → parseFieldDescriptor (TX0 k).2.2.1 = some (tyX0 k) := by decide +kernel
abbrev cX0_init : ByteArray := prog_2_method_1_code
def yX0_init : MethodName := ⟨RX0, "<init>", "(LDanceStillOwed$Rules;)V"⟩
abbrev cX0_takeFrom : ByteArray := prog_2_method_2_code
def yX0_takeFrom : MethodName := ⟨RX0, "takeFrom", "(LDanceStillOwed$Floor;)V"⟩
abbrev cX0_join : ByteArray := prog_2_method_3_code
def yX0_join : MethodName := ⟨RX0, "join", "(II)I"⟩
abbrev cX0_owing : ByteArray := prog_2_method_4_code
def yX0_owing : MethodName := ⟨RX0, "owing", "(II)I"⟩
abbrev cX0_owes : ByteArray := prog_2_method_5_code
def yX0_owes : MethodName := ⟨RX0, "owes", "(I)I"⟩
abbrev cX0_owedTo : ByteArray := prog_2_method_6_code
def yX0_owedTo : MethodName := ⟨RX0, "owedTo", "(I)I"⟩
abbrev cX0_all : ByteArray := prog_2_method_7_code
def yX0_all : MethodName := ⟨RX0, "all", "()I"⟩
abbrev cX0_value : ByteArray := prog_2_method_8_code
def yX0_value : MethodName := ⟨RX0, "value", "(III)I"⟩
abbrev cX0_pays : ByteArray := prog_2_method_9_code
def yX0_pays : MethodName := ⟨RX0, "pays", "(II)I"⟩
abbrev cX0_will : ByteArray := prog_2_method_10_code
def yX0_will : MethodName := ⟨RX0, "will", "(II)Z"⟩
abbrev cX0_breath : ByteArray := prog_2_method_11_code
def yX0_breath : MethodName := ⟨RX0, "breath", "(I)I"⟩
abbrev cX0_may : ByteArray := prog_2_method_12_code
def yX0_may : MethodName := ⟨RX0, "may", "(II)Z"⟩
abbrev cX0_step : ByteArray := prog_2_method_13_code
def yX0_step : MethodName := ⟨RX0, "step", "(II)I"⟩
abbrev cX0_lessen : ByteArray := prog_2_method_14_code
def yX0_lessen : MethodName := ⟨RX0, "lessen", "(III)V"⟩
abbrev cX0_settle : ByteArray := prog_2_method_15_code
def yX0_settle : MethodName := ⟨RX0, "settle", "(IIII)V"⟩
abbrev cX0_danceRound : ByteArray := prog_2_method_16_code
def yX0_danceRound : MethodName := ⟨RX0, "danceRound", "()I"⟩
abbrev cX0_endNight : ByteArray := prog_2_method_17_code
def yX0_endNight : MethodName := ⟨RX0, "endNight", "()I"⟩
abbrev cX0_ends : ByteArray := prog_2_method_18_code
def yX0_ends : MethodName := ⟨RX0, "ends", "()I"⟩
abbrev cX0_stillOwed : ByteArray := prog_2_method_20_code
def yX0_stillOwed : MethodName := ⟨RX0, "stillOwed", "()I"⟩
abbrev cX0_keeps : ByteArray := prog_2_method_21_code
def yX0_keeps : MethodName := ⟨RX0, "keeps", "()I"⟩
abbrev cX0_least : ByteArray := prog_2_method_22_code
def yX0_least : MethodName := ⟨RX0, "least", "()I"⟩
abbrev cX0_ring : ByteArray := prog_2_method_23_code
def yX0_ring : MethodName := ⟨RX0, "ring", "()I"⟩
abbrev cX0_longest : ByteArray := prog_2_method_24_code
def yX0_longest : MethodName := ⟨RX0, "longest", "(IIII)I"⟩
abbrev cX0_mostToMeet : ByteArray := prog_2_method_25_code
def yX0_mostToMeet : MethodName := ⟨RX0, "mostToMeet", "()I"⟩
abbrev cX0_weigh : ByteArray := prog_2_method_26_code
def yX0_weigh : MethodName := ⟨RX0, "weigh", "()V"⟩
abbrev cX0_mayAll : ByteArray := prog_2_method_27_code
def yX0_mayAll : MethodName := ⟨RX0, "mayAll", "(I)Z"⟩
abbrev cX0_paidBy : ByteArray := prog_2_method_28_code
def yX0_paidBy : MethodName := ⟨RX0, "paidBy", "(I)I"⟩
abbrev cX0_bestSet : ByteArray := prog_2_method_29_code
def yX0_bestSet : MethodName := ⟨RX0, "bestSet", "()I"⟩
abbrev cX0_danceSet : ByteArray := prog_2_method_30_code
def yX0_danceSet : MethodName := ⟨RX0, "danceSet", "(ILDanceStillOwed$Floor;)V"⟩
abbrev cX0_firstOtherwise : ByteArray := prog_2_method_31_code
def yX0_firstOtherwise : MethodName := ⟨RX0, "firstOtherwise", "(LDanceStillOwed$Sheet;I)I"⟩
abbrev cX0_paysAs : ByteArray := prog_2_method_32_code
def yX0_paysAs : MethodName := ⟨RX0, "paysAs", "(LDanceStillOwed$Sheet;I)Z"⟩
def RX1 : String := "DanceStillOwed$Reader"
def TX1 : u_T := fun k => match k with
  | 0 => ("DanceStillOwed$Reader", "tape", "[I", true)
  | 1 => ("DanceStillOwed$Reader", "size", "I", false)
  | 2 => ("DanceStillOwed$Reader", "code", "[I", true)
  | 3 => ("DanceStillOwed$Reader", "used", "I", false)
  | 4 => ("DanceStillOwed$Reader", "ends", "[I", true)
  | 5 => ("DanceStillOwed$Reader", "at", "I", false)
  | 6 => ("DanceStillOwed$Reader", "token", "I", false)
  | 7 => ("DanceStillOwed$Reader", "number", "I", false)
  | 8 => ("DanceStillOwed$Reader", "begin", "I", false)
  | _ => ("DanceStillOwed$Reader", "open", "I", false)
def tyX1 : Nat → FieldType := fun k => match k with
  | 0 => .array .int
  | 1 => .int
  | 2 => .array .int
  | 3 => .int
  | 4 => .array .int
  | 5 => .int
  | 6 => .int
  | 7 => .int
  | 8 => .int
  | _ => .int
abbrev wsX10 : List Cond := u_ws RX1 TX1 10
theorem nmX1 : ∀ a, a < 10 → ∀ b, b < 10 → a ≠ b → (TX1 a).2.1 ≠ (TX1 b).2.1 := by decide +kernel
theorem tyX1_ok : ∀ k, k < 10 → parseFieldDescriptor (TX1 k).2.2.1 = some (tyX1 k) := by decide +kernel
abbrev cX1_init : ByteArray := prog_3_method_1_code
def yX1_init : MethodName := ⟨RX1, "<init>", "()V"⟩
def RX2 : String := "DanceStillOwed$Rules"
def TX2 : u_T := fun k => match k with
  | 0 => ("DanceStillOwed$Rules", "texts", "[LDanceStillOwed$Text;", true)
  | 1 => ("DanceStillOwed$Rules", "count", "I", false)
  | 2 => ("DanceStillOwed$Rules", "names", "[I", true)
  | _ => ("DanceStillOwed$Rules", "stack", "[I", true)
def tyX2 : Nat → FieldType := fun k => match k with
  | 0 => .array (.object "DanceStillOwed$Text")
  | 1 => .int
  | 2 => .array .int
  | _ => .array .int
abbrev wsX20 : List Cond := u_ws RX2 TX2 4
theorem nmX2 : ∀ a, a < 4 → ∀ b, b < 4 → a ≠ b → (TX2 a).2.1 ≠ (TX2 b).2.1 := by decide +kernel
theorem tyX2_ok : ∀ k, k < 4 → parseFieldDescriptor (TX2 k).2.2.1 = some (tyX2 k) := by decide +kernel
abbrev cX2_init : ByteArray := prog_4_method_1_code
def yX2_init : MethodName := ⟨RX2, "<init>", "()V"⟩
abbrev cX2_value : ByteArray := prog_4_method_3_code
def yX2_value : MethodName := ⟨RX2, "value", "(II)I"⟩
def RX3 : String := "DanceStillOwed$Sheet"
def TX3 : u_T := fun k => match k with
  | 0 => ("DanceStillOwed$Sheet", "sort", "I", false)
  | 1 => ("DanceStillOwed$Sheet", "size", "I", false)
  | _ => ("DanceStillOwed$Sheet", "row", "[I", true)
def tyX3 : Nat → FieldType := fun k => match k with
  | 0 => .int
  | 1 => .int
  | _ => .array .int
abbrev wsX30 : List Cond := u_ws RX3 TX3 3
theorem nmX3 : ∀ a, a < 3 → ∀ b, b < 3 → a ≠ b → (TX3 a).2.1 ≠ (TX3 b).2.1 := by decide +kernel
theorem tyX3_ok : ∀ k, k < 3 → parseFieldDescriptor (TX3 k).2.2.1 = some (tyX3 k) := by decide +kernel
abbrev cX3_init : ByteArray := prog_5_method_1_code
def yX3_init : MethodName := ⟨RX3, "<init>", "()V"⟩
abbrev cX3_become : ByteArray := prog_5_method_2_code
def yX3_become : MethodName := ⟨RX3, "become", "(II)V"⟩
abbrev cX3_put : ByteArray := prog_5_method_4_code
def yX3_put : MethodName := ⟨RX3, "put", "(II)V"⟩
def RX4 : String := "DanceStillOwed$Text"
def TX4 : u_T := fun k => match k with
  | 0 => ("DanceStillOwed$Text", "code", "[I", true)
  | _ => ("DanceStillOwed$Text", "ends", "[I", true)
def tyX4 : Nat → FieldType := fun k => match k with
  | 0 => .array .int
  | _ => .array .int
abbrev wsX40 : List Cond := u_ws RX4 TX4 2
theorem nmX4 : ∀ a, a < 2 → ∀ b, b < 2 → a ≠ b → (TX4 a).2.1 ≠ (TX4 b).2.1 := by decide +kernel
theorem tyX4_ok : ∀ k, k < 2 → parseFieldDescriptor (TX4 k).2.2.1 = some (tyX4 k) := by decide +kernel
abbrev cX4_init : ByteArray := prog_6_method_1_code
def yX4_init : MethodName := ⟨RX4, "<init>", "([I[I)V"⟩
def RX5 : String := "DanceStillOwed"
def TX5 : u_T := fun k => match k with
  | 0 => ("DanceStillOwed", "rules", "LDanceStillOwed$Rules;", true)
  | 1 => ("DanceStillOwed", "now", "LDanceStillOwed$Floor;", true)
  | 2 => ("DanceStillOwed", "kept", "LDanceStillOwed$Floor;", true)
  | 3 => ("DanceStillOwed", "thoughts", "[LDanceStillOwed$Floor;", true)
  | 4 => ("DanceStillOwed", "reader", "LDanceStillOwed$Reader;", true)
  | 5 => ("DanceStillOwed", "sheets", "[LDanceStillOwed$Sheet;", true)
  | 6 => ("DanceStillOwed", "imageKept", "Z", false)
  | _ => ("DanceStillOwed", "ring", "[I", true)
def tyX5 : Nat → FieldType := fun k => match k with
  | 0 => .object "DanceStillOwed$Rules"
  | 1 => .object "DanceStillOwed$Floor"
  | 2 => .object "DanceStillOwed$Floor"
  | 3 => .array (.object "DanceStillOwed$Floor")
  | 4 => .object "DanceStillOwed$Reader"
  | 5 => .array (.object "DanceStillOwed$Sheet")
  | 6 => .boolean
  | _ => .array .int
abbrev wsX50 : List Cond := u_ws RX5 TX5 8
theorem nmX5 : ∀ a, a < 8 → ∀ b, b < 8 → a ≠ b → (TX5 a).2.1 ≠ (TX5 b).2.1 := by decide +kernel
theorem tyX5_ok : ∀ k, k < 8 → parseFieldDescriptor (TX5 k).2.2.1 = some (tyX5 k) := by decide +kernel
abbrev cX5_init : ByteArray := prog_1_method_1_code
def yX5_init : MethodName := ⟨RX5, "<init>", "()V"⟩
abbrev cX5_set : ByteArray := prog_1_method_2_code
def yX5_set : MethodName := ⟨RX5, "set", "(III)I"⟩
abbrev cX5_dancer : ByteArray := prog_1_method_3_code
def yX5_dancer : MethodName := ⟨RX5, "dancer", "(II)I"⟩
abbrev cX5_told : ByteArray := prog_1_method_4_code
def yX5_told : MethodName := ⟨RX5, "told", "(II)I"⟩
abbrev cX5_asks : ByteArray := prog_1_method_5_code
def yX5_asks : MethodName := ⟨RX5, "asks", "(III)I"⟩
abbrev cX5_isDancer : ByteArray := prog_1_method_6_code
def yX5_isDancer : MethodName := ⟨RX5, "isDancer", "(I)Z"⟩
abbrev cX5_isTwo : ByteArray := prog_1_method_7_code
def yX5_isTwo : MethodName := ⟨RX5, "isTwo", "(II)Z"⟩
abbrev cX5_debtPlace : ByteArray := prog_1_method_8_code
def yX5_debtPlace : MethodName := ⟨RX5, "debtPlace", "(I)I"⟩
abbrev cX5_round : ByteArray := prog_1_method_13_code
def yX5_round : MethodName := ⟨RX5, "round", "()I"⟩
abbrev cX5_night : ByteArray := prog_1_method_14_code
def yX5_night : MethodName := ⟨RX5, "night", "()I"⟩
abbrev cX5_strike : ByteArray := prog_1_method_15_code
def yX5_strike : MethodName := ⟨RX5, "strike", "(I)I"⟩
abbrev cX5_readRing : ByteArray := prog_1_method_16_code
def yX5_readRing : MethodName := ⟨RX5, "readRing", "(I)I"⟩
abbrev cX5_run : ByteArray := prog_1_method_17_code
def yX5_run : MethodName := ⟨RX5, "run", "(IIII)I"⟩
abbrev cX5_think : ByteArray := prog_1_method_18_code
def yX5_think : MethodName := ⟨RX5, "think", "()LDanceStillOwed$Floor;"⟩
abbrev cX5_best : ByteArray := prog_1_method_19_code
def yX5_best : MethodName := ⟨RX5, "best", "(I)I"⟩
abbrev cX5_share : ByteArray := prog_1_method_20_code
def yX5_share : MethodName := ⟨RX5, "share", "(II)J"⟩
abbrev cX5_sitters : ByteArray := prog_1_method_21_code
def yX5_sitters : MethodName := ⟨RX5, "sitters", "()I"⟩
abbrev cX5_soonest : ByteArray := prog_1_method_22_code
def yX5_soonest : MethodName := ⟨RX5, "soonest", "()I"⟩
abbrev cX5_clears : ByteArray := prog_1_method_23_code
def yX5_clears : MethodName := ⟨RX5, "clears", "(II)Z"⟩
abbrev cX5_lowest : ByteArray := prog_1_method_24_code
def yX5_lowest : MethodName := ⟨RX5, "lowest", "(III)J"⟩
abbrev cX5_tells : ByteArray := prog_1_method_25_code
def yX5_tells : MethodName := ⟨RX5, "tells", "(IIII)I"⟩
abbrev cX5_kindsTold : ByteArray := prog_1_method_26_code
def yX5_kindsTold : MethodName := ⟨RX5, "kindsTold", "(LDanceStillOwed$Sheet;I)I"⟩
abbrev cX5_numbersTold : ByteArray := prog_1_method_27_code
def yX5_numbersTold : MethodName := ⟨RX5, "numbersTold", "(LDanceStillOwed$Sheet;I)I"⟩
abbrev cX5_roundsTold : ByteArray := prog_1_method_28_code
def yX5_roundsTold : MethodName := ⟨RX5, "roundsTold", "(LDanceStillOwed$Sheet;IZ)I"⟩
abbrev cX5_donesTold : ByteArray := prog_1_method_29_code
def yX5_donesTold : MethodName := ⟨RX5, "donesTold", "(LDanceStillOwed$Sheet;IZ)I"⟩
abbrev cX5_textsTold : ByteArray := prog_1_method_30_code
def yX5_textsTold : MethodName := ⟨RX5, "textsTold", "(LDanceStillOwed$Sheet;I)I"⟩
abbrev cX5_dancersTold : ByteArray := prog_1_method_31_code
def yX5_dancersTold : MethodName := ⟨RX5, "dancersTold", "(LDanceStillOwed$Sheet;I)I"⟩
abbrev cX5_film : ByteArray := prog_1_method_32_code
def yX5_film : MethodName := ⟨RX5, "film", "(IIII)I"⟩
abbrev cX5_image : ByteArray := prog_1_method_35_code
def yX5_image : MethodName := ⟨RX5, "image", "()I"⟩
abbrev cX5_back : ByteArray := prog_1_method_36_code
def yX5_back : MethodName := ⟨RX5, "back", "()I"⟩
abbrev cX5_count : ByteArray := prog_1_method_37_code
def yX5_count : MethodName := ⟨RX5, "count", "(I)I"⟩
abbrev cX5_isSheet : ByteArray := prog_1_method_43_code
def yX5_isSheet : MethodName := ⟨RX5, "isSheet", "(I)Z"⟩
abbrev cX5_within : ByteArray := prog_1_method_45_code
def yX5_within : MethodName := ⟨RX5, "within", "(II)I"⟩
def RX6 : String := "DanceStillOwedModel"
def TX6 : u_T := fun k => match k with
  | _ => ("", "", "", false)
def tyX6 : Nat → FieldType := fun k => match k with
  | _ => .int
abbrev wsX60 : List Cond := u_ws RX6 TX6 0
theorem nmX6 : ∀ a, a < 0 → ∀ b, b < 0 → a ≠ b → (TX6 a).2.1 ≠ (TX6 b).2.1 := by decide +kernel
theorem tyX6_ok : ∀ k, k < 0 → parseFieldDescriptor (TX6 k).2.2.1 = some (tyX6 k) := by decide +kernel
def RJ6 : String := "java/lang/Integer"
def TJ6 : u_T := fun k => match k with
  | _ => ("", "", "", false)
def tyJ6 : Nat → FieldType := fun k => match k with
  | _ => .int
theorem nmJ6 : ∀ a, a < 0 → ∀ b, b < 0 → a ≠ b → (TJ6 a).2.1 ≠ (TJ6 b).2.1 := by decide +kernel
theorem tyJ6_ok : ∀ k, k < 0 → parseFieldDescriptor (TJ6 k).2.2.1 = some (tyJ6 k) := by decide +kernel
abbrev cJ6_bitCount_0f7a4 : ByteArray := prog_9_method_49_code
def yJ6_bitCount_0f7a4 : MethodName := ⟨RJ6, "bitCount", "(I)I"⟩
def RJ9 : String := "java/lang/Math"
def TJ9 : u_T := fun k => match k with
  | _ => ("", "", "", false)
def tyJ9 : Nat → FieldType := fun k => match k with
  | _ => .int
theorem nmJ9 : ∀ a, a < 0 → ∀ b, b < 0 → a ≠ b → (TJ9 a).2.1 ≠ (TJ9 b).2.1 := by decide +kernel
theorem tyJ9_ok : ∀ k, k < 0 → parseFieldDescriptor (TJ9 k).2.2.1 = some (tyJ9 k) := by decide +kernel
abbrev cJ9_max_7cf53 : ByteArray := prog_10_method_65_code
def yJ9_max_7cf53 : MethodName := ⟨RJ9, "max", "(II)I"⟩
abbrev cJ9_min_7cf53 : ByteArray := prog_10_method_69_code
def yJ9_min_7cf53 : MethodName := ⟨RJ9, "min", "(II)I"⟩
def RJ10 : String := "java/lang/System"
def TJ10 : u_T := fun k => match k with
  | _ => ("", "", "", false)
def tyJ10 : Nat → FieldType := fun k => match k with
  | _ => .int
theorem nmJ10 : ∀ a, a < 0 → ∀ b, b < 0 → a ≠ b → (TJ10 a).2.1 ≠ (TJ10 b).2.1 := by decide +kernel
theorem tyJ10_ok : ∀ k, k < 0 → parseFieldDescriptor (TJ10 k).2.2.1 = some (tyJ10 k) := by decide +kernel
def RL : String := "DanceStillOwedLaw"
abbrev cL_cell : ByteArray := method_2_code
def yL_cell : MethodName := ⟨RL, "cell", "([II)I"⟩
abbrev cL_some : ByteArray := method_3_code
def yL_some : MethodName := ⟨RL, "some", "([III)I"⟩
abbrev cL_law : ByteArray := code
def yL_law : MethodName := ⟨RL, "law", "([I)Z"⟩
abbrev vwCl : List vw_C := [(RX0, TX0, 13), (RX1, TX1, 10), (RX2, TX2, 4), (RX3, TX3, 3), (RX4, TX4, 2), (RX5, TX5, 8)]
end
section
/-! THE MACHINE AM: the bytecode over a state whose cells have fixed names (part, group): 'F' says what one instruction asks of the next place 'P'; 'WP' is the least such 'P'; 'Call' is a method's run at a depth. -/
abbrev AV : Type := Int32 ⊕ (Int64 ⊕ Option (Nat × Nat))
abbrev aI (x : Int32) : AV := Sum.inl x
abbrev aL (x : Int64) : AV := Sum.inr (Sum.inl x)
abbrev aN : AV := Sum.inr (Sum.inr none)
abbrev aR (j g : Nat) : AV := Sum.inr (Sum.inr (some (j, g)))
/-- the ints (part, group, slot), the one long, which references are set, lengths that vary, how many cells there are -/
abbrev St : Type := (Nat → Nat → Nat → Int32) × Int64 × (Nat → Nat → Nat → Bool) × (Nat → Nat) × Nat
def up3 {α : Type} (f : Nat → Nat → Nat → α) (j g k : Nat) (v : α) : Nat → Nat → Nat → α := fun a b c => if a = j ∧ b = g ∧ c = k then v else f a b c
def zr3 {α : Type} (f : Nat → Nat → Nat → α) (j g : Nat) (v : α) : Nat → Nat → Nat → α := fun a b c => if a = j ∧ b = g then v else f a b c
def upN {α : Type} (f : Nat → α) (k : Nat) (v : α) : Nat → α := fun a => if a = k then v else f a
/-- an instruction, the next place, where it jumps to, its number, its switch -/
abbrev Ent : Type := Instr × Nat × Nat × Int32 × List (Int32 × Nat)
/-- a method: its code in pieces of 16 places, its class's number, cells and slots that it may make, what it answers (0 nothing, 1 int, 2 long, 3 a reference, 4 boolean); its name, bytes, locals, type -/
abbrev MT : Type := (List (List (Option Ent)) × Nat × Nat × Nat × Nat) × (MethodName × ByteArray × Nat × Option FieldType)
def nth {α : Type} : List α → Nat → Option α
  | [], _ => none
  | a :: _, 0 => some a
  | _ :: l, n + 1 => nth l n
def lkp {α : Type} : List (Nat × α) → Nat → Option α
  | [], _ => none
  | a :: l, i => cond (Nat.beq a.1 i) (some a.2) (lkp l i)
def codeAt (Y : MT) (pc : Nat) : Option Ent := match nth Y.1.1 (pc / 16) with
  | none => none
  | some l => match nth l (pc % 16) with
    | none => none
    | some e => e
def isL : Option AV → Bool
  | some (Sum.inr (Sum.inl _)) => true
  | _ => false
/-- a store into the locals -/
def putL : List (Option AV) → Nat → AV → List (Option AV)
  | [], _, _ => []
  | _ :: l, 0, v => match v with
    | Sum.inr (Sum.inl _) => some v :: (match l with
      | [] => []
      | _ :: t => none :: t)
    | _ => some v :: l
  | a :: l, 1, v => (match a with
    | some (Sum.inr (Sum.inl _)) => none
    | _ => a) :: putL l 0 v
  | a :: l, n + 2, v => a :: putL l (n + 1) v
def mkL : Nat → List AV → List (Option AV)
  | 0, _ => []
  | n + 1, [] => none :: mkL n []
  | n + 1, v :: r => match v with
    | Sum.inr (Sum.inl _) => some v :: (match n with
      | 0 => []
      | k + 1 => none :: mkL k r)
    | _ => some v :: mkL n r
def popI (st : List AV) (k : Int32 → List AV → Prop) : Prop := match st with
  | Sum.inl x :: r => k x r
  | _ => False
def popJ (st : List AV) (k : Int64 → List AV → Prop) : Prop := match st with
  | Sum.inr (Sum.inl x) :: r => k x r
  | _ => False
def popR (st : List AV) (k : Nat → Nat → List AV → Prop) : Prop := match st with
  | Sum.inr (Sum.inr (some q)) :: r => k q.1 q.2 r
  | _ => False
def popS (st : List AV) (k : AV → List AV → Prop) : Prop := match st with
  | Sum.inl x :: r => k (Sum.inl x) r
  | Sum.inr (Sum.inr q) :: r => k (Sum.inr (Sum.inr q)) r
  | _ => False
def getI (L : List (Option AV)) (i : Nat) (k : Int32 → Prop) : Prop := match nth L i with
  | some (some (Sum.inl x)) => k x
  | _ => False
def getJ (L : List (Option AV)) (i : Nat) (k : Int64 → Prop) : Prop := match nth L i with
  | some (some (Sum.inr (Sum.inl x))) => k x
  | _ => False
def getA (L : List (Option AV)) (i : Nat) (k : Option (Nat × Nat) → Prop) : Prop := match nth L i with
  | some (some (Sum.inr (Sum.inr x))) => k x
  | _ => False
/-- so many from the top, the lowest first; and the rest -/
def popN : Nat → List AV → List AV → Option (List AV × List AV)
  | 0, st, acc => some (acc, st)
  | n + 1, v :: st, acc => popN n st (v :: acc)
  | _ + 1, [], _ => none
def catS : List AV → Nat
  | [] => 0
  | v :: r => (match v with
    | Sum.inr (Sum.inl _) => 2
    | _ => 1) + catS r
abbrev PT : Type := Nat → List (Option AV) → List AV → St → Nat → Nat → Prop
abbrev KT : Type := Option AV → St → Prop
abbrev CT : Type := MT → List AV → St → KT → Prop
def swP (x : Int32) (P : Nat → Prop) : List (Int32 × Nat) → Nat → Prop
  | [], d => P d
  | a :: l, d => (x = a.1 → P a.2) ∧ (¬ x = a.1 → swP x P l d)
-- the names of the cells
def clsP (j : Nat) : Nat := match j with
  | 0 => 5
  | 1 => 2
  | 7 => 1
  | 10 => 0
  | 20 => 3
  | 30 => 4
  | _ => 9
/-- whom a reference field holds, once it is set -/
def frf (j g k : Nat) : Nat × Nat := match j with
  | 0 => (match k with
    | 0 => (1, 0)
    | 1 => (10, 0)
    | 2 => (10, 1)
    | 3 => (6, 0)
    | 4 => (7, 0)
    | 5 => (18, 0)
    | _ => (19, 0))
  | 1 => (match k with
    | 0 => (3, 0)
    | 2 => (4, 0)
    | _ => (5, 0))
  | 7 => (match k with
    | 0 => (8, 0)
    | 2 => (9, 0)
    | _ => (17, 0))
  | 10 => (match k with
    | 0 => (1, 0)
    | 5 => (11, g)
    | 6 => (12, g)
    | 7 => (13, g)
    | 8 => (14, g)
    | 11 => (15, g)
    | _ => (16, g))
  | 20 => (21, g)
  | 30 => (match k with
    | 0 => (31, g)
    | _ => (32, g))
  | 40 => (match k with
    | 1 => (41, 0)
    | 2 => (42, 0)
    | 5 => (43, 0)
    | 9 => (44, 0)
    | 10 => (45, 0)
    | 11 => (46, 0)
    | 13 => (47, 0)
    | 30 => (48, 0)
    | 31 => (49, 0)
    | 32 => (50, 0)
    | 33 => (51, 0)
    | 34 => (52, 0)
    | 35 => (53, 0)
    | 36 => (54, 0)
    | 41 => (55, 0)
    | 42 => (56, 0)
    | 43 => (57, 0)
    | _ => (58, 0))
  | _ => (99, 0)
/-- an array of references: which class's (1 Floor, 2 Sheet, 3 Text), and whom its place k holds once it is set -/
def rfk (j : Nat) : Nat := match j with
  | 6 => 1
  | 18 => 2
  | 3 => 3
  | _ => 0
def erf (j k : Nat) : Nat × Nat := match j with
  | 6 => (10, k + 2)
  | 18 => (20, k)
  | 3 => (30, k)
  | _ => (99, 0)
/-- 1: an array of ints; 2: of booleans; 3: a static array of ints, only read -/
def iak (j : Nat) : Nat := match j with
  | 4 => 1 | 5 => 1 | 8 => 1 | 9 => 1 | 11 => 1 | 12 => 1 | 13 => 1 | 14 => 1 | 15 => 1 | 16 => 1 | 17 => 1 | 19 => 1 | 21 => 1 | 31 => 1 | 32 => 1
  | 60 => 3 | 61 => 3 | 62 => 3 | 63 => 3 | 64 => 3 | 65 => 3
  | _ => 0
/-- the lengths -/
def aln (tl : Nat → Nat) (j g : Nat) : Nat := match j with
  | 3 => 6 | 4 => 6 | 5 => 160 | 6 => 3 | 8 => 160 | 9 => 160
  | 11 => 5 | 12 => 5 | 13 => 5 | 14 => 25 | 15 => 10 | 16 => 10 | 17 => 3
  | 18 => 4 | 19 => 5 | 21 => 40 | 31 => tl g | 32 => 3
  | 41 => 960 | 42 => 6 | 43 => 160 | 44 => 5 | 45 => 10 | 46 => 25 | 47 => 26 | 48 => 5 | 49 => 37 | 50 => 100 | 51 => 40 | 52 => 25 | 53 => 25 | 54 => 10 | 55 => 4 | 56 => 4 | 57 => 4 | 58 => 160
  | 60 => tl 1000 | 61 => 10 | 62 => 10 | 63 => 26 | 64 => 5 | 65 => 6
  | _ => 0
/-- the cells in the order in which they are made -/
def idsT : List (Nat × Nat) := [(0, 0), (1, 0), (3, 0), (4, 0), (5, 0), (31, 0), (32, 0), (30, 0),
  (10, 0), (11, 0), (12, 0), (13, 0), (14, 0), (15, 0), (16, 0), (10, 1), (11, 1), (12, 1), (13, 1), (14, 1), (15, 1), (16, 1), (6, 0),
  (10, 2), (11, 2), (12, 2), (13, 2), (14, 2), (15, 2), (16, 2), (10, 3), (11, 3), (12, 3), (13, 3), (14, 3), (15, 3), (16, 3), (10, 4), (11, 4), (12, 4), (13, 4), (14, 4), (15, 4), (16, 4),
  (7, 0), (8, 0), (9, 0), (17, 0), (18, 0), (20, 0), (21, 0), (20, 1), (21, 1), (20, 2), (21, 2), (20, 3), (21, 3), (19, 0), (40, 0),
  (41, 0), (42, 0), (43, 0), (44, 0), (45, 0), (46, 0), (47, 0), (48, 0), (49, 0), (50, 0), (51, 0), (52, 0), (53, 0), (54, 0), (55, 0), (56, 0), (57, 0), (58, 0)]
def idOf (n : Nat) : Nat × Nat := match nth idsT n with
  | some q => q
  | none => (if (n - 77) % 3 = 0 then 31 else if (n - 77) % 3 = 1 then 30 else 32, (n - 77) / 3 + 1)
def numP (j g : Nat) : Nat := match j with
  | 0 => 0 | 1 => 1 | 3 => 2 | 4 => 3 | 5 => 4
  | 31 => if g = 0 then 5 else 77 + 3 * (g - 1)
  | 32 => if g = 0 then 6 else 77 + 3 * (g - 1) + 2
  | 30 => if g = 0 then 7 else 77 + 3 * (g - 1) + 1
  | 10 => if g < 2 then 8 + 7 * g else 9 + 7 * g
  | 11 => if g < 2 then 9 + 7 * g else 10 + 7 * g
  | 12 => if g < 2 then 10 + 7 * g else 11 + 7 * g
  | 13 => if g < 2 then 11 + 7 * g else 12 + 7 * g
  | 14 => if g < 2 then 12 + 7 * g else 13 + 7 * g
  | 15 => if g < 2 then 13 + 7 * g else 14 + 7 * g
  | 16 => if g < 2 then 14 + 7 * g else 15 + 7 * g
  | 6 => 22 | 7 => 44 | 8 => 45 | 9 => 46 | 17 => 47 | 18 => 48
  | 20 => 49 + 2 * g
  | 21 => 50 + 2 * g
  | 19 => 57
  | n => n + 18
end
section
/-! printed by gencode.py: the code, the links, the fields for the machine AM -/
def m_none : MT := (([], 9, 0, 0, 0), (yL_law, cL_law, 0, none))
def cd_X0_init : List (List (Option Ent)) := [[some (.aload_n 0, 1, 0, 0, []), some (.invokespecial 3, 4, 0, 0, []), none, none, some (.aload_n 0, 5, 0, 0, []), some (.iconst 5, 6, 0, 5, []), some (.newarray .int, 8, 0, 0, []), none, some (.putfield 9, 11, 0, 0, []), none, none, some (.aload_n 0, 12, 0, 0, []), some (.iconst 5, 13, 0, 5, []), some (.newarray .int, 15, 0, 0, []), none, some (.putfield 15, 18, 0, 0, [])],
  [none, none, some (.aload_n 0, 19, 0, 0, []), some (.iconst 5, 20, 0, 5, []), some (.newarray .int, 22, 0, 0, []), none, some (.putfield 18, 25, 0, 0, []), none, none, some (.aload_n 0, 26, 0, 0, []), some (.bipush 25, 28, 0, 25, []), none, some (.newarray .int, 30, 0, 0, []), none, some (.putfield 21, 33, 0, 0, []), none],
  [none, some (.aload_n 0, 34, 0, 0, []), some (.getstatic 24, 37, 0, 0, []), none, none, some (.arraylength, 38, 0, 0, []), some (.newarray .int, 40, 0, 0, []), none, some (.putfield 27, 43, 0, 0, []), none, none, some (.aload_n 0, 44, 0, 0, []), some (.getstatic 24, 47, 0, 0, []), none, none, some (.arraylength, 48, 0, 0, [])],
  [some (.newarray .int, 50, 0, 0, []), none, some (.putfield 30, 53, 0, 0, []), none, none, some (.aload_n 0, 54, 0, 0, []), some (.aload_n 1, 55, 0, 0, []), some (.putfield 33, 58, 0, 0, []), none, none, some (.return_, 59, 0, 0, [])]]
def m_X0_init : MT := ((cd_X0_init, 0, 6, 60, 0), (yX0_init, cX0_init, 2, none))
def cd_X0_takeFrom : List (List (Option Ent)) := [[some (.aload_n 0, 1, 0, 0, []), some (.aload_n 1, 2, 0, 0, []), some (.getfield 37, 5, 0, 0, []), none, none, some (.putfield 37, 8, 0, 0, []), none, none, some (.aload_n 0, 9, 0, 0, []), some (.aload_n 1, 10, 0, 0, []), some (.getfield 41, 13, 0, 0, []), none, none, some (.putfield 41, 16, 0, 0, []), none, none],
  [some (.aload_n 0, 17, 0, 0, []), some (.aload_n 1, 18, 0, 0, []), some (.getfield 44, 21, 0, 0, []), none, none, some (.putfield 44, 24, 0, 0, []), none, none, some (.aload_n 0, 25, 0, 0, []), some (.aload_n 1, 26, 0, 0, []), some (.getfield 47, 29, 0, 0, []), none, none, some (.putfield 47, 32, 0, 0, []), none, none],
  [some (.aload_n 1, 33, 0, 0, []), some (.getfield 9, 36, 0, 0, []), none, none, some (.iconst 0, 37, 0, 0, []), some (.aload_n 0, 38, 0, 0, []), some (.getfield 9, 41, 0, 0, []), none, none, some (.iconst 0, 42, 0, 0, []), some (.aload_n 0, 43, 0, 0, []), some (.getfield 9, 46, 0, 0, []), none, none, some (.arraylength, 47, 0, 0, []), some (.invokestatic 50, 50, 0, 0, [])],
  [none, none, some (.aload_n 1, 51, 0, 0, []), some (.getfield 15, 54, 0, 0, []), none, none, some (.iconst 0, 55, 0, 0, []), some (.aload_n 0, 56, 0, 0, []), some (.getfield 15, 59, 0, 0, []), none, none, some (.iconst 0, 60, 0, 0, []), some (.aload_n 0, 61, 0, 0, []), some (.getfield 15, 64, 0, 0, []), none, none],
  [some (.arraylength, 65, 0, 0, []), some (.invokestatic 50, 68, 0, 0, []), none, none, some (.aload_n 1, 69, 0, 0, []), some (.getfield 18, 72, 0, 0, []), none, none, some (.iconst 0, 73, 0, 0, []), some (.aload_n 0, 74, 0, 0, []), some (.getfield 18, 77, 0, 0, []), none, none, some (.iconst 0, 78, 0, 0, []), some (.aload_n 0, 79, 0, 0, []), some (.getfield 18, 82, 0, 0, [])],
  [none, none, some (.arraylength, 83, 0, 0, []), some (.invokestatic 50, 86, 0, 0, []), none, none, some (.aload_n 1, 87, 0, 0, []), some (.getfield 21, 90, 0, 0, []), none, none, some (.iconst 0, 91, 0, 0, []), some (.aload_n 0, 92, 0, 0, []), some (.getfield 21, 95, 0, 0, []), none, none, some (.iconst 0, 96, 0, 0, [])],
  [some (.aload_n 0, 97, 0, 0, []), some (.getfield 21, 100, 0, 0, []), none, none, some (.arraylength, 101, 0, 0, []), some (.invokestatic 50, 104, 0, 0, []), none, none, some (.return_, 105, 0, 0, [])]]
def m_X0_takeFrom : MT := ((cd_X0_takeFrom, 0, 0, 0, 0), (yX0_takeFrom, cX0_takeFrom, 2, none))
def cd_X0_join : List (List (Option Ent)) := [[some (.aload_n 0, 1, 0, 0, []), some (.getfield 9, 4, 0, 0, []), none, none, some (.aload_n 0, 5, 0, 0, []), some (.getfield 37, 8, 0, 0, []), none, none, some (.iload_n 1, 9, 0, 0, []), some (.iastore, 10, 0, 0, []), some (.aload_n 0, 11, 0, 0, []), some (.getfield 15, 14, 0, 0, []), none, none, some (.aload_n 0, 15, 0, 0, []), some (.getfield 37, 18, 0, 0, [])],
  [none, none, some (.iload_n 2, 19, 0, 0, []), some (.iastore, 20, 0, 0, []), some (.aload_n 0, 21, 0, 0, []), some (.dup, 22, 0, 0, []), some (.getfield 37, 25, 0, 0, []), none, none, some (.iconst 1, 26, 0, 1, []), some (.iadd, 27, 0, 0, []), some (.putfield 37, 30, 0, 0, []), none, none, some (.aload_n 0, 31, 0, 0, []), some (.getfield 37, 34, 0, 0, [])],
  [none, none, some (.iconst 1, 35, 0, 1, []), some (.isub, 36, 0, 0, []), some (.ireturn, 37, 0, 0, [])]]
def m_X0_join : MT := ((cd_X0_join, 0, 0, 0, 1), (yX0_join, cX0_join, 3, (some .int)))
def cd_X0_owing : List (List (Option Ent)) := [[some (.aload_n 0, 1, 0, 0, []), some (.getfield 21, 4, 0, 0, []), none, none, some (.iload_n 1, 5, 0, 0, []), some (.iconst 5, 6, 0, 5, []), some (.imul, 7, 0, 0, []), some (.iload_n 2, 8, 0, 0, []), some (.iadd, 9, 0, 0, []), some (.iaload, 10, 0, 0, []), some (.ireturn, 11, 0, 0, [])]]
def m_X0_owing : MT := ((cd_X0_owing, 0, 0, 0, 1), (yX0_owing, cX0_owing, 3, (some .int)))
def cd_X0_owes : List (List (Option Ent)) := [[some (.iconst 0, 1, 0, 0, []), some (.istore_n 2, 2, 0, 0, []), some (.iconst 0, 3, 0, 0, []), some (.istore_n 3, 4, 0, 0, []), some (.iload_n 3, 5, 0, 0, []), some (.aload_n 0, 6, 0, 0, []), some (.getfield 37, 9, 0, 0, []), none, none, some (.if_icmp .ge 22, 12, 31, 0, []), none, none, some (.iload_n 2, 13, 0, 0, []), some (.aload_n 0, 14, 0, 0, []), some (.getfield 21, 17, 0, 0, []), none],
  [none, some (.iload_n 1, 18, 0, 0, []), some (.iconst 5, 19, 0, 5, []), some (.imul, 20, 0, 0, []), some (.iload_n 3, 21, 0, 0, []), some (.iadd, 22, 0, 0, []), some (.iaload, 23, 0, 0, []), some (.iadd, 24, 0, 0, []), some (.istore_n 2, 25, 0, 0, []), some (.iinc 3 1, 28, 0, 1, []), none, none, some (.goto (-24), 31, 4, 0, []), none, none, some (.iload_n 2, 32, 0, 0, [])],
  [some (.ireturn, 33, 0, 0, [])]]
def m_X0_owes : MT := ((cd_X0_owes, 0, 0, 0, 1), (yX0_owes, cX0_owes, 4, (some .int)))
def cd_X0_owedTo : List (List (Option Ent)) := [[some (.iconst 0, 1, 0, 0, []), some (.istore_n 2, 2, 0, 0, []), some (.iconst 0, 3, 0, 0, []), some (.istore_n 3, 4, 0, 0, []), some (.iload_n 3, 5, 0, 0, []), some (.aload_n 0, 6, 0, 0, []), some (.getfield 37, 9, 0, 0, []), none, none, some (.if_icmp .ge 22, 12, 31, 0, []), none, none, some (.iload_n 2, 13, 0, 0, []), some (.aload_n 0, 14, 0, 0, []), some (.getfield 21, 17, 0, 0, []), none],
  [none, some (.iload_n 3, 18, 0, 0, []), some (.iconst 5, 19, 0, 5, []), some (.imul, 20, 0, 0, []), some (.iload_n 1, 21, 0, 0, []), some (.iadd, 22, 0, 0, []), some (.iaload, 23, 0, 0, []), some (.iadd, 24, 0, 0, []), some (.istore_n 2, 25, 0, 0, []), some (.iinc 3 1, 28, 0, 1, []), none, none, some (.goto (-24), 31, 4, 0, []), none, none, some (.iload_n 2, 32, 0, 0, [])],
  [some (.ireturn, 33, 0, 0, [])]]
def m_X0_owedTo : MT := ((cd_X0_owedTo, 0, 0, 0, 1), (yX0_owedTo, cX0_owedTo, 4, (some .int)))
def cd_X0_all : List (List (Option Ent)) := [[some (.iconst 0, 1, 0, 0, []), some (.istore_n 1, 2, 0, 0, []), some (.iconst 0, 3, 0, 0, []), some (.istore_n 2, 4, 0, 0, []), some (.iload_n 2, 5, 0, 0, []), some (.aload_n 0, 6, 0, 0, []), some (.getfield 37, 9, 0, 0, []), none, none, some (.if_icmp .ge 17, 12, 26, 0, []), none, none, some (.iload_n 1, 13, 0, 0, []), some (.aload_n 0, 14, 0, 0, []), some (.iload_n 2, 15, 0, 0, []), some (.invokevirtual 56, 18, 0, 0, [])],
  [none, none, some (.iadd, 19, 0, 0, []), some (.istore_n 1, 20, 0, 0, []), some (.iinc 2 1, 23, 0, 1, []), none, none, some (.goto (-19), 26, 4, 0, []), none, none, some (.iload_n 1, 27, 0, 0, []), some (.ireturn, 28, 0, 0, [])]]
def m_X0_all : MT := ((cd_X0_all, 0, 0, 0, 1), (yX0_all, cX0_all, 3, (some .int)))
def cd_X0_value : List (List (Option Ent)) := [[some (.aload_n 0, 1, 0, 0, []), some (.getfield 33, 4, 0, 0, []), none, none, some (.getfield 60, 7, 0, 0, []), none, none, some (.astore 4, 9, 0, 0, []), none, some (.aload 4, 11, 0, 0, []), none, some (.iconst 0, 12, 0, 0, []), some (.iload_n 3, 13, 0, 0, []), some (.iastore, 14, 0, 0, []), some (.aload 4, 16, 0, 0, []), none],
  [some (.iconst 1, 17, 0, 1, []), some (.aload_n 0, 18, 0, 0, []), some (.iload_n 2, 19, 0, 0, []), some (.invokevirtual 65, 22, 0, 0, []), none, none, some (.iastore, 23, 0, 0, []), some (.aload 4, 25, 0, 0, []), none, some (.iconst 2, 26, 0, 2, []), some (.aload_n 0, 27, 0, 0, []), some (.getfield 15, 30, 0, 0, []), none, none, some (.iload_n 2, 31, 0, 0, []), some (.iaload, 32, 0, 0, [])],
  [some (.iastore, 33, 0, 0, []), some (.aload 4, 35, 0, 0, []), none, some (.iconst 3, 36, 0, 3, []), some (.aload_n 0, 37, 0, 0, []), some (.getfield 41, 40, 0, 0, []), none, none, some (.iastore, 41, 0, 0, []), some (.aload 4, 43, 0, 0, []), none, some (.iconst 4, 44, 0, 4, []), some (.aload_n 0, 45, 0, 0, []), some (.getfield 18, 48, 0, 0, []), none, none],
  [some (.iload_n 2, 49, 0, 0, []), some (.iaload, 50, 0, 0, []), some (.iastore, 51, 0, 0, []), some (.aload 4, 53, 0, 0, []), none, some (.iconst 5, 54, 0, 5, []), some (.aload_n 0, 55, 0, 0, []), some (.getfield 44, 58, 0, 0, []), none, none, some (.iastore, 59, 0, 0, []), some (.aload_n 0, 60, 0, 0, []), some (.getfield 33, 63, 0, 0, []), none, none, some (.aload_n 0, 64, 0, 0, [])],
  [some (.getfield 47, 67, 0, 0, []), none, none, some (.iload_n 1, 68, 0, 0, []), some (.invokevirtual 68, 71, 0, 0, []), none, none, some (.istore 5, 73, 0, 0, []), none, some (.iload_n 1, 74, 0, 0, []), some (.iconst 1, 75, 0, 1, []), some (.if_icmp .ne 8, 78, 83, 0, []), none, none, some (.iload 5, 80, 0, 0, []), none],
  [some (.goto 10, 83, 90, 0, []), none, none, some (.iload 5, 85, 0, 0, []), none, some (.bipush 99, 87, 0, 99, []), none, some (.invokestatic 72, 90, 0, 0, []), none, none, some (.ireturn, 91, 0, 0, [])]]
def m_X0_value : MT := ((cd_X0_value, 0, 0, 0, 1), (yX0_value, cX0_value, 6, (some .int)))
def cd_X0_pays : List (List (Option Ent)) := [[some (.aload_n 0, 1, 0, 0, []), some (.getfield 9, 4, 0, 0, []), none, none, some (.iload_n 1, 5, 0, 0, []), some (.iaload, 6, 0, 0, []), some (.tableswitch 95 1 5 #[34, 47, 52, 85, 90], 40, 101, 0, [(1, 40), (2, 53), (3, 58), (4, 91), (5, 96)]), none, none, none, none, none, none, none, none, none],
  [none, none, none, none, none, none, none, none, none, none, none, none, none, none, none, none],
  [none, none, none, none, none, none, none, none, some (.iconst 2, 41, 0, 2, []), some (.aload_n 0, 42, 0, 0, []), some (.iconst 0, 43, 0, 0, []), some (.iload_n 1, 44, 0, 0, []), some (.iload_n 2, 45, 0, 0, []), some (.invokevirtual 75, 48, 0, 0, []), none, none],
  [some (.imul, 49, 0, 0, []), some (.istore_n 3, 50, 0, 0, []), some (.goto 59, 53, 109, 0, []), none, none, some (.iconst 1, 54, 0, 1, []), some (.istore_n 3, 55, 0, 0, []), some (.goto 54, 58, 109, 0, []), none, none, some (.iconst 2, 59, 0, 2, []), some (.aload_n 0, 60, 0, 0, []), some (.iconst 0, 61, 0, 0, []), some (.iload_n 1, 62, 0, 0, []), some (.iload_n 2, 63, 0, 0, []), some (.invokevirtual 75, 66, 0, 0, [])],
  [none, none, some (.imul, 67, 0, 0, []), some (.aload_n 0, 68, 0, 0, []), some (.getfield 41, 71, 0, 0, []), none, none, some (.iconst 2, 72, 0, 2, []), some (.irem, 73, 0, 0, []), some (.ifCond .ne 12, 76, 85, 0, []), none, none, some (.aload_n 0, 77, 0, 0, []), some (.getfield 15, 80, 0, 0, []), none, none],
  [some (.iload_n 1, 81, 0, 0, []), some (.iaload, 82, 0, 0, []), some (.goto 4, 85, 86, 0, []), none, none, some (.iconst 0, 86, 0, 0, []), some (.iadd, 87, 0, 0, []), some (.istore_n 3, 88, 0, 0, []), some (.goto 21, 91, 109, 0, []), none, none, some (.iload_n 2, 92, 0, 0, []), some (.istore_n 3, 93, 0, 0, []), some (.goto 16, 96, 109, 0, []), none, none],
  [some (.iconst 0, 97, 0, 0, []), some (.istore_n 3, 98, 0, 0, []), some (.goto 11, 101, 109, 0, []), none, none, some (.aload_n 0, 102, 0, 0, []), some (.iconst 0, 103, 0, 0, []), some (.iload_n 1, 104, 0, 0, []), some (.iload_n 2, 105, 0, 0, []), some (.invokevirtual 75, 108, 0, 0, []), none, none, some (.istore_n 3, 109, 0, 0, []), some (.iload_n 3, 110, 0, 0, []), some (.iload_n 2, 111, 0, 0, []), some (.invokestatic 72, 114, 0, 0, [])],
  [none, none, some (.ireturn, 115, 0, 0, [])]]
def m_X0_pays : MT := ((cd_X0_pays, 0, 0, 0, 1), (yX0_pays, cX0_pays, 4, (some .int)))
def cd_X0_will : List (List (Option Ent)) := [[some (.aload_n 0, 1, 0, 0, []), some (.iload_n 1, 2, 0, 0, []), some (.iload_n 2, 3, 0, 0, []), some (.invokevirtual 78, 6, 0, 0, []), none, none, some (.istore_n 3, 7, 0, 0, []), some (.aload_n 0, 8, 0, 0, []), some (.iload_n 2, 9, 0, 0, []), some (.iload_n 1, 10, 0, 0, []), some (.invokevirtual 78, 13, 0, 0, []), none, none, some (.ifCond .le 7, 16, 20, 0, []), none, none],
  [some (.iconst 1, 17, 0, 1, []), some (.goto 4, 20, 21, 0, []), none, none, some (.iconst 0, 21, 0, 0, []), some (.istore 4, 23, 0, 0, []), none, some (.aload_n 0, 24, 0, 0, []), some (.getfield 9, 27, 0, 0, []), none, none, some (.iload_n 1, 28, 0, 0, []), some (.iaload, 29, 0, 0, []), some (.tableswitch 110 1 5 #[35, 37, 58, 79, 108], 64, 139, 0, [(1, 64), (2, 66), (3, 87), (4, 108), (5, 137)]), none, none],
  [none, none, none, none, none, none, none, none, none, none, none, none, none, none, none, none],
  [none, none, none, none, none, none, none, none, none, none, none, none, none, none, none, none],
  [some (.iconst 1, 65, 0, 1, []), some (.ireturn, 66, 0, 0, []), some (.iload 4, 68, 0, 0, []), none, some (.ifCond .eq 17, 71, 85, 0, []), none, none, some (.aload_n 0, 72, 0, 0, []), some (.iconst 1, 73, 0, 1, []), some (.iload_n 1, 74, 0, 0, []), some (.iload_n 3, 75, 0, 0, []), some (.invokevirtual 75, 78, 0, 0, []), none, none, some (.ifCond .eq 7, 81, 85, 0, []), none],
  [none, some (.iconst 1, 82, 0, 1, []), some (.goto 4, 85, 86, 0, []), none, none, some (.iconst 0, 86, 0, 0, []), some (.ireturn, 87, 0, 0, []), some (.aload_n 0, 88, 0, 0, []), some (.getfield 18, 91, 0, 0, []), none, none, some (.iload_n 1, 92, 0, 0, []), some (.iaload, 93, 0, 0, []), some (.aload_n 0, 94, 0, 0, []), some (.getfield 15, 97, 0, 0, []), none],
  [none, some (.iload_n 1, 98, 0, 0, []), some (.iaload, 99, 0, 0, []), some (.if_icmp .eq 7, 102, 106, 0, []), none, none, some (.iconst 1, 103, 0, 1, []), some (.goto 4, 106, 107, 0, []), none, none, some (.iconst 0, 107, 0, 0, []), some (.ireturn, 108, 0, 0, []), some (.aload_n 0, 109, 0, 0, []), some (.iload_n 1, 110, 0, 0, []), some (.invokevirtual 65, 113, 0, 0, []), none],
  [none, some (.ifCond .eq 18, 116, 131, 0, []), none, none, some (.iload 4, 118, 0, 0, []), none, some (.ifCond .eq 17, 121, 135, 0, []), none, none, some (.aload_n 0, 122, 0, 0, []), some (.iconst 1, 123, 0, 1, []), some (.iload_n 1, 124, 0, 0, []), some (.iload_n 3, 125, 0, 0, []), some (.invokevirtual 75, 128, 0, 0, []), none, none],
  [some (.ifCond .eq 7, 131, 135, 0, []), none, none, some (.iconst 1, 132, 0, 1, []), some (.goto 4, 135, 136, 0, []), none, none, some (.iconst 0, 136, 0, 0, []), some (.ireturn, 137, 0, 0, []), some (.iconst 0, 138, 0, 0, []), some (.ireturn, 139, 0, 0, []), some (.aload_n 0, 140, 0, 0, []), some (.iconst 1, 141, 0, 1, []), some (.iload_n 1, 142, 0, 0, []), some (.iload_n 3, 143, 0, 0, []), some (.invokevirtual 75, 146, 0, 0, [])],
  [none, none, some (.ifCond .eq 7, 149, 153, 0, []), none, none, some (.iconst 1, 150, 0, 1, []), some (.goto 4, 153, 154, 0, []), none, none, some (.iconst 0, 154, 0, 0, []), some (.ireturn, 155, 0, 0, [])]]
def m_X0_will : MT := ((cd_X0_will, 0, 0, 0, 4), (yX0_will, cX0_will, 5, (some .boolean)))
def cd_X0_breath : List (List (Option Ent)) := [[some (.aload_n 0, 1, 0, 0, []), some (.getfield 9, 4, 0, 0, []), none, none, some (.iload_n 1, 5, 0, 0, []), some (.iaload, 6, 0, 0, []), some (.tableswitch 76 1 5 #[34, 47, 34, 60, 66], 40, 82, 0, [(1, 40), (2, 53), (3, 40), (4, 66), (5, 72)]), none, none, none, none, none, none, none, none, none],
  [none, none, none, none, none, none, none, none, none, none, none, none, none, none, none, none],
  [none, none, none, none, none, none, none, none, some (.aload_n 0, 41, 0, 0, []), some (.iconst 2, 42, 0, 2, []), some (.iload_n 1, 43, 0, 0, []), some (.iconst 0, 44, 0, 0, []), some (.invokevirtual 75, 47, 0, 0, []), none, none, some (.iconst 3, 48, 0, 3, [])],
  [some (.iadd, 49, 0, 0, []), some (.istore_n 2, 50, 0, 0, []), some (.goto 40, 53, 90, 0, []), none, none, some (.aload_n 0, 54, 0, 0, []), some (.iconst 2, 55, 0, 2, []), some (.iload_n 1, 56, 0, 0, []), some (.iconst 0, 57, 0, 0, []), some (.invokevirtual 75, 60, 0, 0, []), none, none, some (.iconst 2, 61, 0, 2, []), some (.idiv, 62, 0, 0, []), some (.istore_n 2, 63, 0, 0, []), some (.goto 27, 66, 90, 0, [])],
  [none, none, some (.bipush 99, 68, 0, 99, []), none, some (.istore_n 2, 69, 0, 0, []), some (.goto 21, 72, 90, 0, []), none, none, some (.aload_n 0, 73, 0, 0, []), some (.getfield 15, 76, 0, 0, []), none, none, some (.iload_n 1, 77, 0, 0, []), some (.iaload, 78, 0, 0, []), some (.istore_n 2, 79, 0, 0, []), some (.goto 11, 82, 90, 0, [])],
  [none, none, some (.aload_n 0, 83, 0, 0, []), some (.iconst 2, 84, 0, 2, []), some (.iload_n 1, 85, 0, 0, []), some (.iconst 0, 86, 0, 0, []), some (.invokevirtual 75, 89, 0, 0, []), none, none, some (.istore_n 2, 90, 0, 0, []), some (.iload_n 2, 91, 0, 0, []), some (.bipush 99, 93, 0, 99, []), none, some (.invokestatic 72, 96, 0, 0, []), none, none],
  [some (.ireturn, 97, 0, 0, [])]]
def m_X0_breath : MT := ((cd_X0_breath, 0, 0, 0, 1), (yX0_breath, cX0_breath, 3, (some .int)))
def cd_X0_may : List (List (Option Ent)) := [[some (.aload_n 0, 1, 0, 0, []), some (.iload_n 1, 2, 0, 0, []), some (.iload_n 2, 3, 0, 0, []), some (.invokevirtual 78, 6, 0, 0, []), none, none, some (.ifCond .gt 12, 9, 18, 0, []), none, none, some (.aload_n 0, 10, 0, 0, []), some (.iload_n 2, 11, 0, 0, []), some (.iload_n 1, 12, 0, 0, []), some (.invokevirtual 78, 15, 0, 0, []), none, none, some (.ifCond .le 53, 18, 68, 0, [])],
  [none, none, some (.aload_n 0, 19, 0, 0, []), some (.iload_n 1, 20, 0, 0, []), some (.iload_n 2, 21, 0, 0, []), some (.invokevirtual 81, 24, 0, 0, []), none, none, some (.ifCond .eq 44, 27, 68, 0, []), none, none, some (.aload_n 0, 28, 0, 0, []), some (.iload_n 2, 29, 0, 0, []), some (.iload_n 1, 30, 0, 0, []), some (.invokevirtual 81, 33, 0, 0, []), none],
  [none, some (.ifCond .eq 35, 36, 68, 0, []), none, none, some (.aload_n 0, 37, 0, 0, []), some (.getfield 18, 40, 0, 0, []), none, none, some (.iload_n 1, 41, 0, 0, []), some (.iaload, 42, 0, 0, []), some (.aload_n 0, 43, 0, 0, []), some (.iload_n 1, 44, 0, 0, []), some (.invokevirtual 85, 47, 0, 0, []), none, none, some (.if_icmp .ge 21, 50, 68, 0, [])],
  [none, none, some (.aload_n 0, 51, 0, 0, []), some (.getfield 18, 54, 0, 0, []), none, none, some (.iload_n 2, 55, 0, 0, []), some (.iaload, 56, 0, 0, []), some (.aload_n 0, 57, 0, 0, []), some (.iload_n 2, 58, 0, 0, []), some (.invokevirtual 85, 61, 0, 0, []), none, none, some (.if_icmp .ge 7, 64, 68, 0, []), none, none],
  [some (.iconst 1, 65, 0, 1, []), some (.goto 4, 68, 69, 0, []), none, none, some (.iconst 0, 69, 0, 0, []), some (.ireturn, 70, 0, 0, [])]]
def m_X0_may : MT := ((cd_X0_may, 0, 0, 0, 4), (yX0_may, cX0_may, 3, (some .boolean)))
def cd_X0_step : List (List (Option Ent)) := [[some (.aload_n 0, 1, 0, 0, []), some (.iload_n 1, 2, 0, 0, []), some (.aload_n 0, 3, 0, 0, []), some (.iload_n 1, 4, 0, 0, []), some (.iload_n 2, 5, 0, 0, []), some (.invokevirtual 78, 8, 0, 0, []), none, none, some (.invokevirtual 88, 11, 0, 0, []), none, none, some (.istore_n 3, 12, 0, 0, []), some (.aload_n 0, 13, 0, 0, []), some (.iload_n 2, 14, 0, 0, []), some (.aload_n 0, 15, 0, 0, []), some (.iload_n 2, 16, 0, 0, [])],
  [some (.iload_n 1, 17, 0, 0, []), some (.invokevirtual 78, 20, 0, 0, []), none, none, some (.invokevirtual 88, 23, 0, 0, []), none, none, some (.istore 4, 25, 0, 0, []), none, some (.aload_n 0, 26, 0, 0, []), some (.iload_n 1, 27, 0, 0, []), some (.iload_n 2, 28, 0, 0, []), some (.iload_n 3, 29, 0, 0, []), some (.iload 4, 31, 0, 0, []), none, some (.invokevirtual 91, 34, 0, 0, [])],
  [none, none, some (.iload_n 3, 35, 0, 0, []), some (.iload 4, 37, 0, 0, []), none, some (.iadd, 38, 0, 0, []), some (.ireturn, 39, 0, 0, [])]]
def m_X0_step : MT := ((cd_X0_step, 0, 0, 0, 1), (yX0_step, cX0_step, 5, (some .int)))
def cd_X0_lessen : List (List (Option Ent)) := [[some (.aload_n 0, 1, 0, 0, []), some (.getfield 21, 4, 0, 0, []), none, none, some (.iload_n 1, 5, 0, 0, []), some (.iconst 5, 6, 0, 5, []), some (.imul, 7, 0, 0, []), some (.iload_n 2, 8, 0, 0, []), some (.iadd, 9, 0, 0, []), some (.dup2, 10, 0, 0, []), some (.iaload, 11, 0, 0, []), some (.iload_n 3, 12, 0, 0, []), some (.isub, 13, 0, 0, []), some (.iastore, 14, 0, 0, []), some (.return_, 15, 0, 0, [])]]
def m_X0_lessen : MT := ((cd_X0_lessen, 0, 0, 0, 0), (yX0_lessen, cX0_lessen, 4, none))
def cd_X0_settle : List (List (Option Ent)) := [[some (.aload_n 0, 1, 0, 0, []), some (.iload_n 1, 2, 0, 0, []), some (.iload_n 2, 3, 0, 0, []), some (.iload_n 3, 4, 0, 0, []), some (.invokevirtual 95, 7, 0, 0, []), none, none, some (.aload_n 0, 8, 0, 0, []), some (.iload_n 2, 9, 0, 0, []), some (.iload_n 1, 10, 0, 0, []), some (.iload 4, 12, 0, 0, []), none, some (.invokevirtual 95, 15, 0, 0, []), none, none, some (.aload_n 0, 16, 0, 0, [])],
  [some (.getfield 18, 19, 0, 0, []), none, none, some (.iload_n 1, 20, 0, 0, []), some (.aload_n 0, 21, 0, 0, []), some (.getfield 18, 24, 0, 0, []), none, none, some (.iload_n 1, 25, 0, 0, []), some (.iaload, 26, 0, 0, []), some (.iconst 1, 27, 0, 1, []), some (.iadd, 28, 0, 0, []), some (.bipush 99, 30, 0, 99, []), none, some (.invokestatic 99, 33, 0, 0, []), none],
  [none, some (.iastore, 34, 0, 0, []), some (.aload_n 0, 35, 0, 0, []), some (.getfield 18, 38, 0, 0, []), none, none, some (.iload_n 2, 39, 0, 0, []), some (.aload_n 0, 40, 0, 0, []), some (.getfield 18, 43, 0, 0, []), none, none, some (.iload_n 2, 44, 0, 0, []), some (.iaload, 45, 0, 0, []), some (.iconst 1, 46, 0, 1, []), some (.iadd, 47, 0, 0, []), some (.bipush 99, 49, 0, 99, [])],
  [none, some (.invokestatic 99, 52, 0, 0, []), none, none, some (.iastore, 53, 0, 0, []), some (.return_, 54, 0, 0, [])]]
def m_X0_settle : MT := ((cd_X0_settle, 0, 0, 0, 0), (yX0_settle, cX0_settle, 5, none))
def cd_X0_danceRound : List (List (Option Ent)) := [[some (.aload_n 0, 1, 0, 0, []), some (.iconst 0, 2, 0, 0, []), some (.putfield 104, 5, 0, 0, []), none, none, some (.iconst 0, 6, 0, 0, []), some (.istore_n 1, 7, 0, 0, []), some (.iconst 0, 8, 0, 0, []), some (.istore_n 2, 9, 0, 0, []), some (.iload_n 2, 10, 0, 0, []), some (.getstatic 24, 13, 0, 0, []), none, none, some (.arraylength, 14, 0, 0, []), some (.if_icmp .ge 82, 17, 96, 0, []), none],
  [none, some (.getstatic 24, 20, 0, 0, []), none, none, some (.iload_n 2, 21, 0, 0, []), some (.iaload, 22, 0, 0, []), some (.istore_n 3, 23, 0, 0, []), some (.getstatic 107, 26, 0, 0, []), none, none, some (.iload_n 2, 27, 0, 0, []), some (.iaload, 28, 0, 0, []), some (.istore 4, 30, 0, 0, []), none, some (.iconst 1, 31, 0, 1, []), some (.iload_n 3, 32, 0, 0, [])],
  [some (.ishl, 33, 0, 0, []), some (.iconst 1, 34, 0, 1, []), some (.iload 4, 36, 0, 0, []), none, some (.ishl, 37, 0, 0, []), some (.ior, 38, 0, 0, []), some (.istore 5, 40, 0, 0, []), none, some (.iload 4, 42, 0, 0, []), none, some (.aload_n 0, 43, 0, 0, []), some (.getfield 37, 46, 0, 0, []), none, none, some (.if_icmp .ge 44, 49, 90, 0, []), none],
  [none, some (.aload_n 0, 50, 0, 0, []), some (.getfield 104, 53, 0, 0, []), none, none, some (.iload 5, 55, 0, 0, []), none, some (.iand, 56, 0, 0, []), some (.ifCond .ne 34, 59, 90, 0, []), none, none, some (.aload_n 0, 60, 0, 0, []), some (.iload_n 3, 61, 0, 0, []), some (.iload 4, 63, 0, 0, []), none, some (.invokevirtual 110, 66, 0, 0, [])],
  [none, none, some (.ifCond .eq 24, 69, 90, 0, []), none, none, some (.iload_n 1, 70, 0, 0, []), some (.aload_n 0, 71, 0, 0, []), some (.iload_n 3, 72, 0, 0, []), some (.iload 4, 74, 0, 0, []), none, some (.invokevirtual 113, 77, 0, 0, []), none, none, some (.iadd, 78, 0, 0, []), some (.istore_n 1, 79, 0, 0, []), some (.aload_n 0, 80, 0, 0, [])],
  [some (.dup, 81, 0, 0, []), some (.getfield 104, 84, 0, 0, []), none, none, some (.iload 5, 86, 0, 0, []), none, some (.ior, 87, 0, 0, []), some (.putfield 104, 90, 0, 0, []), none, none, some (.iinc 2 1, 93, 0, 1, []), none, none, some (.goto (-84), 96, 9, 0, []), none, none],
  [some (.aload_n 0, 97, 0, 0, []), some (.dup, 98, 0, 0, []), some (.getfield 41, 101, 0, 0, []), none, none, some (.iconst 1, 102, 0, 1, []), some (.iadd, 103, 0, 0, []), some (.putfield 41, 106, 0, 0, []), none, none, some (.iload_n 1, 107, 0, 0, []), some (.ireturn, 108, 0, 0, [])]]
def m_X0_danceRound : MT := ((cd_X0_danceRound, 0, 0, 0, 1), (yX0_danceRound, cX0_danceRound, 6, (some .int)))
def cd_X0_endNight : List (List (Option Ent)) := [[some (.iconst 0, 1, 0, 0, []), some (.istore_n 1, 2, 0, 0, []), some (.iconst 0, 3, 0, 0, []), some (.istore_n 2, 4, 0, 0, []), some (.iload_n 2, 5, 0, 0, []), some (.aload_n 0, 6, 0, 0, []), some (.getfield 37, 9, 0, 0, []), none, none, some (.if_icmp .ge 25, 12, 34, 0, []), none, none, some (.iload_n 1, 13, 0, 0, []), some (.aload_n 0, 14, 0, 0, []), some (.getfield 18, 17, 0, 0, []), none],
  [none, some (.iload_n 2, 18, 0, 0, []), some (.iaload, 19, 0, 0, []), some (.iadd, 20, 0, 0, []), some (.istore_n 1, 21, 0, 0, []), some (.aload_n 0, 22, 0, 0, []), some (.getfield 18, 25, 0, 0, []), none, none, some (.iload_n 2, 26, 0, 0, []), some (.iconst 0, 27, 0, 0, []), some (.iastore, 28, 0, 0, []), some (.iinc 2 1, 31, 0, 1, []), none, none, some (.goto (-27), 34, 4, 0, [])],
  [none, none, some (.aload_n 0, 35, 0, 0, []), some (.dup, 36, 0, 0, []), some (.getfield 44, 39, 0, 0, []), none, none, some (.iconst 1, 40, 0, 1, []), some (.iadd, 41, 0, 0, []), some (.putfield 44, 44, 0, 0, []), none, none, some (.iload_n 1, 45, 0, 0, []), some (.ireturn, 46, 0, 0, [])]]
def m_X0_endNight : MT := ((cd_X0_endNight, 0, 0, 0, 1), (yX0_endNight, cX0_endNight, 3, (some .int)))
def cd_X0_ends : List (List (Option Ent)) := [[some (.iconst 0, 1, 0, 0, []), some (.istore_n 1, 2, 0, 0, []), some (.iload_n 1, 3, 0, 0, []), some (.bipush 60, 5, 0, 60, []), none, some (.if_icmp .gt 18, 8, 23, 0, []), none, none, some (.aload_n 0, 9, 0, 0, []), some (.invokevirtual 116, 12, 0, 0, []), none, none, some (.ifCond .ne 5, 15, 17, 0, []), none, none, some (.iload_n 1, 16, 0, 0, [])],
  [some (.ireturn, 17, 0, 0, []), some (.iinc 1 1, 20, 0, 1, []), none, none, some (.goto (-18), 23, 2, 0, []), none, none, some (.iconst (-1), 24, 0, (-1), []), some (.ireturn, 25, 0, 0, [])]]
def m_X0_ends : MT := ((cd_X0_ends, 0, 0, 0, 1), (yX0_ends, cX0_ends, 2, (some .int)))
def cd_X0_stillOwed : List (List (Option Ent)) := [[some (.iconst 0, 1, 0, 0, []), some (.istore_n 1, 2, 0, 0, []), some (.iconst 0, 3, 0, 0, []), some (.istore_n 2, 4, 0, 0, []), some (.iload_n 2, 5, 0, 0, []), some (.aload_n 0, 6, 0, 0, []), some (.getfield 37, 9, 0, 0, []), none, none, some (.if_icmp .ge 23, 12, 32, 0, []), none, none, some (.aload_n 0, 13, 0, 0, []), some (.iload_n 2, 14, 0, 0, []), some (.invokevirtual 65, 17, 0, 0, []), none],
  [none, some (.ifCond .le 9, 20, 26, 0, []), none, none, some (.iload_n 1, 21, 0, 0, []), some (.iconst 1, 22, 0, 1, []), some (.iload_n 2, 23, 0, 0, []), some (.ishl, 24, 0, 0, []), some (.ior, 25, 0, 0, []), some (.istore_n 1, 26, 0, 0, []), some (.iinc 2 1, 29, 0, 1, []), none, none, some (.goto (-25), 32, 4, 0, []), none, none],
  [some (.iload_n 1, 33, 0, 0, []), some (.ireturn, 34, 0, 0, [])]]
def m_X0_stillOwed : MT := ((cd_X0_stillOwed, 0, 0, 0, 1), (yX0_stillOwed, cX0_stillOwed, 3, (some .int)))
def cd_X0_keeps : List (List (Option Ent)) := [[some (.iconst (-1), 1, 0, (-1), []), some (.istore_n 1, 2, 0, 0, []), some (.iconst 0, 3, 0, 0, []), some (.istore_n 2, 4, 0, 0, []), some (.iconst 0, 5, 0, 0, []), some (.istore_n 3, 6, 0, 0, []), some (.iload_n 3, 7, 0, 0, []), some (.aload_n 0, 8, 0, 0, []), some (.getfield 37, 11, 0, 0, []), none, none, some (.if_icmp .ge 27, 14, 38, 0, []), none, none, some (.aload_n 0, 15, 0, 0, []), some (.iload_n 3, 16, 0, 0, [])],
  [some (.invokevirtual 65, 19, 0, 0, []), none, none, some (.istore 4, 21, 0, 0, []), none, some (.iload 4, 23, 0, 0, []), none, some (.iload_n 2, 24, 0, 0, []), some (.if_icmp .le 8, 27, 32, 0, []), none, none, some (.iload_n 3, 28, 0, 0, []), some (.istore_n 1, 29, 0, 0, []), some (.iload 4, 31, 0, 0, []), none, some (.istore_n 2, 32, 0, 0, [])],
  [some (.iinc 3 1, 35, 0, 1, []), none, none, some (.goto (-29), 38, 6, 0, []), none, none, some (.iload_n 1, 39, 0, 0, []), some (.ireturn, 40, 0, 0, [])]]
def m_X0_keeps : MT := ((cd_X0_keeps, 0, 0, 0, 1), (yX0_keeps, cX0_keeps, 5, (some .int)))
def cd_X0_least : List (List (Option Ent)) := [[some (.iconst 0, 1, 0, 0, []), some (.istore_n 1, 2, 0, 0, []), some (.iconst 0, 3, 0, 0, []), some (.istore_n 2, 4, 0, 0, []), some (.iload_n 2, 5, 0, 0, []), some (.aload_n 0, 6, 0, 0, []), some (.getfield 37, 9, 0, 0, []), none, none, some (.if_icmp .ge 27, 12, 36, 0, []), none, none, some (.iload_n 1, 13, 0, 0, []), some (.iconst 0, 14, 0, 0, []), some (.aload_n 0, 15, 0, 0, []), some (.iload_n 2, 16, 0, 0, [])],
  [some (.invokevirtual 56, 19, 0, 0, []), none, none, some (.aload_n 0, 20, 0, 0, []), some (.iload_n 2, 21, 0, 0, []), some (.invokevirtual 65, 24, 0, 0, []), none, none, some (.isub, 25, 0, 0, []), some (.invokestatic 121, 28, 0, 0, []), none, none, some (.iadd, 29, 0, 0, []), some (.istore_n 1, 30, 0, 0, []), some (.iinc 2 1, 33, 0, 1, []), none],
  [none, some (.goto (-29), 36, 4, 0, []), none, none, some (.iload_n 1, 37, 0, 0, []), some (.ireturn, 38, 0, 0, [])]]
def m_X0_least : MT := ((cd_X0_least, 0, 0, 0, 1), (yX0_least, cX0_least, 3, (some .int)))
def cd_X0_ring : List (List (Option Ent)) := [[some (.iconst 0, 1, 0, 0, []), some (.istore_n 1, 2, 0, 0, []), some (.iconst 0, 3, 0, 0, []), some (.istore_n 2, 4, 0, 0, []), some (.iload_n 2, 5, 0, 0, []), some (.aload_n 0, 6, 0, 0, []), some (.getfield 37, 9, 0, 0, []), none, none, some (.if_icmp .ge 24, 12, 33, 0, []), none, none, some (.iload_n 1, 13, 0, 0, []), some (.aload_n 0, 14, 0, 0, []), some (.iload_n 2, 15, 0, 0, []), some (.iload_n 2, 16, 0, 0, [])],
  [some (.iconst 1, 17, 0, 1, []), some (.iload_n 2, 18, 0, 0, []), some (.ishl, 19, 0, 0, []), some (.iconst 1, 20, 0, 1, []), some (.invokevirtual 124, 23, 0, 0, []), none, none, some (.invokestatic 121, 26, 0, 0, []), none, none, some (.istore_n 1, 27, 0, 0, []), some (.iinc 2 1, 30, 0, 1, []), none, none, some (.goto (-26), 33, 4, 0, []), none],
  [none, some (.iload_n 1, 34, 0, 0, []), some (.ireturn, 35, 0, 0, [])]]
def m_X0_ring : MT := ((cd_X0_ring, 0, 0, 0, 1), (yX0_ring, cX0_ring, 3, (some .int)))
def cd_X0_longest : List (List (Option Ent)) := [[some (.iload 4, 2, 0, 0, []), none, some (.iconst 1, 3, 0, 1, []), some (.if_icmp .le 17, 6, 20, 0, []), none, none, some (.aload_n 0, 7, 0, 0, []), some (.iload_n 2, 8, 0, 0, []), some (.iload_n 1, 9, 0, 0, []), some (.invokevirtual 78, 12, 0, 0, []), none, none, some (.ifCond .le 8, 15, 20, 0, []), none, none, some (.iload 4, 17, 0, 0, [])],
  [none, some (.goto 4, 20, 21, 0, []), none, none, some (.iconst 0, 21, 0, 0, []), some (.istore 5, 23, 0, 0, []), none, some (.iload_n 1, 24, 0, 0, []), some (.iconst 1, 25, 0, 1, []), some (.iadd, 26, 0, 0, []), some (.istore 6, 28, 0, 0, []), none, some (.iload 6, 30, 0, 0, []), none, some (.aload_n 0, 31, 0, 0, []), some (.getfield 37, 34, 0, 0, [])],
  [none, none, some (.if_icmp .ge 58, 37, 92, 0, []), none, none, some (.iload 4, 39, 0, 0, []), none, some (.iconst 5, 40, 0, 5, []), some (.if_icmp .ge 52, 43, 92, 0, []), none, none, some (.iload_n 3, 44, 0, 0, []), some (.iload 6, 46, 0, 0, []), none, some (.ishr, 47, 0, 0, []), some (.iconst 1, 48, 0, 1, [])],
  [some (.iand, 49, 0, 0, []), some (.ifCond .ne 37, 52, 86, 0, []), none, none, some (.aload_n 0, 53, 0, 0, []), some (.iload_n 2, 54, 0, 0, []), some (.iload 6, 56, 0, 0, []), none, some (.invokevirtual 78, 59, 0, 0, []), none, none, some (.ifCond .le 27, 62, 86, 0, []), none, none, some (.iload 5, 64, 0, 0, []), none],
  [some (.aload_n 0, 65, 0, 0, []), some (.iload_n 1, 66, 0, 0, []), some (.iload 6, 68, 0, 0, []), none, some (.iload_n 3, 69, 0, 0, []), some (.iconst 1, 70, 0, 1, []), some (.iload 6, 72, 0, 0, []), none, some (.ishl, 73, 0, 0, []), some (.ior, 74, 0, 0, []), some (.iload 4, 76, 0, 0, []), none, some (.iconst 1, 77, 0, 1, []), some (.iadd, 78, 0, 0, []), some (.invokevirtual 124, 81, 0, 0, []), none],
  [none, some (.invokestatic 121, 84, 0, 0, []), none, none, some (.istore 5, 86, 0, 0, []), none, some (.iinc 6 1, 89, 0, 1, []), none, none, some (.goto (-61), 92, 28, 0, []), none, none, some (.iload 5, 94, 0, 0, []), none, some (.ireturn, 95, 0, 0, [])]]
def m_X0_longest : MT := ((cd_X0_longest, 0, 0, 0, 1), (yX0_longest, cX0_longest, 7, (some .int)))
def cd_X0_mostToMeet : List (List (Option Ent)) := [[some (.iconst 0, 1, 0, 0, []), some (.istore_n 1, 2, 0, 0, []), some (.iconst 0, 3, 0, 0, []), some (.istore_n 2, 4, 0, 0, []), some (.iload_n 2, 5, 0, 0, []), some (.aload_n 0, 6, 0, 0, []), some (.getfield 37, 9, 0, 0, []), none, none, some (.if_icmp .ge 58, 12, 67, 0, []), none, none, some (.iconst 0, 13, 0, 0, []), some (.istore_n 3, 14, 0, 0, []), some (.iconst 0, 15, 0, 0, []), some (.istore 4, 17, 0, 0, [])],
  [none, some (.iload 4, 19, 0, 0, []), none, some (.aload_n 0, 20, 0, 0, []), some (.getfield 37, 23, 0, 0, []), none, none, some (.if_icmp .ge 32, 26, 55, 0, []), none, none, some (.aload_n 0, 27, 0, 0, []), some (.iload_n 2, 28, 0, 0, []), some (.iload 4, 30, 0, 0, []), none, some (.invokevirtual 78, 33, 0, 0, []), none],
  [none, some (.ifCond .gt 13, 36, 46, 0, []), none, none, some (.aload_n 0, 37, 0, 0, []), some (.iload 4, 39, 0, 0, []), none, some (.iload_n 2, 40, 0, 0, []), some (.invokevirtual 78, 43, 0, 0, []), none, none, some (.ifCond .le 6, 46, 49, 0, []), none, none, some (.iinc 3 1, 49, 0, 1, []), none],
  [none, some (.iinc 4 1, 52, 0, 1, []), none, none, some (.goto (-35), 55, 17, 0, []), none, none, some (.iload_n 1, 56, 0, 0, []), some (.iload_n 3, 57, 0, 0, []), some (.invokestatic 121, 60, 0, 0, []), none, none, some (.istore_n 1, 61, 0, 0, []), some (.iinc 2 1, 64, 0, 1, []), none, none],
  [some (.goto (-60), 67, 4, 0, []), none, none, some (.iload_n 1, 68, 0, 0, []), some (.ireturn, 69, 0, 0, [])]]
def m_X0_mostToMeet : MT := ((cd_X0_mostToMeet, 0, 0, 0, 1), (yX0_mostToMeet, cX0_mostToMeet, 5, (some .int)))
def cd_X0_weigh : List (List (Option Ent)) := [[some (.aload_n 0, 1, 0, 0, []), some (.iconst 0, 2, 0, 0, []), some (.putfield 128, 5, 0, 0, []), none, none, some (.iconst 0, 6, 0, 0, []), some (.istore_n 1, 7, 0, 0, []), some (.iload_n 1, 8, 0, 0, []), some (.getstatic 24, 11, 0, 0, []), none, none, some (.arraylength, 12, 0, 0, []), some (.if_icmp .ge 84, 15, 96, 0, []), none, none, some (.getstatic 24, 18, 0, 0, [])],
  [none, none, some (.iload_n 1, 19, 0, 0, []), some (.iaload, 20, 0, 0, []), some (.istore_n 2, 21, 0, 0, []), some (.getstatic 107, 24, 0, 0, []), none, none, some (.iload_n 1, 25, 0, 0, []), some (.iaload, 26, 0, 0, []), some (.istore_n 3, 27, 0, 0, []), some (.iload_n 3, 28, 0, 0, []), some (.aload_n 0, 29, 0, 0, []), some (.getfield 37, 32, 0, 0, []), none, none],
  [some (.if_icmp .ge 58, 35, 90, 0, []), none, none, some (.aload_n 0, 36, 0, 0, []), some (.iload_n 2, 37, 0, 0, []), some (.iload_n 3, 38, 0, 0, []), some (.invokevirtual 110, 41, 0, 0, []), none, none, some (.ifCond .eq 49, 44, 90, 0, []), none, none, some (.aload_n 0, 45, 0, 0, []), some (.dup, 46, 0, 0, []), some (.getfield 128, 49, 0, 0, []), none],
  [none, some (.iconst 1, 50, 0, 1, []), some (.iload_n 1, 51, 0, 0, []), some (.ishl, 52, 0, 0, []), some (.ior, 53, 0, 0, []), some (.putfield 128, 56, 0, 0, []), none, none, some (.aload_n 0, 57, 0, 0, []), some (.getfield 27, 60, 0, 0, []), none, none, some (.iload_n 1, 61, 0, 0, []), some (.aload_n 0, 62, 0, 0, []), some (.iload_n 2, 63, 0, 0, []), some (.aload_n 0, 64, 0, 0, [])],
  [some (.iload_n 2, 65, 0, 0, []), some (.iload_n 3, 66, 0, 0, []), some (.invokevirtual 78, 69, 0, 0, []), none, none, some (.invokevirtual 88, 72, 0, 0, []), none, none, some (.iastore, 73, 0, 0, []), some (.aload_n 0, 74, 0, 0, []), some (.getfield 30, 77, 0, 0, []), none, none, some (.iload_n 1, 78, 0, 0, []), some (.aload_n 0, 79, 0, 0, []), some (.iload_n 3, 80, 0, 0, [])],
  [some (.aload_n 0, 81, 0, 0, []), some (.iload_n 3, 82, 0, 0, []), some (.iload_n 2, 83, 0, 0, []), some (.invokevirtual 78, 86, 0, 0, []), none, none, some (.invokevirtual 88, 89, 0, 0, []), none, none, some (.iastore, 90, 0, 0, []), some (.iinc 1 1, 93, 0, 1, []), none, none, some (.goto (-86), 96, 7, 0, []), none, none],
  [some (.return_, 97, 0, 0, [])]]
def m_X0_weigh : MT := ((cd_X0_weigh, 0, 0, 0, 0), (yX0_weigh, cX0_weigh, 4, none))
def cd_X0_mayAll : List (List (Option Ent)) := [[some (.iload_n 1, 1, 0, 0, []), some (.aload_n 0, 2, 0, 0, []), some (.getfield 128, 5, 0, 0, []), none, none, some (.iconst (-1), 6, 0, (-1), []), some (.ixor, 7, 0, 0, []), some (.iand, 8, 0, 0, []), some (.ifCond .ne 7, 11, 15, 0, []), none, none, some (.iconst 1, 12, 0, 1, []), some (.goto 4, 15, 16, 0, []), none, none, some (.iconst 0, 16, 0, 0, [])],
  [some (.ireturn, 17, 0, 0, [])]]
def m_X0_mayAll : MT := ((cd_X0_mayAll, 0, 0, 0, 4), (yX0_mayAll, cX0_mayAll, 2, (some .boolean)))
def cd_X0_paidBy : List (List (Option Ent)) := [[some (.iconst 0, 1, 0, 0, []), some (.istore_n 2, 2, 0, 0, []), some (.iconst 0, 3, 0, 0, []), some (.istore_n 3, 4, 0, 0, []), some (.iload_n 3, 5, 0, 0, []), some (.getstatic 24, 8, 0, 0, []), none, none, some (.arraylength, 9, 0, 0, []), some (.if_icmp .ge 34, 12, 43, 0, []), none, none, some (.iload_n 1, 13, 0, 0, []), some (.iload_n 3, 14, 0, 0, []), some (.ishr, 15, 0, 0, []), some (.iconst 1, 16, 0, 1, [])],
  [some (.iand, 17, 0, 0, []), some (.iconst 1, 18, 0, 1, []), some (.if_icmp .ne 19, 21, 37, 0, []), none, none, some (.iload_n 2, 22, 0, 0, []), some (.aload_n 0, 23, 0, 0, []), some (.getfield 27, 26, 0, 0, []), none, none, some (.iload_n 3, 27, 0, 0, []), some (.iaload, 28, 0, 0, []), some (.aload_n 0, 29, 0, 0, []), some (.getfield 30, 32, 0, 0, []), none, none],
  [some (.iload_n 3, 33, 0, 0, []), some (.iaload, 34, 0, 0, []), some (.iadd, 35, 0, 0, []), some (.iadd, 36, 0, 0, []), some (.istore_n 2, 37, 0, 0, []), some (.iinc 3 1, 40, 0, 1, []), none, none, some (.goto (-36), 43, 4, 0, []), none, none, some (.iload_n 2, 44, 0, 0, []), some (.ireturn, 45, 0, 0, [])]]
def m_X0_paidBy : MT := ((cd_X0_paidBy, 0, 0, 0, 1), (yX0_paidBy, cX0_paidBy, 4, (some .int)))
def cd_X0_bestSet : List (List (Option Ent)) := [[some (.iconst 0, 1, 0, 0, []), some (.istore_n 1, 2, 0, 0, []), some (.iconst 0, 3, 0, 0, []), some (.istore_n 2, 4, 0, 0, []), some (.iconst 0, 5, 0, 0, []), some (.istore_n 3, 6, 0, 0, []), some (.iload_n 3, 7, 0, 0, []), some (.getstatic 131, 10, 0, 0, []), none, none, some (.arraylength, 11, 0, 0, []), some (.if_icmp .ge 51, 14, 62, 0, []), none, none, some (.aload_n 0, 15, 0, 0, []), some (.getstatic 131, 18, 0, 0, [])],
  [none, none, some (.iload_n 3, 19, 0, 0, []), some (.iaload, 20, 0, 0, []), some (.invokevirtual 134, 23, 0, 0, []), none, none, some (.ifCond .eq 15, 26, 38, 0, []), none, none, some (.aload_n 0, 27, 0, 0, []), some (.getstatic 131, 30, 0, 0, []), none, none, some (.iload_n 3, 31, 0, 0, []), some (.iaload, 32, 0, 0, [])],
  [some (.invokevirtual 138, 35, 0, 0, []), none, none, some (.goto 4, 38, 39, 0, []), none, none, some (.iconst 0, 39, 0, 0, []), some (.istore 4, 41, 0, 0, []), none, some (.iload 4, 43, 0, 0, []), none, some (.iload_n 2, 44, 0, 0, []), some (.if_icmp .le 12, 47, 56, 0, []), none, none, some (.getstatic 131, 50, 0, 0, [])],
  [none, none, some (.iload_n 3, 51, 0, 0, []), some (.iaload, 52, 0, 0, []), some (.istore_n 1, 53, 0, 0, []), some (.iload 4, 55, 0, 0, []), none, some (.istore_n 2, 56, 0, 0, []), some (.iinc 3 1, 59, 0, 1, []), none, none, some (.goto (-53), 62, 6, 0, []), none, none, some (.iload_n 1, 63, 0, 0, []), some (.ireturn, 64, 0, 0, [])]]
def m_X0_bestSet : MT := ((cd_X0_bestSet, 0, 0, 0, 1), (yX0_bestSet, cX0_bestSet, 5, (some .int)))
def cd_X0_danceSet : List (List (Option Ent)) := [[some (.iconst 0, 1, 0, 0, []), some (.istore_n 3, 2, 0, 0, []), some (.iload_n 3, 3, 0, 0, []), some (.getstatic 24, 6, 0, 0, []), none, none, some (.arraylength, 7, 0, 0, []), some (.if_icmp .ge 44, 10, 51, 0, []), none, none, some (.iload_n 1, 11, 0, 0, []), some (.iload_n 3, 12, 0, 0, []), some (.ishr, 13, 0, 0, []), some (.iconst 1, 14, 0, 1, []), some (.iand, 15, 0, 0, []), some (.iconst 1, 16, 0, 1, [])],
  [some (.if_icmp .ne 29, 19, 45, 0, []), none, none, some (.aload_n 0, 20, 0, 0, []), some (.getstatic 24, 23, 0, 0, []), none, none, some (.iload_n 3, 24, 0, 0, []), some (.iaload, 25, 0, 0, []), some (.getstatic 107, 28, 0, 0, []), none, none, some (.iload_n 3, 29, 0, 0, []), some (.iaload, 30, 0, 0, []), some (.aload_n 2, 31, 0, 0, []), some (.getfield 27, 34, 0, 0, [])],
  [none, none, some (.iload_n 3, 35, 0, 0, []), some (.iaload, 36, 0, 0, []), some (.aload_n 2, 37, 0, 0, []), some (.getfield 30, 40, 0, 0, []), none, none, some (.iload_n 3, 41, 0, 0, []), some (.iaload, 42, 0, 0, []), some (.invokevirtual 91, 45, 0, 0, []), none, none, some (.iinc 3 1, 48, 0, 1, []), none, none],
  [some (.goto (-46), 51, 2, 0, []), none, none, some (.aload_n 0, 52, 0, 0, []), some (.dup, 53, 0, 0, []), some (.getfield 41, 56, 0, 0, []), none, none, some (.iconst 1, 57, 0, 1, []), some (.iadd, 58, 0, 0, []), some (.putfield 41, 61, 0, 0, []), none, none, some (.return_, 62, 0, 0, [])]]
def m_X0_danceSet : MT := ((cd_X0_danceSet, 0, 0, 0, 0), (yX0_danceSet, cX0_danceSet, 4, none))
def cd_X0_firstOtherwise : List (List (Option Ent)) := [[some (.iconst 0, 1, 0, 0, []), some (.istore_n 3, 2, 0, 0, []), some (.iload_n 3, 3, 0, 0, []), some (.aload_n 1, 4, 0, 0, []), some (.getfield 141, 7, 0, 0, []), none, none, some (.if_icmp .ge 26, 10, 33, 0, []), none, none, some (.aload_n 0, 11, 0, 0, []), some (.iload_n 2, 12, 0, 0, []), some (.iload_n 3, 13, 0, 0, []), some (.invokevirtual 88, 16, 0, 0, []), none, none],
  [some (.aload_n 1, 17, 0, 0, []), some (.getfield 146, 20, 0, 0, []), none, none, some (.iload_n 3, 21, 0, 0, []), some (.iaload, 22, 0, 0, []), some (.if_icmp .eq 5, 25, 27, 0, []), none, none, some (.iload_n 3, 26, 0, 0, []), some (.ireturn, 27, 0, 0, []), some (.iinc 3 1, 30, 0, 1, []), none, none, some (.goto (-28), 33, 2, 0, []), none],
  [none, some (.iconst (-1), 34, 0, (-1), []), some (.ireturn, 35, 0, 0, [])]]
def m_X0_firstOtherwise : MT := ((cd_X0_firstOtherwise, 0, 0, 0, 1), (yX0_firstOtherwise, cX0_firstOtherwise, 4, (some .int)))
def cd_X0_paysAs : List (List (Option Ent)) := [[some (.aload_n 0, 1, 0, 0, []), some (.aload_n 1, 2, 0, 0, []), some (.iload_n 2, 3, 0, 0, []), some (.invokevirtual 149, 6, 0, 0, []), none, none, some (.iconst (-1), 7, 0, (-1), []), some (.if_icmp .ne 7, 10, 14, 0, []), none, none, some (.iconst 1, 11, 0, 1, []), some (.goto 4, 14, 15, 0, []), none, none, some (.iconst 0, 15, 0, 0, []), some (.ireturn, 16, 0, 0, [])]]
def m_X0_paysAs : MT := ((cd_X0_paysAs, 0, 0, 0, 4), (yX0_paysAs, cX0_paysAs, 3, (some .boolean)))
def cd_X1_init : List (List (Option Ent)) := [[some (.aload_n 0, 1, 0, 0, []), some (.invokespecial 3, 4, 0, 0, []), none, none, some (.aload_n 0, 5, 0, 0, []), some (.sipush 160, 8, 0, 160, []), none, none, some (.newarray .int, 10, 0, 0, []), none, some (.putfield 9, 13, 0, 0, []), none, none, some (.aload_n 0, 14, 0, 0, []), some (.sipush 160, 17, 0, 160, []), none],
  [none, some (.newarray .int, 19, 0, 0, []), none, some (.putfield 15, 22, 0, 0, []), none, none, some (.aload_n 0, 23, 0, 0, []), some (.iconst 3, 24, 0, 3, []), some (.newarray .int, 26, 0, 0, []), none, some (.putfield 18, 29, 0, 0, []), none, none, some (.return_, 30, 0, 0, [])]]
def m_X1_init : MT := ((cd_X1_init, 1, 3, 323, 0), (yX1_init, cX1_init, 1, none))
def cd_X2_init : List (List (Option Ent)) := [[some (.aload_n 0, 1, 0, 0, []), some (.invokespecial 3, 4, 0, 0, []), none, none, some (.aload_n 0, 5, 0, 0, []), some (.bipush 6, 7, 0, 6, []), none, some (.anewarray 9, 10, 0, 0, []), none, none, some (.putfield 11, 13, 0, 0, []), none, none, some (.aload_n 0, 14, 0, 0, []), some (.bipush 6, 16, 0, 6, []), none],
  [some (.newarray .int, 18, 0, 0, []), none, some (.putfield 17, 21, 0, 0, []), none, none, some (.aload_n 0, 22, 0, 0, []), some (.sipush 160, 25, 0, 160, []), none, none, some (.newarray .int, 27, 0, 0, []), none, some (.putfield 21, 30, 0, 0, []), none, none, some (.iconst 3, 31, 0, 3, []), some (.newarray .int, 33, 0, 0, [])],
  [none, some (.dup, 34, 0, 0, []), some (.iconst 0, 35, 0, 0, []), some (.iconst 1, 36, 0, 1, []), some (.iastore, 37, 0, 0, []), some (.dup, 38, 0, 0, []), some (.iconst 1, 39, 0, 1, []), some (.iconst 1, 40, 0, 1, []), some (.iastore, 41, 0, 0, []), some (.dup, 42, 0, 0, []), some (.iconst 2, 43, 0, 2, []), some (.iconst 4, 44, 0, 4, []), some (.iastore, 45, 0, 0, []), some (.astore_n 1, 46, 0, 0, []), some (.iconst 3, 47, 0, 3, []), some (.newarray .int, 49, 0, 0, [])],
  [none, some (.dup, 50, 0, 0, []), some (.iconst 0, 51, 0, 0, []), some (.iconst 1, 52, 0, 1, []), some (.iastore, 53, 0, 0, []), some (.dup, 54, 0, 0, []), some (.iconst 1, 55, 0, 1, []), some (.iconst 2, 56, 0, 2, []), some (.iastore, 57, 0, 0, []), some (.dup, 58, 0, 0, []), some (.iconst 2, 59, 0, 2, []), some (.iconst 3, 60, 0, 3, []), some (.iastore, 61, 0, 0, []), some (.astore_n 2, 62, 0, 0, []), some (.aload_n 0, 63, 0, 0, []), some (.getfield 11, 66, 0, 0, [])],
  [none, none, some (.iconst 0, 67, 0, 0, []), some (.new 9, 70, 0, 0, []), none, none, some (.dup, 71, 0, 0, []), some (.aload_n 1, 72, 0, 0, []), some (.aload_n 2, 73, 0, 0, []), some (.invokespecial 24, 76, 0, 0, []), none, none, some (.aastore, 77, 0, 0, []), some (.aload_n 0, 78, 0, 0, []), some (.iconst 1, 79, 0, 1, []), some (.putfield 27, 82, 0, 0, [])],
  [none, none, some (.return_, 83, 0, 0, [])]]
def m_X2_init : MT := ((cd_X2_init, 2, 6, 180, 0), (yX2_init, cX2_init, 3, none))
def cd_X2_value : List (List (Option Ent)) := [[some (.iload_n 1, 1, 0, 0, []), some (.ifCond .lt 20, 4, 21, 0, []), none, none, some (.iload_n 1, 5, 0, 0, []), some (.aload_n 0, 6, 0, 0, []), some (.getfield 27, 9, 0, 0, []), none, none, some (.if_icmp .ge 12, 12, 21, 0, []), none, none, some (.aload_n 0, 13, 0, 0, []), some (.getfield 11, 16, 0, 0, []), none, none],
  [some (.iload_n 1, 17, 0, 0, []), some (.aaload, 18, 0, 0, []), some (.goto 4, 21, 22, 0, []), none, none, some (.aconst_null, 22, 0, 0, []), some (.astore_n 3, 23, 0, 0, []), some (.aload_n 3, 24, 0, 0, []), some (.ifnonnull 5, 27, 29, 0, []), none, none, some (.iconst 0, 28, 0, 0, []), some (.ireturn, 29, 0, 0, []), some (.iconst (-1), 30, 0, (-1), []), some (.istore 4, 32, 0, 0, []), none],
  [some (.iload_n 2, 33, 0, 0, []), some (.ifCond .ne 7, 36, 40, 0, []), none, none, some (.iconst 0, 37, 0, 0, []), some (.goto 11, 40, 48, 0, []), none, none, some (.aload_n 3, 41, 0, 0, []), some (.getfield 31, 44, 0, 0, []), none, none, some (.iload_n 2, 45, 0, 0, []), some (.iconst 1, 46, 0, 1, []), some (.isub, 47, 0, 0, []), some (.iaload, 48, 0, 0, [])],
  [some (.istore 5, 50, 0, 0, []), none, some (.iload 5, 52, 0, 0, []), none, some (.aload_n 3, 53, 0, 0, []), some (.getfield 31, 56, 0, 0, []), none, none, some (.iload_n 2, 57, 0, 0, []), some (.iaload, 58, 0, 0, []), some (.if_icmp .ge 370, 61, 428, 0, []), none, none, some (.aload_n 3, 62, 0, 0, []), some (.getfield 34, 65, 0, 0, []), none],
  [none, some (.iload 5, 67, 0, 0, []), none, some (.iaload, 68, 0, 0, []), some (.istore 6, 70, 0, 0, []), none, some (.iload 6, 72, 0, 0, []), none, some (.sipush 10006, 75, 0, 10006, []), none, none, some (.if_icmp .ge 52, 78, 127, 0, []), none, none, some (.iinc 4 1, 81, 0, 1, []), none],
  [none, some (.iload 4, 83, 0, 0, []), none, some (.aload_n 0, 84, 0, 0, []), some (.getfield 21, 87, 0, 0, []), none, none, some (.arraylength, 88, 0, 0, []), some (.if_icmp .lt 5, 91, 93, 0, []), none, none, some (.iconst 0, 92, 0, 0, []), some (.ireturn, 93, 0, 0, []), some (.aload_n 0, 94, 0, 0, []), some (.getfield 21, 97, 0, 0, []), none],
  [none, some (.iload 4, 99, 0, 0, []), none, some (.iload 6, 101, 0, 0, []), none, some (.sipush 10000, 104, 0, 10000, []), none, none, some (.if_icmp .ge 8, 107, 112, 0, []), none, none, some (.iload 6, 109, 0, 0, []), none, some (.goto 14, 112, 123, 0, []), none, none],
  [some (.aload_n 0, 113, 0, 0, []), some (.getfield 17, 116, 0, 0, []), none, none, some (.iload 6, 118, 0, 0, []), none, some (.sipush 10000, 121, 0, 10000, []), none, none, some (.isub, 122, 0, 0, []), some (.iaload, 123, 0, 0, []), some (.iastore, 124, 0, 0, []), some (.goto 298, 127, 422, 0, []), none, none, some (.iload 6, 129, 0, 0, [])],
  [none, some (.sipush 10008, 132, 0, 10008, []), none, none, some (.if_icmp .lt 6, 135, 138, 0, []), none, none, some (.iinc 4 (-1), 138, 0, (-1), []), none, none, some (.iload 4, 140, 0, 0, []), none, some (.ifCond .ge 5, 143, 145, 0, []), none, none, some (.iconst 0, 144, 0, 0, [])],
  [some (.ireturn, 145, 0, 0, []), some (.aload_n 0, 146, 0, 0, []), some (.getfield 21, 149, 0, 0, []), none, none, some (.iload 4, 151, 0, 0, []), none, some (.iaload, 152, 0, 0, []), some (.istore 7, 154, 0, 0, []), none, some (.iload 6, 156, 0, 0, []), none, some (.tableswitch 247 10006 10013 #[48, 61, 81, 113, 145, 174, 203, 225], 204, 403, 0, [(10006, 204), (10007, 217), (10008, 237), (10009, 269), (10010, 301), (10011, 330), (10012, 359), (10013, 381)]), none, none, none],
  [none, none, none, none, none, none, none, none, none, none, none, none, none, none, none, none],
  [none, none, none, none, none, none, none, none, none, none, none, none, none, none, none, none],
  [none, none, none, none, none, none, none, none, none, none, none, none, some (.aload_n 0, 205, 0, 0, []), some (.getfield 21, 208, 0, 0, []), none, none],
  [some (.iload 4, 210, 0, 0, []), none, some (.iload 7, 212, 0, 0, []), none, some (.ineg, 213, 0, 0, []), some (.iastore, 214, 0, 0, []), some (.goto 208, 217, 422, 0, []), none, none, some (.aload_n 0, 218, 0, 0, []), some (.getfield 21, 221, 0, 0, []), none, none, some (.iload 4, 223, 0, 0, []), none, some (.iload 7, 225, 0, 0, [])],
  [none, some (.ifCond .ne 7, 228, 232, 0, []), none, none, some (.iconst 1, 229, 0, 1, []), some (.goto 4, 232, 233, 0, []), none, none, some (.iconst 0, 233, 0, 0, []), some (.iastore, 234, 0, 0, []), some (.goto 188, 237, 422, 0, []), none, none, some (.aload_n 0, 238, 0, 0, []), some (.getfield 21, 241, 0, 0, []), none],
  [none, some (.iload 4, 243, 0, 0, []), none, some (.iload 7, 245, 0, 0, []), none, some (.ifCond .ne 15, 248, 260, 0, []), none, none, some (.aload_n 0, 249, 0, 0, []), some (.getfield 21, 252, 0, 0, []), none, none, some (.iload 4, 254, 0, 0, []), none, some (.iconst 1, 255, 0, 1, []), some (.iadd, 256, 0, 0, [])],
  [some (.iaload, 257, 0, 0, []), some (.ifCond .eq 7, 260, 264, 0, []), none, none, some (.iconst 1, 261, 0, 1, []), some (.goto 4, 264, 265, 0, []), none, none, some (.iconst 0, 265, 0, 0, []), some (.iastore, 266, 0, 0, []), some (.goto 156, 269, 422, 0, []), none, none, some (.aload_n 0, 270, 0, 0, []), some (.getfield 21, 273, 0, 0, []), none],
  [none, some (.iload 4, 275, 0, 0, []), none, some (.iload 7, 277, 0, 0, []), none, some (.ifCond .eq 19, 280, 296, 0, []), none, none, some (.aload_n 0, 281, 0, 0, []), some (.getfield 21, 284, 0, 0, []), none, none, some (.iload 4, 286, 0, 0, []), none, some (.iconst 1, 287, 0, 1, []), some (.iadd, 288, 0, 0, [])],
  [some (.iaload, 289, 0, 0, []), some (.ifCond .eq 7, 292, 296, 0, []), none, none, some (.iconst 1, 293, 0, 1, []), some (.goto 4, 296, 297, 0, []), none, none, some (.iconst 0, 297, 0, 0, []), some (.iastore, 298, 0, 0, []), some (.goto 124, 301, 422, 0, []), none, none, some (.aload_n 0, 302, 0, 0, []), some (.getfield 21, 305, 0, 0, []), none],
  [none, some (.iload 4, 307, 0, 0, []), none, some (.iload 7, 309, 0, 0, []), none, some (.aload_n 0, 310, 0, 0, []), some (.getfield 21, 313, 0, 0, []), none, none, some (.iload 4, 315, 0, 0, []), none, some (.iconst 1, 316, 0, 1, []), some (.iadd, 317, 0, 0, []), some (.iaload, 318, 0, 0, []), some (.if_icmp .ge 7, 321, 325, 0, []), none],
  [none, some (.iconst 1, 322, 0, 1, []), some (.goto 4, 325, 326, 0, []), none, none, some (.iconst 0, 326, 0, 0, []), some (.iastore, 327, 0, 0, []), some (.goto 95, 330, 422, 0, []), none, none, some (.aload_n 0, 331, 0, 0, []), some (.getfield 21, 334, 0, 0, []), none, none, some (.iload 4, 336, 0, 0, []), none],
  [some (.iload 7, 338, 0, 0, []), none, some (.aload_n 0, 339, 0, 0, []), some (.getfield 21, 342, 0, 0, []), none, none, some (.iload 4, 344, 0, 0, []), none, some (.iconst 1, 345, 0, 1, []), some (.iadd, 346, 0, 0, []), some (.iaload, 347, 0, 0, []), some (.if_icmp .ne 7, 350, 354, 0, []), none, none, some (.iconst 1, 351, 0, 1, []), some (.goto 4, 354, 355, 0, [])],
  [none, none, some (.iconst 0, 355, 0, 0, []), some (.iastore, 356, 0, 0, []), some (.goto 66, 359, 422, 0, []), none, none, some (.aload_n 0, 360, 0, 0, []), some (.getfield 21, 363, 0, 0, []), none, none, some (.iload 4, 365, 0, 0, []), none, some (.iload 7, 367, 0, 0, []), none, some (.aload_n 0, 368, 0, 0, [])],
  [some (.getfield 21, 371, 0, 0, []), none, none, some (.iload 4, 373, 0, 0, []), none, some (.iconst 1, 374, 0, 1, []), some (.iadd, 375, 0, 0, []), some (.iaload, 376, 0, 0, []), some (.iadd, 377, 0, 0, []), some (.iastore, 378, 0, 0, []), some (.goto 44, 381, 422, 0, []), none, none, some (.aload_n 0, 382, 0, 0, []), some (.getfield 21, 385, 0, 0, []), none],
  [none, some (.iload 4, 387, 0, 0, []), none, some (.iload 7, 389, 0, 0, []), none, some (.aload_n 0, 390, 0, 0, []), some (.getfield 21, 393, 0, 0, []), none, none, some (.iload 4, 395, 0, 0, []), none, some (.iconst 1, 396, 0, 1, []), some (.iadd, 397, 0, 0, []), some (.iaload, 398, 0, 0, []), some (.isub, 399, 0, 0, []), some (.iastore, 400, 0, 0, [])],
  [some (.goto 22, 403, 422, 0, []), none, none, some (.aload_n 0, 404, 0, 0, []), some (.getfield 21, 407, 0, 0, []), none, none, some (.iload 4, 409, 0, 0, []), none, some (.iload 7, 411, 0, 0, []), none, some (.aload_n 0, 412, 0, 0, []), some (.getfield 21, 415, 0, 0, []), none, none, some (.iload 4, 417, 0, 0, [])],
  [none, some (.iconst 1, 418, 0, 1, []), some (.iadd, 419, 0, 0, []), some (.iaload, 420, 0, 0, []), some (.imul, 421, 0, 0, []), some (.iastore, 422, 0, 0, []), some (.iinc 5 1, 425, 0, 1, []), none, none, some (.goto (-375), 428, 50, 0, []), none, none, some (.iload 4, 430, 0, 0, []), none, some (.ifCond .ge 7, 433, 437, 0, []), none],
  [none, some (.iconst 0, 434, 0, 0, []), some (.goto 10, 437, 444, 0, []), none, none, some (.aload_n 0, 438, 0, 0, []), some (.getfield 21, 441, 0, 0, []), none, none, some (.iload 4, 443, 0, 0, []), none, some (.iaload, 444, 0, 0, []), some (.ireturn, 445, 0, 0, [])]]
def m_X2_value : MT := ((cd_X2_value, 2, 0, 0, 1), (yX2_value, cX2_value, 8, (some .int)))
def cd_X3_init : List (List (Option Ent)) := [[some (.aload_n 0, 1, 0, 0, []), some (.invokespecial 3, 4, 0, 0, []), none, none, some (.aload_n 0, 5, 0, 0, []), some (.iconst (-1), 6, 0, (-1), []), some (.putfield 9, 9, 0, 0, []), none, none, some (.aload_n 0, 10, 0, 0, []), some (.bipush 40, 12, 0, 40, []), none, some (.newarray .int, 14, 0, 0, []), none, some (.putfield 15, 17, 0, 0, []), none],
  [none, some (.return_, 18, 0, 0, [])]]
def m_X3_init : MT := ((cd_X3_init, 3, 1, 40, 0), (yX3_init, cX3_init, 1, none))
def cd_X3_become : List (List (Option Ent)) := [[some (.aload_n 0, 1, 0, 0, []), some (.iload_n 1, 2, 0, 0, []), some (.putfield 9, 5, 0, 0, []), none, none, some (.aload_n 0, 6, 0, 0, []), some (.iload_n 2, 7, 0, 0, []), some (.putfield 19, 10, 0, 0, []), none, none, some (.iconst 0, 11, 0, 0, []), some (.istore_n 3, 12, 0, 0, []), some (.iload_n 3, 13, 0, 0, []), some (.aload_n 0, 14, 0, 0, []), some (.getfield 15, 17, 0, 0, []), none],
  [none, some (.arraylength, 18, 0, 0, []), some (.if_icmp .ge 16, 21, 34, 0, []), none, none, some (.aload_n 0, 22, 0, 0, []), some (.getfield 15, 25, 0, 0, []), none, none, some (.iload_n 3, 26, 0, 0, []), some (.iconst 0, 27, 0, 0, []), some (.iastore, 28, 0, 0, []), some (.iinc 3 1, 31, 0, 1, []), none, none, some (.goto (-19), 34, 12, 0, [])],
  [none, none, some (.return_, 35, 0, 0, [])]]
def m_X3_become : MT := ((cd_X3_become, 3, 0, 0, 0), (yX3_become, cX3_become, 4, none))
def cd_X3_put : List (List (Option Ent)) := [[some (.aload_n 0, 1, 0, 0, []), some (.getfield 15, 4, 0, 0, []), none, none, some (.iload_n 1, 5, 0, 0, []), some (.aload_n 0, 6, 0, 0, []), some (.getfield 9, 9, 0, 0, []), none, none, some (.ifCond .ne 8, 12, 17, 0, []), none, none, some (.iload_n 2, 13, 0, 0, []), some (.i2b, 14, 0, 0, []), some (.goto 17, 17, 31, 0, []), none],
  [none, some (.aload_n 0, 18, 0, 0, []), some (.getfield 9, 21, 0, 0, []), none, none, some (.iconst 1, 22, 0, 1, []), some (.if_icmp .ne 8, 25, 30, 0, []), none, none, some (.iload_n 2, 26, 0, 0, []), some (.i2s, 27, 0, 0, []), some (.goto 4, 30, 31, 0, []), none, none, some (.iload_n 2, 31, 0, 0, []), some (.iastore, 32, 0, 0, [])],
  [some (.return_, 33, 0, 0, [])]]
def m_X3_put : MT := ((cd_X3_put, 3, 0, 0, 0), (yX3_put, cX3_put, 3, none))
def cd_X4_init : List (List (Option Ent)) := [[some (.aload_n 0, 1, 0, 0, []), some (.invokespecial 1, 4, 0, 0, []), none, none, some (.aload_n 0, 5, 0, 0, []), some (.aload_n 1, 6, 0, 0, []), some (.putfield 7, 9, 0, 0, []), none, none, some (.aload_n 0, 10, 0, 0, []), some (.aload_n 2, 11, 0, 0, []), some (.putfield 13, 14, 0, 0, []), none, none, some (.return_, 15, 0, 0, [])]]
def m_X4_init : MT := ((cd_X4_init, 4, 0, 0, 0), (yX4_init, cX4_init, 3, none))
def cd_X5_init : List (List (Option Ent)) := [[some (.aload_n 0, 1, 0, 0, []), some (.invokespecial 1, 4, 0, 0, []), none, none, some (.aload_n 0, 5, 0, 0, []), some (.new 7, 8, 0, 0, []), none, none, some (.dup, 9, 0, 0, []), some (.invokespecial 9, 12, 0, 0, []), none, none, some (.putfield 10, 15, 0, 0, []), none, none, some (.aload_n 0, 16, 0, 0, [])],
  [some (.new 16, 19, 0, 0, []), none, none, some (.dup, 20, 0, 0, []), some (.aload_n 0, 21, 0, 0, []), some (.getfield 10, 24, 0, 0, []), none, none, some (.invokespecial 18, 27, 0, 0, []), none, none, some (.putfield 21, 30, 0, 0, []), none, none, some (.aload_n 0, 31, 0, 0, []), some (.new 16, 34, 0, 0, [])],
  [none, none, some (.dup, 35, 0, 0, []), some (.aload_n 0, 36, 0, 0, []), some (.getfield 10, 39, 0, 0, []), none, none, some (.invokespecial 18, 42, 0, 0, []), none, none, some (.putfield 25, 45, 0, 0, []), none, none, some (.aload_n 0, 46, 0, 0, []), some (.iconst 3, 47, 0, 3, []), some (.anewarray 16, 50, 0, 0, [])],
  [none, none, some (.dup, 51, 0, 0, []), some (.iconst 0, 52, 0, 0, []), some (.new 16, 55, 0, 0, []), none, none, some (.dup, 56, 0, 0, []), some (.aload_n 0, 57, 0, 0, []), some (.getfield 10, 60, 0, 0, []), none, none, some (.invokespecial 18, 63, 0, 0, []), none, none, some (.aastore, 64, 0, 0, [])],
  [some (.dup, 65, 0, 0, []), some (.iconst 1, 66, 0, 1, []), some (.new 16, 69, 0, 0, []), none, none, some (.dup, 70, 0, 0, []), some (.aload_n 0, 71, 0, 0, []), some (.getfield 10, 74, 0, 0, []), none, none, some (.invokespecial 18, 77, 0, 0, []), none, none, some (.aastore, 78, 0, 0, []), some (.dup, 79, 0, 0, []), some (.iconst 2, 80, 0, 2, [])],
  [some (.new 16, 83, 0, 0, []), none, none, some (.dup, 84, 0, 0, []), some (.aload_n 0, 85, 0, 0, []), some (.getfield 10, 88, 0, 0, []), none, none, some (.invokespecial 18, 91, 0, 0, []), none, none, some (.aastore, 92, 0, 0, []), some (.putfield 28, 95, 0, 0, []), none, none, some (.aload_n 0, 96, 0, 0, [])],
  [some (.new 32, 99, 0, 0, []), none, none, some (.dup, 100, 0, 0, []), some (.invokespecial 34, 103, 0, 0, []), none, none, some (.putfield 35, 106, 0, 0, []), none, none, some (.aload_n 0, 107, 0, 0, []), some (.iconst 4, 108, 0, 4, []), some (.anewarray 39, 111, 0, 0, []), none, none, some (.dup, 112, 0, 0, [])],
  [some (.iconst 0, 113, 0, 0, []), some (.new 39, 116, 0, 0, []), none, none, some (.dup, 117, 0, 0, []), some (.invokespecial 41, 120, 0, 0, []), none, none, some (.aastore, 121, 0, 0, []), some (.dup, 122, 0, 0, []), some (.iconst 1, 123, 0, 1, []), some (.new 39, 126, 0, 0, []), none, none, some (.dup, 127, 0, 0, []), some (.invokespecial 41, 130, 0, 0, [])],
  [none, none, some (.aastore, 131, 0, 0, []), some (.dup, 132, 0, 0, []), some (.iconst 2, 133, 0, 2, []), some (.new 39, 136, 0, 0, []), none, none, some (.dup, 137, 0, 0, []), some (.invokespecial 41, 140, 0, 0, []), none, none, some (.aastore, 141, 0, 0, []), some (.dup, 142, 0, 0, []), some (.iconst 3, 143, 0, 3, []), some (.new 39, 146, 0, 0, [])],
  [none, none, some (.dup, 147, 0, 0, []), some (.invokespecial 41, 150, 0, 0, []), none, none, some (.aastore, 151, 0, 0, []), some (.putfield 42, 154, 0, 0, []), none, none, some (.aload_n 0, 155, 0, 0, []), some (.iconst 5, 156, 0, 5, []), some (.newarray .int, 158, 0, 0, []), none, some (.putfield 46, 161, 0, 0, []), none],
  [none, some (.return_, 162, 0, 0, [])]]
def m_X5_init : MT := ((cd_X5_init, 5, 57, 1066, 0), (yX5_init, cX5_init, 1, none))
def cd_X5_set : List (List (Option Ent)) := [[some (.iload_n 1, 1, 0, 0, []), some (.ifCond .lt 24, 4, 25, 0, []), none, none, some (.iload_n 1, 5, 0, 0, []), some (.getstatic 50, 8, 0, 0, []), none, none, some (.arraylength, 9, 0, 0, []), some (.if_icmp .ge 16, 12, 25, 0, []), none, none, some (.iload_n 3, 13, 0, 0, []), some (.ifCond .lt 12, 16, 25, 0, []), none, none],
  [some (.iload_n 3, 17, 0, 0, []), some (.getstatic 50, 20, 0, 0, []), none, none, some (.iload_n 1, 21, 0, 0, []), some (.iaload, 22, 0, 0, []), some (.if_icmp .le 6, 25, 28, 0, []), none, none, some (.bipush (-2), 27, 0, (-2), []), none, some (.ireturn, 28, 0, 0, []), some (.aload_n 0, 29, 0, 0, []), some (.iload_n 2, 30, 0, 0, []), some (.iload_n 1, 31, 0, 0, []), some (.invokevirtual 53, 34, 0, 0, [])],
  [none, none, some (.istore 4, 36, 0, 0, []), none, some (.iload 4, 38, 0, 0, []), none, some (.ifCond .ge 6, 41, 44, 0, []), none, none, some (.bipush (-2), 43, 0, (-2), []), none, some (.ireturn, 44, 0, 0, []), some (.iload_n 1, 45, 0, 0, []), some (.tableswitch 79 0 3 #[31, 42, 53, 66], 76, 124, 0, [(0, 76), (1, 87), (2, 98), (3, 111)]), none, none],
  [none, none, none, none, none, none, none, none, none, none, none, none, none, none, none, none],
  [none, none, none, none, none, none, none, none, none, none, none, none, some (.aload_n 0, 77, 0, 0, []), some (.getfield 21, 80, 0, 0, []), none, none],
  [some (.iload_n 3, 81, 0, 0, []), some (.putfield 57, 84, 0, 0, []), none, none, some (.goto 54, 87, 138, 0, []), none, none, some (.aload_n 0, 88, 0, 0, []), some (.getfield 21, 91, 0, 0, []), none, none, some (.iload_n 3, 92, 0, 0, []), some (.putfield 61, 95, 0, 0, []), none, none, some (.goto 43, 98, 138, 0, [])],
  [none, none, some (.aload_n 0, 99, 0, 0, []), some (.getfield 21, 102, 0, 0, []), none, none, some (.getfield 64, 105, 0, 0, []), none, none, some (.iload_n 2, 106, 0, 0, []), some (.iload_n 3, 107, 0, 0, []), some (.iastore, 108, 0, 0, []), some (.goto 30, 111, 138, 0, []), none, none, some (.aload_n 0, 112, 0, 0, [])],
  [some (.getfield 21, 115, 0, 0, []), none, none, some (.getfield 67, 118, 0, 0, []), none, none, some (.iload_n 2, 119, 0, 0, []), some (.iload_n 3, 120, 0, 0, []), some (.iastore, 121, 0, 0, []), some (.goto 17, 124, 138, 0, []), none, none, some (.aload_n 0, 125, 0, 0, []), some (.getfield 21, 128, 0, 0, []), none, none],
  [some (.getfield 70, 131, 0, 0, []), none, none, some (.aload_n 0, 132, 0, 0, []), some (.iload_n 2, 133, 0, 0, []), some (.invokevirtual 73, 136, 0, 0, []), none, none, some (.iload_n 3, 137, 0, 0, []), some (.iastore, 138, 0, 0, []), some (.iload 4, 140, 0, 0, []), none, some (.ireturn, 141, 0, 0, [])]]
def m_X5_set : MT := ((cd_X5_set, 5, 0, 0, 1), (yX5_set, cX5_set, 5, (some .int)))
def cd_X5_dancer : List (List (Option Ent)) := [[some (.iload_n 1, 1, 0, 0, []), some (.ifCond .lt 19, 4, 20, 0, []), none, none, some (.iload_n 1, 5, 0, 0, []), some (.bipush 6, 7, 0, 6, []), none, some (.if_icmp .ge 13, 10, 20, 0, []), none, none, some (.iload_n 2, 11, 0, 0, []), some (.ifCond .lt 9, 14, 20, 0, []), none, none, some (.iload_n 2, 15, 0, 0, []), some (.bipush 9, 17, 0, 9, [])],
  [none, some (.if_icmp .le 6, 20, 23, 0, []), none, none, some (.bipush (-2), 22, 0, (-2), []), none, some (.ireturn, 23, 0, 0, []), some (.aload_n 0, 24, 0, 0, []), some (.getfield 21, 27, 0, 0, []), none, none, some (.getfield 77, 30, 0, 0, []), none, none, some (.iconst 5, 31, 0, 5, []), some (.if_icmp .lt 6, 34, 37, 0, [])],
  [none, none, some (.bipush (-4), 36, 0, (-4), []), none, some (.ireturn, 37, 0, 0, []), some (.aload_n 0, 38, 0, 0, []), some (.getfield 21, 41, 0, 0, []), none, none, some (.iload_n 1, 42, 0, 0, []), some (.iload_n 2, 43, 0, 0, []), some (.invokevirtual 80, 46, 0, 0, []), none, none, some (.ireturn, 47, 0, 0, [])]]
def m_X5_dancer : MT := ((cd_X5_dancer, 5, 0, 0, 1), (yX5_dancer, cX5_dancer, 3, (some .int)))
def cd_X5_told : List (List (Option Ent)) := [[some (.iload_n 2, 1, 0, 0, []), some (.ifCond .ne 11, 4, 12, 0, []), none, none, some (.aload_n 0, 5, 0, 0, []), some (.getfield 21, 8, 0, 0, []), none, none, some (.getfield 57, 11, 0, 0, []), none, none, some (.ireturn, 12, 0, 0, []), some (.iload_n 2, 13, 0, 0, []), some (.iconst 1, 14, 0, 1, []), some (.if_icmp .ne 11, 17, 25, 0, []), none],
  [none, some (.aload_n 0, 18, 0, 0, []), some (.getfield 21, 21, 0, 0, []), none, none, some (.getfield 61, 24, 0, 0, []), none, none, some (.ireturn, 25, 0, 0, []), some (.iload_n 2, 26, 0, 0, []), some (.iconst 4, 27, 0, 4, []), some (.if_icmp .ne 28, 30, 55, 0, []), none, none, some (.aload_n 0, 31, 0, 0, []), some (.iload_n 1, 32, 0, 0, [])],
  [some (.invokevirtual 73, 35, 0, 0, []), none, none, some (.istore_n 3, 36, 0, 0, []), some (.iload_n 3, 37, 0, 0, []), some (.ifCond .ge 8, 40, 45, 0, []), none, none, some (.bipush (-2), 42, 0, (-2), []), none, some (.goto 12, 45, 54, 0, []), none, none, some (.aload_n 0, 46, 0, 0, []), some (.getfield 21, 49, 0, 0, []), none],
  [none, some (.getfield 70, 52, 0, 0, []), none, none, some (.iload_n 3, 53, 0, 0, []), some (.iaload, 54, 0, 0, []), some (.ireturn, 55, 0, 0, []), some (.aload_n 0, 56, 0, 0, []), some (.iload_n 1, 57, 0, 0, []), some (.invokevirtual 83, 60, 0, 0, []), none, none, some (.ifCond .ne 6, 63, 66, 0, []), none, none, some (.bipush (-2), 65, 0, (-2), [])],
  [none, some (.ireturn, 66, 0, 0, []), some (.iload_n 2, 67, 0, 0, []), some (.tableswitch 98 2 8 #[41, 51, 98, 61, 71, 80, 89], 108, 165, 0, [(2, 108), (3, 118), (4, 165), (5, 128), (6, 138), (7, 147), (8, 156)]), none, none, none, none, none, none, none, none, none, none, none, none],
  [none, none, none, none, none, none, none, none, none, none, none, none, none, none, none, none],
  [none, none, none, none, none, none, none, none, none, none, none, none, some (.aload_n 0, 109, 0, 0, []), some (.getfield 21, 112, 0, 0, []), none, none],
  [some (.getfield 64, 115, 0, 0, []), none, none, some (.iload_n 1, 116, 0, 0, []), some (.iaload, 117, 0, 0, []), some (.ireturn, 118, 0, 0, []), some (.aload_n 0, 119, 0, 0, []), some (.getfield 21, 122, 0, 0, []), none, none, some (.getfield 67, 125, 0, 0, []), none, none, some (.iload_n 1, 126, 0, 0, []), some (.iaload, 127, 0, 0, []), some (.ireturn, 128, 0, 0, [])],
  [some (.aload_n 0, 129, 0, 0, []), some (.getfield 21, 132, 0, 0, []), none, none, some (.getfield 87, 135, 0, 0, []), none, none, some (.iload_n 1, 136, 0, 0, []), some (.iaload, 137, 0, 0, []), some (.ireturn, 138, 0, 0, []), some (.aload_n 0, 139, 0, 0, []), some (.getfield 21, 142, 0, 0, []), none, none, some (.iload_n 1, 143, 0, 0, []), some (.invokevirtual 90, 146, 0, 0, [])],
  [none, none, some (.ireturn, 147, 0, 0, []), some (.aload_n 0, 148, 0, 0, []), some (.getfield 21, 151, 0, 0, []), none, none, some (.iload_n 1, 152, 0, 0, []), some (.invokevirtual 93, 155, 0, 0, []), none, none, some (.ireturn, 156, 0, 0, []), some (.aload_n 0, 157, 0, 0, []), some (.getfield 21, 160, 0, 0, []), none, none],
  [some (.iload_n 1, 161, 0, 0, []), some (.invokevirtual 96, 164, 0, 0, []), none, none, some (.ireturn, 165, 0, 0, []), some (.bipush (-2), 167, 0, (-2), []), none, some (.ireturn, 168, 0, 0, [])]]
def m_X5_told : MT := ((cd_X5_told, 5, 0, 0, 1), (yX5_told, cX5_told, 4, (some .int)))
def cd_X5_asks : List (List (Option Ent)) := [[some (.aload_n 0, 1, 0, 0, []), some (.iload_n 1, 2, 0, 0, []), some (.iload_n 2, 3, 0, 0, []), some (.invokevirtual 99, 6, 0, 0, []), none, none, some (.ifCond .ne 6, 9, 12, 0, []), none, none, some (.bipush (-2), 11, 0, (-2), []), none, some (.ireturn, 12, 0, 0, []), some (.iload_n 3, 13, 0, 0, []), some (.tableswitch 81 0 2 #[27, 45, 63], 40, 94, 0, [(0, 40), (1, 58), (2, 76)]), none, none],
  [none, none, none, none, none, none, none, none, none, none, none, none, none, none, none, none],
  [none, none, none, none, none, none, none, none, some (.aload_n 0, 41, 0, 0, []), some (.getfield 21, 44, 0, 0, []), none, none, some (.iload_n 1, 45, 0, 0, []), some (.aload_n 0, 46, 0, 0, []), some (.getfield 21, 49, 0, 0, []), none],
  [none, some (.iload_n 1, 50, 0, 0, []), some (.iload_n 2, 51, 0, 0, []), some (.invokevirtual 103, 54, 0, 0, []), none, none, some (.invokevirtual 106, 57, 0, 0, []), none, none, some (.ireturn, 58, 0, 0, []), some (.aload_n 0, 59, 0, 0, []), some (.getfield 21, 62, 0, 0, []), none, none, some (.iload_n 1, 63, 0, 0, []), some (.iload_n 2, 64, 0, 0, [])],
  [some (.invokevirtual 109, 67, 0, 0, []), none, none, some (.ifCond .eq 7, 70, 74, 0, []), none, none, some (.iconst 1, 71, 0, 1, []), some (.goto 4, 74, 75, 0, []), none, none, some (.iconst 0, 75, 0, 0, []), some (.ireturn, 76, 0, 0, []), some (.aload_n 0, 77, 0, 0, []), some (.getfield 21, 80, 0, 0, []), none, none],
  [some (.iload_n 1, 81, 0, 0, []), some (.iload_n 2, 82, 0, 0, []), some (.invokevirtual 112, 85, 0, 0, []), none, none, some (.ifCond .eq 7, 88, 92, 0, []), none, none, some (.iconst 1, 89, 0, 1, []), some (.goto 4, 92, 93, 0, []), none, none, some (.iconst 0, 93, 0, 0, []), some (.ireturn, 94, 0, 0, []), some (.bipush (-2), 96, 0, (-2), []), none],
  [some (.ireturn, 97, 0, 0, [])]]
def m_X5_asks : MT := ((cd_X5_asks, 5, 0, 0, 1), (yX5_asks, cX5_asks, 4, (some .int)))
def cd_X5_isDancer : List (List (Option Ent)) := [[some (.iload_n 1, 1, 0, 0, []), some (.ifCond .lt 18, 4, 19, 0, []), none, none, some (.iload_n 1, 5, 0, 0, []), some (.aload_n 0, 6, 0, 0, []), some (.getfield 21, 9, 0, 0, []), none, none, some (.getfield 77, 12, 0, 0, []), none, none, some (.if_icmp .ge 7, 15, 19, 0, []), none, none, some (.iconst 1, 16, 0, 1, [])],
  [some (.goto 4, 19, 20, 0, []), none, none, some (.iconst 0, 20, 0, 0, []), some (.ireturn, 21, 0, 0, [])]]
def m_X5_isDancer : MT := ((cd_X5_isDancer, 5, 0, 0, 4), (yX5_isDancer, cX5_isDancer, 2, (some .boolean)))
def cd_X5_isTwo : List (List (Option Ent)) := [[some (.aload_n 0, 1, 0, 0, []), some (.iload_n 1, 2, 0, 0, []), some (.invokevirtual 83, 5, 0, 0, []), none, none, some (.ifCond .eq 20, 8, 25, 0, []), none, none, some (.aload_n 0, 9, 0, 0, []), some (.iload_n 2, 10, 0, 0, []), some (.invokevirtual 83, 13, 0, 0, []), none, none, some (.ifCond .eq 12, 16, 25, 0, []), none, none],
  [some (.iload_n 1, 17, 0, 0, []), some (.iload_n 2, 18, 0, 0, []), some (.if_icmp .eq 7, 21, 25, 0, []), none, none, some (.iconst 1, 22, 0, 1, []), some (.goto 4, 25, 26, 0, []), none, none, some (.iconst 0, 26, 0, 0, []), some (.ireturn, 27, 0, 0, [])]]
def m_X5_isTwo : MT := ((cd_X5_isTwo, 5, 0, 0, 4), (yX5_isTwo, cX5_isTwo, 3, (some .boolean)))
def cd_X5_debtPlace : List (List (Option Ent)) := [[some (.iload_n 1, 1, 0, 0, []), some (.bipush 10, 3, 0, 10, []), none, some (.idiv, 4, 0, 0, []), some (.istore_n 2, 5, 0, 0, []), some (.iload_n 1, 6, 0, 0, []), some (.bipush 10, 8, 0, 10, []), none, some (.irem, 9, 0, 0, []), some (.istore_n 3, 10, 0, 0, []), some (.iload_n 1, 11, 0, 0, []), some (.ifCond .lt 20, 14, 31, 0, []), none, none, some (.aload_n 0, 15, 0, 0, []), some (.iload_n 2, 16, 0, 0, [])],
  [some (.iload_n 3, 17, 0, 0, []), some (.invokevirtual 99, 20, 0, 0, []), none, none, some (.ifCond .eq 11, 23, 31, 0, []), none, none, some (.iload_n 2, 24, 0, 0, []), some (.iconst 5, 25, 0, 5, []), some (.imul, 26, 0, 0, []), some (.iload_n 3, 27, 0, 0, []), some (.iadd, 28, 0, 0, []), some (.goto 4, 31, 32, 0, []), none, none, some (.iconst (-1), 32, 0, (-1), [])],
  [some (.ireturn, 33, 0, 0, [])]]
def m_X5_debtPlace : MT := ((cd_X5_debtPlace, 5, 0, 0, 1), (yX5_debtPlace, cX5_debtPlace, 4, (some .int)))
def cd_X5_round : List (List (Option Ent)) := [[some (.aload_n 0, 1, 0, 0, []), some (.getfield 21, 4, 0, 0, []), none, none, some (.getfield 57, 7, 0, 0, []), none, none, some (.sipush 999, 10, 0, 999, []), none, none, some (.if_icmp .lt 8, 13, 18, 0, []), none, none, some (.bipush (-3), 15, 0, (-3), []), none, some (.goto 10, 18, 25, 0, [])],
  [none, none, some (.aload_n 0, 19, 0, 0, []), some (.getfield 21, 22, 0, 0, []), none, none, some (.invokevirtual 141, 25, 0, 0, []), none, none, some (.ireturn, 26, 0, 0, [])]]
def m_X5_round : MT := ((cd_X5_round, 5, 0, 0, 1), (yX5_round, cX5_round, 1, (some .int)))
def cd_X5_night : List (List (Option Ent)) := [[some (.aload_n 0, 1, 0, 0, []), some (.getfield 21, 4, 0, 0, []), none, none, some (.getfield 61, 7, 0, 0, []), none, none, some (.sipush 999, 10, 0, 999, []), none, none, some (.if_icmp .lt 8, 13, 18, 0, []), none, none, some (.bipush (-3), 15, 0, (-3), []), none, some (.goto 10, 18, 25, 0, [])],
  [none, none, some (.aload_n 0, 19, 0, 0, []), some (.getfield 21, 22, 0, 0, []), none, none, some (.invokevirtual 145, 25, 0, 0, []), none, none, some (.ireturn, 26, 0, 0, [])]]
def m_X5_night : MT := ((cd_X5_night, 5, 0, 0, 1), (yX5_night, cX5_night, 1, (some .int)))
def cd_X5_strike : List (List (Option Ent)) := [[some (.aload_n 0, 1, 0, 0, []), some (.iload_n 1, 2, 0, 0, []), some (.invokevirtual 148, 5, 0, 0, []), none, none, some (.istore_n 2, 6, 0, 0, []), some (.iload_n 2, 7, 0, 0, []), some (.iconst 2, 8, 0, 2, []), some (.if_icmp .ge 6, 11, 14, 0, []), none, none, some (.bipush (-2), 13, 0, (-2), []), none, some (.ireturn, 14, 0, 0, []), some (.bipush 99, 16, 0, 99, []), none],
  [some (.istore_n 3, 17, 0, 0, []), some (.iconst 0, 18, 0, 0, []), some (.istore 4, 20, 0, 0, []), none, some (.iload 4, 22, 0, 0, []), none, some (.iload_n 2, 23, 0, 0, []), some (.if_icmp .ge 39, 26, 62, 0, []), none, none, some (.iload_n 3, 27, 0, 0, []), some (.aload_n 0, 28, 0, 0, []), some (.getfield 21, 31, 0, 0, []), none, none, some (.aload_n 0, 32, 0, 0, [])],
  [some (.getfield 46, 35, 0, 0, []), none, none, some (.iload 4, 37, 0, 0, []), none, some (.iconst 1, 38, 0, 1, []), some (.iadd, 39, 0, 0, []), some (.iload_n 2, 40, 0, 0, []), some (.irem, 41, 0, 0, []), some (.iaload, 42, 0, 0, []), some (.aload_n 0, 43, 0, 0, []), some (.getfield 46, 46, 0, 0, []), none, none, some (.iload 4, 48, 0, 0, []), none],
  [some (.iaload, 49, 0, 0, []), some (.invokevirtual 103, 52, 0, 0, []), none, none, some (.invokestatic 151, 55, 0, 0, []), none, none, some (.istore_n 3, 56, 0, 0, []), some (.iinc 4 1, 59, 0, 1, []), none, none, some (.goto (-39), 62, 20, 0, []), none, none, some (.iload_n 3, 63, 0, 0, []), some (.ifCond .ne 6, 66, 69, 0, [])],
  [none, none, some (.bipush (-3), 68, 0, (-3), []), none, some (.ireturn, 69, 0, 0, []), some (.iconst 0, 70, 0, 0, []), some (.istore 4, 72, 0, 0, []), none, some (.iload 4, 74, 0, 0, []), none, some (.iload_n 2, 75, 0, 0, []), some (.if_icmp .ge 35, 78, 110, 0, []), none, none, some (.aload_n 0, 79, 0, 0, []), some (.getfield 21, 82, 0, 0, [])],
  [none, none, some (.aload_n 0, 83, 0, 0, []), some (.getfield 46, 86, 0, 0, []), none, none, some (.iload 4, 88, 0, 0, []), none, some (.iconst 1, 89, 0, 1, []), some (.iadd, 90, 0, 0, []), some (.iload_n 2, 91, 0, 0, []), some (.irem, 92, 0, 0, []), some (.iaload, 93, 0, 0, []), some (.aload_n 0, 94, 0, 0, []), some (.getfield 46, 97, 0, 0, []), none],
  [none, some (.iload 4, 99, 0, 0, []), none, some (.iaload, 100, 0, 0, []), some (.iload_n 3, 101, 0, 0, []), some (.invokevirtual 156, 104, 0, 0, []), none, none, some (.iinc 4 1, 107, 0, 1, []), none, none, some (.goto (-35), 110, 72, 0, []), none, none, some (.iload_n 3, 111, 0, 0, []), some (.ireturn, 112, 0, 0, [])]]
def m_X5_strike : MT := ((cd_X5_strike, 5, 0, 0, 1), (yX5_strike, cX5_strike, 5, (some .int)))
def cd_X5_readRing : List (List (Option Ent)) := [[some (.iconst 0, 1, 0, 0, []), some (.istore_n 2, 2, 0, 0, []), some (.iload_n 1, 3, 0, 0, []), some (.istore_n 3, 4, 0, 0, []), some (.iconst 0, 5, 0, 0, []), some (.istore 4, 7, 0, 0, []), none, some (.iload 4, 9, 0, 0, []), none, some (.aload_n 0, 10, 0, 0, []), some (.getfield 46, 13, 0, 0, []), none, none, some (.arraylength, 14, 0, 0, []), some (.if_icmp .ge 63, 17, 77, 0, []), none],
  [none, some (.iload_n 3, 18, 0, 0, []), some (.ifCond .le 59, 21, 77, 0, []), none, none, some (.iload_n 3, 22, 0, 0, []), some (.bipush 10, 24, 0, 10, []), none, some (.irem, 25, 0, 0, []), some (.iconst 1, 26, 0, 1, []), some (.isub, 27, 0, 0, []), some (.istore 5, 29, 0, 0, []), none, some (.aload_n 0, 30, 0, 0, []), some (.iload 5, 32, 0, 0, []), none],
  [some (.invokevirtual 83, 35, 0, 0, []), none, none, some (.ifCond .eq 13, 38, 48, 0, []), none, none, some (.iload_n 2, 39, 0, 0, []), some (.iload 5, 41, 0, 0, []), none, some (.ishr, 42, 0, 0, []), some (.iconst 1, 43, 0, 1, []), some (.iand, 44, 0, 0, []), some (.iconst 1, 45, 0, 1, []), some (.if_icmp .ne 5, 48, 50, 0, []), none, none],
  [some (.iconst 0, 49, 0, 0, []), some (.ireturn, 50, 0, 0, []), some (.aload_n 0, 51, 0, 0, []), some (.getfield 46, 54, 0, 0, []), none, none, some (.iload 4, 56, 0, 0, []), none, some (.iload 5, 58, 0, 0, []), none, some (.iastore, 59, 0, 0, []), some (.iload_n 2, 60, 0, 0, []), some (.iconst 1, 61, 0, 1, []), some (.iload 5, 63, 0, 0, []), none, some (.ishl, 64, 0, 0, [])],
  [some (.ior, 65, 0, 0, []), some (.istore_n 2, 66, 0, 0, []), some (.iload_n 3, 67, 0, 0, []), some (.bipush 10, 69, 0, 10, []), none, some (.idiv, 70, 0, 0, []), some (.istore_n 3, 71, 0, 0, []), some (.iinc 4 1, 74, 0, 1, []), none, none, some (.goto (-67), 77, 7, 0, []), none, none, some (.iload_n 3, 78, 0, 0, []), some (.ifCond .ne 8, 81, 86, 0, []), none],
  [none, some (.iload 4, 83, 0, 0, []), none, some (.goto 4, 86, 87, 0, []), none, none, some (.iconst 0, 87, 0, 0, []), some (.ireturn, 88, 0, 0, [])]]
def m_X5_readRing : MT := ((cd_X5_readRing, 5, 0, 0, 1), (yX5_readRing, cX5_readRing, 6, (some .int)))
def cd_X5_run : List (List (Option Ent)) := [[some (.iload_n 1, 1, 0, 0, []), some (.ifCond .lt 35, 4, 36, 0, []), none, none, some (.iload_n 1, 5, 0, 0, []), some (.bipush 40, 7, 0, 40, []), none, some (.if_icmp .gt 29, 10, 36, 0, []), none, none, some (.iload 4, 12, 0, 0, []), none, some (.ifCond .lt 24, 15, 36, 0, []), none, none, some (.iload 4, 17, 0, 0, [])],
  [none, some (.iconst 2, 18, 0, 2, []), some (.if_icmp .gt 18, 21, 36, 0, []), none, none, some (.iload 4, 23, 0, 0, []), none, some (.iconst 2, 24, 0, 2, []), some (.if_icmp .ne 15, 27, 39, 0, []), none, none, some (.aload_n 0, 28, 0, 0, []), some (.iload_n 2, 29, 0, 0, []), some (.iload_n 3, 30, 0, 0, []), some (.invokevirtual 99, 33, 0, 0, []), none],
  [none, some (.ifCond .ne 6, 36, 39, 0, []), none, none, some (.bipush (-2), 38, 0, (-2), []), none, some (.ireturn, 39, 0, 0, []), some (.aload_n 0, 40, 0, 0, []), some (.invokevirtual 160, 43, 0, 0, []), none, none, some (.astore 5, 45, 0, 0, []), none, some (.iconst 0, 46, 0, 0, []), some (.istore 6, 48, 0, 0, []), none],
  [some (.iload 6, 50, 0, 0, []), none, some (.iload_n 1, 51, 0, 0, []), some (.if_icmp .ge 15, 54, 66, 0, []), none, none, some (.aload 5, 56, 0, 0, []), none, some (.invokevirtual 141, 59, 0, 0, []), none, none, some (.pop, 60, 0, 0, []), some (.iinc 6 1, 63, 0, 1, []), none, none, some (.goto (-15), 66, 48, 0, [])],
  [none, none, some (.iload 4, 68, 0, 0, []), none, some (.lookupswitch 40 #[(0, 28), (1, 34)], 96, 108, 0, [(0, 96), (1, 102)]), none, none, none, none, none, none, none, none, none, none, none],
  [none, none, none, none, none, none, none, none, none, none, none, none, none, none, none, none],
  [some (.aload 5, 98, 0, 0, []), none, some (.invokevirtual 164, 101, 0, 0, []), none, none, some (.ireturn, 102, 0, 0, []), some (.aload 5, 104, 0, 0, []), none, some (.invokevirtual 167, 107, 0, 0, []), none, none, some (.ireturn, 108, 0, 0, []), some (.aload 5, 110, 0, 0, []), none, some (.iload_n 2, 111, 0, 0, []), some (.iload_n 3, 112, 0, 0, [])],
  [some (.invokevirtual 103, 115, 0, 0, []), none, none, some (.ireturn, 116, 0, 0, [])]]
def m_X5_run : MT := ((cd_X5_run, 5, 0, 0, 1), (yX5_run, cX5_run, 7, (some .int)))
def cd_X5_think : List (List (Option Ent)) := [[some (.aload_n 0, 1, 0, 0, []), some (.getfield 28, 4, 0, 0, []), none, none, some (.iconst 0, 5, 0, 0, []), some (.aaload, 6, 0, 0, []), some (.aload_n 0, 7, 0, 0, []), some (.getfield 21, 10, 0, 0, []), none, none, some (.invokevirtual 170, 13, 0, 0, []), none, none, some (.aload_n 0, 14, 0, 0, []), some (.getfield 28, 17, 0, 0, []), none],
  [none, some (.iconst 0, 18, 0, 0, []), some (.aaload, 19, 0, 0, []), some (.areturn, 20, 0, 0, [])]]
def m_X5_think : MT := ((cd_X5_think, 5, 0, 0, 3), (yX5_think, cX5_think, 1, (some (.object "DanceStillOwed$Floor"))))
def cd_X5_best : List (List (Option Ent)) := [[some (.iload_n 1, 1, 0, 0, []), some (.tableswitch 138 0 8 #[51, 66, 88, 93, 101, 106, 114, 122, 130], 52, 139, 0, [(0, 52), (1, 67), (2, 89), (3, 94), (4, 102), (5, 107), (6, 115), (7, 123), (8, 131)]), none, none, none, none, none, none, none, none, none, none, none, none, none, none],
  [none, none, none, none, none, none, none, none, none, none, none, none, none, none, none, none],
  [none, none, none, none, none, none, none, none, none, none, none, none, none, none, none, none],
  [none, none, none, none, some (.aload_n 0, 53, 0, 0, []), some (.getfield 21, 56, 0, 0, []), none, none, some (.invokevirtual 174, 59, 0, 0, []), none, none, some (.aload_n 0, 60, 0, 0, []), some (.getfield 21, 63, 0, 0, []), none, none, some (.invokevirtual 177, 66, 0, 0, [])],
  [none, none, some (.ireturn, 67, 0, 0, []), some (.aload_n 0, 68, 0, 0, []), some (.getfield 21, 71, 0, 0, []), none, none, some (.invokevirtual 174, 74, 0, 0, []), none, none, some (.aload_n 0, 75, 0, 0, []), some (.getfield 21, 78, 0, 0, []), none, none, some (.aload_n 0, 79, 0, 0, []), some (.getfield 21, 82, 0, 0, [])],
  [none, none, some (.invokevirtual 177, 85, 0, 0, []), none, none, some (.invokevirtual 180, 88, 0, 0, []), none, none, some (.ireturn, 89, 0, 0, []), some (.aload_n 0, 90, 0, 0, []), some (.invokevirtual 183, 93, 0, 0, []), none, none, some (.ireturn, 94, 0, 0, []), some (.aload_n 0, 95, 0, 0, []), some (.invokevirtual 160, 98, 0, 0, [])],
  [none, none, some (.invokevirtual 141, 101, 0, 0, []), none, none, some (.ireturn, 102, 0, 0, []), some (.aload_n 0, 103, 0, 0, []), some (.invokevirtual 186, 106, 0, 0, []), none, none, some (.ireturn, 107, 0, 0, []), some (.aload_n 0, 108, 0, 0, []), some (.getfield 21, 111, 0, 0, []), none, none, some (.invokevirtual 189, 114, 0, 0, [])],
  [none, none, some (.ireturn, 115, 0, 0, []), some (.aload_n 0, 116, 0, 0, []), some (.getfield 21, 119, 0, 0, []), none, none, some (.invokevirtual 192, 122, 0, 0, []), none, none, some (.ireturn, 123, 0, 0, []), some (.aload_n 0, 124, 0, 0, []), some (.invokevirtual 160, 127, 0, 0, []), none, none, some (.invokevirtual 194, 130, 0, 0, [])],
  [none, none, some (.ireturn, 131, 0, 0, []), some (.aload_n 0, 132, 0, 0, []), some (.getfield 21, 135, 0, 0, []), none, none, some (.invokevirtual 197, 138, 0, 0, []), none, none, some (.ireturn, 139, 0, 0, []), some (.bipush (-2), 141, 0, (-2), []), none, some (.ireturn, 142, 0, 0, [])]]
def m_X5_best : MT := ((cd_X5_best, 5, 0, 0, 1), (yX5_best, cX5_best, 2, (some .int)))
def cd_X5_share : List (List (Option Ent)) := [[some (.aload_n 0, 1, 0, 0, []), some (.getfield 21, 4, 0, 0, []), none, none, some (.invokevirtual 164, 7, 0, 0, []), none, none, some (.istore_n 3, 8, 0, 0, []), some (.aload_n 0, 9, 0, 0, []), some (.iload_n 1, 10, 0, 0, []), some (.invokevirtual 83, 13, 0, 0, []), none, none, some (.ifCond .eq 16, 16, 29, 0, []), none, none],
  [some (.iload_n 2, 17, 0, 0, []), some (.ifCond .lt 12, 20, 29, 0, []), none, none, some (.iload_n 2, 21, 0, 0, []), some (.iconst 1, 22, 0, 1, []), some (.if_icmp .gt 7, 25, 29, 0, []), none, none, some (.iload_n 3, 26, 0, 0, []), some (.ifCond .ne 7, 29, 33, 0, []), none, none, some (.ldc2_w 200, 32, 0, 0, []), none, none],
  [some (.lreturn, 33, 0, 0, []), some (.aload_n 0, 34, 0, 0, []), some (.getfield 21, 37, 0, 0, []), none, none, some (.iload_n 1, 38, 0, 0, []), some (.invokevirtual 93, 41, 0, 0, []), none, none, some (.iload_n 3, 42, 0, 0, []), some (.iload_n 2, 43, 0, 0, []), some (.invokestatic 202, 46, 0, 0, []), none, none, some (.lreturn, 47, 0, 0, [])]]
def m_X5_share : MT := ((cd_X5_share, 5, 0, 0, 2), (yX5_share, cX5_share, 4, (some .long)))
def cd_X5_sitters : List (List (Option Ent)) := [[some (.aload_n 0, 1, 0, 0, []), some (.invokevirtual 160, 4, 0, 0, []), none, none, some (.astore_n 1, 5, 0, 0, []), some (.aload_n 1, 6, 0, 0, []), some (.invokevirtual 141, 9, 0, 0, []), none, none, some (.pop, 10, 0, 0, []), some (.iconst 1, 11, 0, 1, []), some (.aload_n 1, 12, 0, 0, []), some (.getfield 77, 15, 0, 0, []), none, none, some (.ishl, 16, 0, 0, [])],
  [some (.iconst 1, 17, 0, 1, []), some (.isub, 18, 0, 0, []), some (.aload_n 1, 19, 0, 0, []), some (.getfield 206, 22, 0, 0, []), none, none, some (.iconst (-1), 23, 0, (-1), []), some (.ixor, 24, 0, 0, []), some (.iand, 25, 0, 0, []), some (.ireturn, 26, 0, 0, [])]]
def m_X5_sitters : MT := ((cd_X5_sitters, 5, 0, 0, 1), (yX5_sitters, cX5_sitters, 2, (some .int)))
def cd_X5_soonest : List (List (Option Ent)) := [[some (.aload_n 0, 1, 0, 0, []), some (.invokevirtual 160, 4, 0, 0, []), none, none, some (.pop, 5, 0, 0, []), some (.iconst 0, 6, 0, 0, []), some (.istore_n 1, 7, 0, 0, []), some (.iload_n 1, 8, 0, 0, []), some (.iconst 3, 9, 0, 3, []), some (.if_icmp .gt 20, 12, 29, 0, []), none, none, some (.aload_n 0, 13, 0, 0, []), some (.iconst 0, 14, 0, 0, []), some (.iload_n 1, 15, 0, 0, []), some (.invokevirtual 209, 18, 0, 0, [])],
  [none, none, some (.ifCond .eq 5, 21, 23, 0, []), none, none, some (.iload_n 1, 22, 0, 0, []), some (.ireturn, 23, 0, 0, []), some (.iinc 1 1, 26, 0, 1, []), none, none, some (.goto (-19), 29, 7, 0, []), none, none, some (.iconst (-1), 30, 0, (-1), []), some (.ireturn, 31, 0, 0, [])]]
def m_X5_soonest : MT := ((cd_X5_soonest, 5, 0, 0, 1), (yX5_soonest, cX5_soonest, 2, (some .int)))
def cd_X5_clears : List (List (Option Ent)) := [[some (.aload_n 0, 1, 0, 0, []), some (.getfield 28, 4, 0, 0, []), none, none, some (.iload_n 1, 5, 0, 0, []), some (.aaload, 6, 0, 0, []), some (.astore_n 3, 7, 0, 0, []), some (.aload_n 3, 8, 0, 0, []), some (.invokevirtual 164, 11, 0, 0, []), none, none, some (.istore 4, 13, 0, 0, []), none, some (.iload 4, 15, 0, 0, []), none, some (.ifCond .ne 5, 18, 20, 0, [])],
  [none, none, some (.iconst 1, 19, 0, 1, []), some (.ireturn, 20, 0, 0, []), some (.iload_n 2, 21, 0, 0, []), some (.aload_n 3, 22, 0, 0, []), some (.invokevirtual 212, 25, 0, 0, []), none, none, some (.if_icmp .ge 5, 28, 30, 0, []), none, none, some (.iconst 0, 29, 0, 0, []), some (.ireturn, 30, 0, 0, []), some (.aload_n 3, 31, 0, 0, []), some (.invokevirtual 174, 34, 0, 0, [])],
  [none, none, some (.iload_n 2, 35, 0, 0, []), some (.iconst 1, 36, 0, 1, []), some (.if_icmp .ne 22, 39, 58, 0, []), none, none, some (.aload_n 3, 40, 0, 0, []), some (.aload_n 3, 41, 0, 0, []), some (.invokevirtual 177, 44, 0, 0, []), none, none, some (.invokevirtual 180, 47, 0, 0, []), none, none, some (.iload 4, 49, 0, 0, [])],
  [none, some (.if_icmp .ne 7, 52, 56, 0, []), none, none, some (.iconst 1, 53, 0, 1, []), some (.goto 4, 56, 57, 0, []), none, none, some (.iconst 0, 57, 0, 0, []), some (.ireturn, 58, 0, 0, []), some (.iload_n 1, 59, 0, 0, []), some (.iconst 1, 60, 0, 1, []), some (.iadd, 61, 0, 0, []), some (.aload_n 0, 62, 0, 0, []), some (.getfield 28, 65, 0, 0, []), none],
  [none, some (.arraylength, 66, 0, 0, []), some (.if_icmp .lt 5, 69, 71, 0, []), none, none, some (.iconst 0, 70, 0, 0, []), some (.ireturn, 71, 0, 0, []), some (.aload_n 0, 72, 0, 0, []), some (.getfield 28, 75, 0, 0, []), none, none, some (.iload_n 1, 76, 0, 0, []), some (.iconst 1, 77, 0, 1, []), some (.iadd, 78, 0, 0, []), some (.aaload, 79, 0, 0, []), some (.astore 5, 81, 0, 0, [])],
  [none, some (.iconst 0, 82, 0, 0, []), some (.istore 6, 84, 0, 0, []), none, some (.iload 6, 86, 0, 0, []), none, some (.getstatic 215, 89, 0, 0, []), none, none, some (.arraylength, 90, 0, 0, []), some (.if_icmp .ge 55, 93, 145, 0, []), none, none, some (.aload_n 3, 94, 0, 0, []), some (.getstatic 215, 97, 0, 0, []), none],
  [none, some (.iload 6, 99, 0, 0, []), none, some (.iaload, 100, 0, 0, []), some (.invokevirtual 218, 103, 0, 0, []), none, none, some (.ifCond .eq 36, 106, 139, 0, []), none, none, some (.aload 5, 108, 0, 0, []), none, some (.aload_n 3, 109, 0, 0, []), some (.invokevirtual 170, 112, 0, 0, []), none, none],
  [some (.aload 5, 114, 0, 0, []), none, some (.getstatic 215, 117, 0, 0, []), none, none, some (.iload 6, 119, 0, 0, []), none, some (.iaload, 120, 0, 0, []), some (.aload_n 3, 121, 0, 0, []), some (.invokevirtual 221, 124, 0, 0, []), none, none, some (.aload_n 0, 125, 0, 0, []), some (.iload_n 1, 126, 0, 0, []), some (.iconst 1, 127, 0, 1, []), some (.iadd, 128, 0, 0, [])],
  [some (.iload_n 2, 129, 0, 0, []), some (.iconst 1, 130, 0, 1, []), some (.isub, 131, 0, 0, []), some (.invokevirtual 209, 134, 0, 0, []), none, none, some (.ifCond .eq 5, 137, 139, 0, []), none, none, some (.iconst 1, 138, 0, 1, []), some (.ireturn, 139, 0, 0, []), some (.iinc 6 1, 142, 0, 1, []), none, none, some (.goto (-58), 145, 84, 0, []), none],
  [none, some (.iconst 0, 146, 0, 0, []), some (.ireturn, 147, 0, 0, [])]]
def m_X5_clears : MT := ((cd_X5_clears, 5, 0, 0, 4), (yX5_clears, cX5_clears, 7, (some .boolean)))
def cd_X5_lowest : List (List (Option Ent)) := [[some (.iload_n 1, 1, 0, 0, []), some (.istore_n 3, 2, 0, 0, []), some (.iload_n 0, 3, 0, 0, []), some (.istore 4, 5, 0, 0, []), none, some (.iconst 0, 6, 0, 0, []), some (.istore 5, 8, 0, 0, []), none, some (.iload 5, 10, 0, 0, []), none, some (.bipush 64, 12, 0, 64, []), none, some (.if_icmp .ge 27, 15, 39, 0, []), none, none, some (.iload 4, 17, 0, 0, [])],
  [none, some (.ifCond .eq 22, 20, 39, 0, []), none, none, some (.iload_n 3, 21, 0, 0, []), some (.iload 4, 23, 0, 0, []), none, some (.irem, 24, 0, 0, []), some (.istore 6, 26, 0, 0, []), none, some (.iload 4, 28, 0, 0, []), none, some (.istore_n 3, 29, 0, 0, []), some (.iload 6, 31, 0, 0, []), none, some (.istore 4, 33, 0, 0, [])],
  [none, some (.iinc 5 1, 36, 0, 1, []), none, none, some (.goto (-28), 39, 8, 0, []), none, none, some (.iload_n 2, 40, 0, 0, []), some (.ifCond .ne 7, 43, 47, 0, []), none, none, some (.iload_n 0, 44, 0, 0, []), some (.goto 4, 47, 48, 0, []), none, none, some (.iload_n 1, 48, 0, 0, [])],
  [some (.istore 5, 50, 0, 0, []), none, some (.iload_n 3, 51, 0, 0, []), some (.ifCond .ne 9, 54, 60, 0, []), none, none, some (.iload 5, 56, 0, 0, []), none, some (.i2l, 57, 0, 0, []), some (.goto 8, 60, 65, 0, []), none, none, some (.iload 5, 62, 0, 0, []), none, some (.iload_n 3, 63, 0, 0, []), some (.idiv, 64, 0, 0, [])],
  [some (.i2l, 65, 0, 0, []), some (.lreturn, 66, 0, 0, [])]]
def m_X5_lowest : MT := ((cd_X5_lowest, 5, 0, 0, 2), (yX5_lowest, cX5_lowest, 7, (some .long)))
def cd_X5_tells : List (List (Option Ent)) := [[some (.iload_n 1, 1, 0, 0, []), some (.invokestatic 225, 4, 0, 0, []), none, none, some (.ifCond .eq 24, 7, 28, 0, []), none, none, some (.aload_n 0, 8, 0, 0, []), some (.iload_n 2, 9, 0, 0, []), some (.iload_n 3, 10, 0, 0, []), some (.invokevirtual 99, 13, 0, 0, []), none, none, some (.ifCond .eq 15, 16, 28, 0, []), none, none],
  [some (.iload 4, 18, 0, 0, []), none, some (.ifCond .lt 10, 21, 28, 0, []), none, none, some (.iload 4, 23, 0, 0, []), none, some (.bipush 8, 25, 0, 8, []), none, some (.if_icmp .le 6, 28, 31, 0, []), none, none, some (.bipush (-2), 30, 0, (-2), []), none, some (.ireturn, 31, 0, 0, []), some (.aload_n 0, 32, 0, 0, [])],
  [some (.getfield 42, 35, 0, 0, []), none, none, some (.iload_n 1, 36, 0, 0, []), some (.aaload, 37, 0, 0, []), some (.astore 5, 39, 0, 0, []), none, some (.aload 5, 41, 0, 0, []), none, some (.getfield 228, 44, 0, 0, []), none, none, some (.iconst (-1), 45, 0, (-1), []), some (.if_icmp .ne 6, 48, 51, 0, []), none, none],
  [some (.bipush (-11), 50, 0, (-11), []), none, some (.ireturn, 51, 0, 0, []), some (.aload 5, 53, 0, 0, []), none, some (.getfield 231, 56, 0, 0, []), none, none, some (.bipush 30, 58, 0, 30, []), none, some (.if_icmp .le 6, 61, 64, 0, []), none, none, some (.bipush (-2), 63, 0, (-2), []), none, some (.ireturn, 64, 0, 0, [])],
  [some (.iload 4, 66, 0, 0, []), none, some (.tableswitch 120 0 7 #[46, 57, 65, 73, 73, 92, 92, 112], 112, 186, 0, [(0, 112), (1, 123), (2, 131), (3, 139), (4, 139), (5, 158), (6, 158), (7, 178)]), none, none, none, none, none, none, none, none, none, none, none, none, none],
  [none, none, none, none, none, none, none, none, none, none, none, none, none, none, none, none],
  [none, none, none, none, none, none, none, none, none, none, none, none, none, none, none, none],
  [some (.aload_n 0, 113, 0, 0, []), some (.getfield 21, 116, 0, 0, []), none, none, some (.aload 5, 118, 0, 0, []), none, some (.iload_n 2, 119, 0, 0, []), some (.invokevirtual 232, 122, 0, 0, []), none, none, some (.ireturn, 123, 0, 0, []), some (.aload_n 0, 124, 0, 0, []), some (.aload 5, 126, 0, 0, []), none, some (.iload_n 2, 127, 0, 0, []), some (.invokevirtual 236, 130, 0, 0, [])],
  [none, none, some (.ireturn, 131, 0, 0, []), some (.aload_n 0, 132, 0, 0, []), some (.aload 5, 134, 0, 0, []), none, some (.iload_n 2, 135, 0, 0, []), some (.invokevirtual 239, 138, 0, 0, []), none, none, some (.ireturn, 139, 0, 0, []), some (.aload_n 0, 140, 0, 0, []), some (.aload 5, 142, 0, 0, []), none, some (.iload_n 2, 143, 0, 0, []), some (.iload 4, 145, 0, 0, [])],
  [none, some (.iconst 4, 146, 0, 4, []), some (.if_icmp .ne 7, 149, 153, 0, []), none, none, some (.iconst 1, 150, 0, 1, []), some (.goto 4, 153, 154, 0, []), none, none, some (.iconst 0, 154, 0, 0, []), some (.invokevirtual 242, 157, 0, 0, []), none, none, some (.ireturn, 158, 0, 0, []), some (.aload_n 0, 159, 0, 0, []), some (.aload 5, 161, 0, 0, [])],
  [none, some (.iload_n 2, 162, 0, 0, []), some (.iload 4, 164, 0, 0, []), none, some (.bipush 6, 166, 0, 6, []), none, some (.if_icmp .ne 7, 169, 173, 0, []), none, none, some (.iconst 1, 170, 0, 1, []), some (.goto 4, 173, 174, 0, []), none, none, some (.iconst 0, 174, 0, 0, []), some (.invokevirtual 246, 177, 0, 0, []), none],
  [none, some (.ireturn, 178, 0, 0, []), some (.aload_n 0, 179, 0, 0, []), some (.aload 5, 181, 0, 0, []), none, some (.iload_n 2, 182, 0, 0, []), some (.invokevirtual 249, 185, 0, 0, []), none, none, some (.ireturn, 186, 0, 0, []), some (.aload_n 0, 187, 0, 0, []), some (.aload 5, 189, 0, 0, []), none, some (.iload_n 3, 190, 0, 0, []), some (.invokevirtual 252, 193, 0, 0, []), none],
  [none, some (.ireturn, 194, 0, 0, [])]]
def m_X5_tells : MT := ((cd_X5_tells, 5, 0, 0, 1), (yX5_tells, cX5_tells, 6, (some .int)))
def cd_X5_kindsTold : List (List (Option Ent)) := [[some (.aload_n 0, 1, 0, 0, []), some (.invokevirtual 160, 4, 0, 0, []), none, none, some (.astore_n 3, 5, 0, 0, []), some (.iconst 0, 6, 0, 0, []), some (.istore 4, 8, 0, 0, []), none, some (.iconst 0, 9, 0, 0, []), some (.istore 5, 11, 0, 0, []), none, some (.iload 5, 13, 0, 0, []), none, some (.bipush 6, 15, 0, 6, []), none, some (.if_icmp .ge 35, 18, 50, 0, [])],
  [none, none, some (.aload_n 3, 19, 0, 0, []), some (.getfield 87, 22, 0, 0, []), none, none, some (.iload_n 2, 23, 0, 0, []), some (.iload 5, 25, 0, 0, []), none, some (.iastore, 26, 0, 0, []), some (.aload_n 3, 27, 0, 0, []), some (.aload_n 1, 28, 0, 0, []), some (.iload_n 2, 29, 0, 0, []), some (.invokevirtual 255, 32, 0, 0, []), none, none],
  [some (.ifCond .eq 12, 35, 44, 0, []), none, none, some (.iload 4, 37, 0, 0, []), none, some (.iconst 1, 38, 0, 1, []), some (.iload 5, 40, 0, 0, []), none, some (.ishl, 41, 0, 0, []), some (.ior, 42, 0, 0, []), some (.istore 4, 44, 0, 0, []), none, some (.iinc 5 1, 47, 0, 1, []), none, none, some (.goto (-36), 50, 11, 0, [])],
  [none, none, some (.iload 4, 52, 0, 0, []), none, some (.ireturn, 53, 0, 0, [])]]
def m_X5_kindsTold : MT := ((cd_X5_kindsTold, 5, 0, 0, 1), (yX5_kindsTold, cX5_kindsTold, 6, (some .int)))
def cd_X5_numbersTold : List (List (Option Ent)) := [[some (.aload_n 0, 1, 0, 0, []), some (.invokevirtual 160, 4, 0, 0, []), none, none, some (.astore_n 3, 5, 0, 0, []), some (.iconst 0, 6, 0, 0, []), some (.istore 4, 8, 0, 0, []), none, some (.iconst 0, 9, 0, 0, []), some (.istore 5, 11, 0, 0, []), none, some (.iload 5, 13, 0, 0, []), none, some (.bipush 9, 15, 0, 9, []), none, some (.if_icmp .gt 35, 18, 50, 0, [])],
  [none, none, some (.aload_n 3, 19, 0, 0, []), some (.getfield 64, 22, 0, 0, []), none, none, some (.iload_n 2, 23, 0, 0, []), some (.iload 5, 25, 0, 0, []), none, some (.iastore, 26, 0, 0, []), some (.aload_n 3, 27, 0, 0, []), some (.aload_n 1, 28, 0, 0, []), some (.iload_n 2, 29, 0, 0, []), some (.invokevirtual 255, 32, 0, 0, []), none, none],
  [some (.ifCond .eq 12, 35, 44, 0, []), none, none, some (.iload 4, 37, 0, 0, []), none, some (.iconst 1, 38, 0, 1, []), some (.iload 5, 40, 0, 0, []), none, some (.ishl, 41, 0, 0, []), some (.ior, 42, 0, 0, []), some (.istore 4, 44, 0, 0, []), none, some (.iinc 5 1, 47, 0, 1, []), none, none, some (.goto (-36), 50, 11, 0, [])],
  [none, none, some (.iload 4, 52, 0, 0, []), none, some (.ireturn, 53, 0, 0, [])]]
def m_X5_numbersTold : MT := ((cd_X5_numbersTold, 5, 0, 0, 1), (yX5_numbersTold, cX5_numbersTold, 6, (some .int)))
def cd_X5_roundsTold : List (List (Option Ent)) := [[some (.aload_n 0, 1, 0, 0, []), some (.invokevirtual 160, 4, 0, 0, []), none, none, some (.astore 4, 6, 0, 0, []), none, some (.iconst 0, 7, 0, 0, []), some (.istore 5, 9, 0, 0, []), none, some (.iconst 0, 10, 0, 0, []), some (.istore 6, 12, 0, 0, []), none, some (.iload 6, 14, 0, 0, []), none, some (.bipush 100, 16, 0, 100, []), none],
  [some (.if_icmp .ge 36, 19, 52, 0, []), none, none, some (.aload 4, 21, 0, 0, []), none, some (.iload 6, 23, 0, 0, []), none, some (.putfield 57, 26, 0, 0, []), none, none, some (.aload 4, 28, 0, 0, []), none, some (.aload_n 1, 29, 0, 0, []), some (.iload_n 2, 30, 0, 0, []), some (.invokevirtual 255, 33, 0, 0, []), none],
  [none, some (.ifCond .eq 13, 36, 46, 0, []), none, none, some (.iload_n 3, 37, 0, 0, []), some (.ifCond .eq 6, 40, 43, 0, []), none, none, some (.iload 6, 42, 0, 0, []), none, some (.ireturn, 43, 0, 0, []), some (.iinc 5 1, 46, 0, 1, []), none, none, some (.iinc 6 1, 49, 0, 1, []), none],
  [none, some (.goto (-37), 52, 12, 0, []), none, none, some (.iload_n 3, 53, 0, 0, []), some (.ifCond .eq 7, 56, 60, 0, []), none, none, some (.iconst (-1), 57, 0, (-1), []), some (.goto 5, 60, 62, 0, []), none, none, some (.iload 5, 62, 0, 0, []), none, some (.ireturn, 63, 0, 0, [])]]
def m_X5_roundsTold : MT := ((cd_X5_roundsTold, 5, 0, 0, 1), (yX5_roundsTold, cX5_roundsTold, 7, (some .int)))
def cd_X5_donesTold : List (List (Option Ent)) := [[some (.aload_n 0, 1, 0, 0, []), some (.invokevirtual 160, 4, 0, 0, []), none, none, some (.astore 4, 6, 0, 0, []), none, some (.iconst 0, 7, 0, 0, []), some (.istore 5, 9, 0, 0, []), none, some (.iconst 0, 10, 0, 0, []), some (.istore 6, 12, 0, 0, []), none, some (.iload 6, 14, 0, 0, []), none, some (.bipush 100, 16, 0, 100, []), none],
  [some (.if_icmp .ge 38, 19, 54, 0, []), none, none, some (.aload 4, 21, 0, 0, []), none, some (.getfield 67, 24, 0, 0, []), none, none, some (.iload_n 2, 25, 0, 0, []), some (.iload 6, 27, 0, 0, []), none, some (.iastore, 28, 0, 0, []), some (.aload 4, 30, 0, 0, []), none, some (.aload_n 1, 31, 0, 0, []), some (.iload_n 2, 32, 0, 0, [])],
  [some (.invokevirtual 255, 35, 0, 0, []), none, none, some (.ifCond .eq 13, 38, 48, 0, []), none, none, some (.iload_n 3, 39, 0, 0, []), some (.ifCond .eq 6, 42, 45, 0, []), none, none, some (.iload 6, 44, 0, 0, []), none, some (.ireturn, 45, 0, 0, []), some (.iinc 5 1, 48, 0, 1, []), none, none],
  [some (.iinc 6 1, 51, 0, 1, []), none, none, some (.goto (-39), 54, 12, 0, []), none, none, some (.iload_n 3, 55, 0, 0, []), some (.ifCond .eq 7, 58, 62, 0, []), none, none, some (.iconst (-1), 59, 0, (-1), []), some (.goto 5, 62, 64, 0, []), none, none, some (.iload 5, 64, 0, 0, []), none],
  [some (.ireturn, 65, 0, 0, [])]]
def m_X5_donesTold : MT := ((cd_X5_donesTold, 5, 0, 0, 1), (yX5_donesTold, cX5_donesTold, 7, (some .int)))
def cd_X5_textsTold : List (List (Option Ent)) := [[some (.aload_n 0, 1, 0, 0, []), some (.invokevirtual 160, 4, 0, 0, []), none, none, some (.astore_n 3, 5, 0, 0, []), some (.iconst 0, 6, 0, 0, []), some (.istore 4, 8, 0, 0, []), none, some (.iconst 0, 9, 0, 0, []), some (.istore 5, 11, 0, 0, []), none, some (.iload 5, 13, 0, 0, []), none, some (.aload_n 0, 14, 0, 0, []), some (.getfield 10, 17, 0, 0, []), none],
  [none, some (.getfield 121, 20, 0, 0, []), none, none, some (.if_icmp .ge 33, 23, 53, 0, []), none, none, some (.aload_n 3, 24, 0, 0, []), some (.iload 5, 26, 0, 0, []), none, some (.putfield 135, 29, 0, 0, []), none, none, some (.aload_n 3, 30, 0, 0, []), some (.aload_n 1, 31, 0, 0, []), some (.iload_n 2, 32, 0, 0, [])],
  [some (.invokevirtual 255, 35, 0, 0, []), none, none, some (.ifCond .eq 12, 38, 47, 0, []), none, none, some (.iload 4, 40, 0, 0, []), none, some (.iconst 1, 41, 0, 1, []), some (.iload 5, 43, 0, 0, []), none, some (.ishl, 44, 0, 0, []), some (.ior, 45, 0, 0, []), some (.istore 4, 47, 0, 0, []), none, some (.iinc 5 1, 50, 0, 1, [])],
  [none, none, some (.goto (-39), 53, 11, 0, []), none, none, some (.iload 4, 55, 0, 0, []), none, some (.ireturn, 56, 0, 0, [])]]
def m_X5_textsTold : MT := ((cd_X5_textsTold, 5, 0, 0, 1), (yX5_textsTold, cX5_textsTold, 6, (some .int)))
def cd_X5_dancersTold : List (List (Option Ent)) := [[some (.iconst 0, 1, 0, 0, []), some (.istore_n 3, 2, 0, 0, []), some (.iconst 0, 3, 0, 0, []), some (.istore 4, 5, 0, 0, []), none, some (.iload 4, 7, 0, 0, []), none, some (.aload_n 0, 8, 0, 0, []), some (.getfield 21, 11, 0, 0, []), none, none, some (.getfield 77, 14, 0, 0, []), none, none, some (.if_icmp .ge 35, 17, 49, 0, []), none],
  [none, some (.iload 4, 19, 0, 0, []), none, some (.iload_n 2, 20, 0, 0, []), some (.if_icmp .eq 23, 23, 43, 0, []), none, none, some (.aload_n 0, 24, 0, 0, []), some (.getfield 21, 27, 0, 0, []), none, none, some (.aload_n 1, 28, 0, 0, []), some (.iload 4, 30, 0, 0, []), none, some (.invokevirtual 255, 33, 0, 0, []), none],
  [none, some (.ifCond .eq 10, 36, 43, 0, []), none, none, some (.iload_n 3, 37, 0, 0, []), some (.iconst 1, 38, 0, 1, []), some (.iload 4, 40, 0, 0, []), none, some (.ishl, 41, 0, 0, []), some (.ior, 42, 0, 0, []), some (.istore_n 3, 43, 0, 0, []), some (.iinc 4 1, 46, 0, 1, []), none, none, some (.goto (-41), 49, 5, 0, []), none],
  [none, some (.iload_n 3, 50, 0, 0, []), some (.ireturn, 51, 0, 0, [])]]
def m_X5_dancersTold : MT := ((cd_X5_dancersTold, 5, 0, 0, 1), (yX5_dancersTold, cX5_dancersTold, 5, (some .int)))
def cd_X5_film : List (List (Option Ent)) := [[some (.iload_n 1, 1, 0, 0, []), some (.invokestatic 225, 4, 0, 0, []), none, none, some (.ifCond .eq 24, 7, 28, 0, []), none, none, some (.aload_n 0, 8, 0, 0, []), some (.iload_n 2, 9, 0, 0, []), some (.iload_n 3, 10, 0, 0, []), some (.invokevirtual 99, 13, 0, 0, []), none, none, some (.ifCond .eq 15, 16, 28, 0, []), none, none],
  [some (.iload 4, 18, 0, 0, []), none, some (.ifCond .lt 10, 21, 28, 0, []), none, none, some (.iload 4, 23, 0, 0, []), none, some (.bipush 30, 25, 0, 30, []), none, some (.if_icmp .le 6, 28, 31, 0, []), none, none, some (.bipush (-2), 30, 0, (-2), []), none, some (.ireturn, 31, 0, 0, []), some (.aload_n 0, 32, 0, 0, [])],
  [some (.getfield 42, 35, 0, 0, []), none, none, some (.iload_n 1, 36, 0, 0, []), some (.aaload, 37, 0, 0, []), some (.astore 5, 39, 0, 0, []), none, some (.aload 5, 41, 0, 0, []), none, some (.iconst 0, 42, 0, 0, []), some (.iload 4, 44, 0, 0, []), none, some (.invokevirtual 259, 47, 0, 0, []), none, none, some (.iconst 0, 48, 0, 0, [])],
  [some (.istore 6, 50, 0, 0, []), none, some (.iconst 0, 51, 0, 0, []), some (.istore 7, 53, 0, 0, []), none, some (.iload 7, 55, 0, 0, []), none, some (.iload 4, 57, 0, 0, []), none, some (.if_icmp .ge 37, 60, 94, 0, []), none, none, some (.aload_n 0, 61, 0, 0, []), some (.getfield 21, 64, 0, 0, []), none, none],
  [some (.iload_n 2, 65, 0, 0, []), some (.iload 7, 67, 0, 0, []), none, some (.invokevirtual 106, 70, 0, 0, []), none, none, some (.istore 8, 72, 0, 0, []), none, some (.aload 5, 74, 0, 0, []), none, some (.iload 7, 76, 0, 0, []), none, some (.iload 8, 78, 0, 0, []), none, some (.invokevirtual 263, 81, 0, 0, []), none],
  [none, some (.iload 6, 83, 0, 0, []), none, some (.iload 8, 85, 0, 0, []), none, some (.iadd, 86, 0, 0, []), some (.istore 6, 88, 0, 0, []), none, some (.iinc 7 1, 91, 0, 1, []), none, none, some (.goto (-38), 94, 53, 0, []), none, none, some (.iload 6, 96, 0, 0, []), none],
  [some (.ireturn, 97, 0, 0, [])]]
def m_X5_film : MT := ((cd_X5_film, 5, 0, 0, 1), (yX5_film, cX5_film, 9, (some .int)))
def cd_X5_image : List (List (Option Ent)) := [[some (.aload_n 0, 1, 0, 0, []), some (.getfield 25, 4, 0, 0, []), none, none, some (.aload_n 0, 5, 0, 0, []), some (.getfield 21, 8, 0, 0, []), none, none, some (.invokevirtual 170, 11, 0, 0, []), none, none, some (.aload_n 0, 12, 0, 0, []), some (.iconst 1, 13, 0, 1, []), some (.putfield 270, 16, 0, 0, []), none, none],
  [some (.aload_n 0, 17, 0, 0, []), some (.getfield 25, 20, 0, 0, []), none, none, some (.getfield 77, 23, 0, 0, []), none, none, some (.ireturn, 24, 0, 0, [])]]
def m_X5_image : MT := ((cd_X5_image, 5, 0, 0, 1), (yX5_image, cX5_image, 1, (some .int)))
def cd_X5_back : List (List (Option Ent)) := [[some (.aload_n 0, 1, 0, 0, []), some (.getfield 270, 4, 0, 0, []), none, none, some (.ifCond .ne 6, 7, 10, 0, []), none, none, some (.bipush (-3), 9, 0, (-3), []), none, some (.ireturn, 10, 0, 0, []), some (.aload_n 0, 11, 0, 0, []), some (.getfield 21, 14, 0, 0, []), none, none, some (.aload_n 0, 15, 0, 0, []), some (.getfield 25, 18, 0, 0, [])],
  [none, none, some (.invokevirtual 170, 21, 0, 0, []), none, none, some (.aload_n 0, 22, 0, 0, []), some (.getfield 21, 25, 0, 0, []), none, none, some (.getfield 77, 28, 0, 0, []), none, none, some (.ireturn, 29, 0, 0, [])]]
def m_X5_back : MT := ((cd_X5_back, 5, 0, 0, 1), (yX5_back, cX5_back, 1, (some .int)))
def cd_X5_count : List (List (Option Ent)) := [[some (.iload_n 1, 1, 0, 0, []), some (.tableswitch 87 0 5 #[39, 47, 55, 63, 71, 79], 40, 88, 0, [(0, 40), (1, 48), (2, 56), (3, 64), (4, 72), (5, 80)]), none, none, none, none, none, none, none, none, none, none, none, none, none, none],
  [none, none, none, none, none, none, none, none, none, none, none, none, none, none, none, none],
  [none, none, none, none, none, none, none, none, some (.aload_n 0, 41, 0, 0, []), some (.getfield 21, 44, 0, 0, []), none, none, some (.getfield 77, 47, 0, 0, []), none, none, some (.ireturn, 48, 0, 0, [])],
  [some (.aload_n 0, 49, 0, 0, []), some (.getfield 21, 52, 0, 0, []), none, none, some (.invokevirtual 164, 55, 0, 0, []), none, none, some (.ireturn, 56, 0, 0, []), some (.aload_n 0, 57, 0, 0, []), some (.getfield 21, 60, 0, 0, []), none, none, some (.getfield 57, 63, 0, 0, []), none, none, some (.ireturn, 64, 0, 0, [])],
  [some (.aload_n 0, 65, 0, 0, []), some (.getfield 10, 68, 0, 0, []), none, none, some (.getfield 121, 71, 0, 0, []), none, none, some (.ireturn, 72, 0, 0, []), some (.aload_n 0, 73, 0, 0, []), some (.getfield 35, 76, 0, 0, []), none, none, some (.getfield 118, 79, 0, 0, []), none, none, some (.ireturn, 80, 0, 0, [])],
  [some (.aload_n 0, 81, 0, 0, []), some (.getfield 21, 84, 0, 0, []), none, none, some (.getfield 135, 87, 0, 0, []), none, none, some (.ireturn, 88, 0, 0, []), some (.bipush (-2), 90, 0, (-2), []), none, some (.ireturn, 91, 0, 0, [])]]
def m_X5_count : MT := ((cd_X5_count, 5, 0, 0, 1), (yX5_count, cX5_count, 2, (some .int)))
def cd_X5_isSheet : List (List (Option Ent)) := [[some (.iload_n 0, 1, 0, 0, []), some (.ifCond .lt 12, 4, 13, 0, []), none, none, some (.iload_n 0, 5, 0, 0, []), some (.iconst 4, 6, 0, 4, []), some (.if_icmp .ge 7, 9, 13, 0, []), none, none, some (.iconst 1, 10, 0, 1, []), some (.goto 4, 13, 14, 0, []), none, none, some (.iconst 0, 14, 0, 0, []), some (.ireturn, 15, 0, 0, [])]]
def m_X5_isSheet : MT := ((cd_X5_isSheet, 5, 0, 0, 4), (yX5_isSheet, cX5_isSheet, 1, (some .boolean)))
def cd_X5_within : List (List (Option Ent)) := [[some (.iload_n 0, 1, 0, 0, []), some (.ifCond .ge 7, 4, 8, 0, []), none, none, some (.iconst 0, 5, 0, 0, []), some (.goto 13, 8, 18, 0, []), none, none, some (.iload_n 0, 9, 0, 0, []), some (.iload_n 1, 10, 0, 0, []), some (.if_icmp .le 7, 13, 17, 0, []), none, none, some (.iload_n 1, 14, 0, 0, []), some (.goto 4, 17, 18, 0, []), none],
  [none, some (.iload_n 0, 18, 0, 0, []), some (.ireturn, 19, 0, 0, [])]]
def m_X5_within : MT := ((cd_X5_within, 5, 0, 0, 1), (yX5_within, cX5_within, 2, (some .int)))
def cd_J6_bitCount_0f7a4 : List (List (Option Ent)) := [[some (.iload_n 0, 1, 0, 0, []), some (.iload_n 0, 2, 0, 0, []), some (.iconst 1, 3, 0, 1, []), some (.iushr, 4, 0, 0, []), some (.ldc_w 265, 7, 0, 0, []), none, none, some (.iand, 8, 0, 0, []), some (.isub, 9, 0, 0, []), some (.istore_n 0, 10, 0, 0, []), some (.iload_n 0, 11, 0, 0, []), some (.ldc_w 266, 14, 0, 0, []), none, none, some (.iand, 15, 0, 0, []), some (.iload_n 0, 16, 0, 0, [])],
  [some (.iconst 2, 17, 0, 2, []), some (.iushr, 18, 0, 0, []), some (.ldc_w 266, 21, 0, 0, []), none, none, some (.iand, 22, 0, 0, []), some (.iadd, 23, 0, 0, []), some (.istore_n 0, 24, 0, 0, []), some (.iload_n 0, 25, 0, 0, []), some (.iload_n 0, 26, 0, 0, []), some (.iconst 4, 27, 0, 4, []), some (.iushr, 28, 0, 0, []), some (.iadd, 29, 0, 0, []), some (.ldc_w 267, 32, 0, 0, []), none, none],
  [some (.iand, 33, 0, 0, []), some (.istore_n 0, 34, 0, 0, []), some (.iload_n 0, 35, 0, 0, []), some (.iload_n 0, 36, 0, 0, []), some (.bipush 8, 38, 0, 8, []), none, some (.iushr, 39, 0, 0, []), some (.iadd, 40, 0, 0, []), some (.istore_n 0, 41, 0, 0, []), some (.iload_n 0, 42, 0, 0, []), some (.iload_n 0, 43, 0, 0, []), some (.bipush 16, 45, 0, 16, []), none, some (.iushr, 46, 0, 0, []), some (.iadd, 47, 0, 0, []), some (.istore_n 0, 48, 0, 0, [])],
  [some (.iload_n 0, 49, 0, 0, []), some (.bipush 63, 51, 0, 63, []), none, some (.iand, 52, 0, 0, []), some (.ireturn, 53, 0, 0, [])]]
def m_J6_bitCount_0f7a4 : MT := ((cd_J6_bitCount_0f7a4, 6, 0, 0, 1), (yJ6_bitCount_0f7a4, cJ6_bitCount_0f7a4, 1, (some .int)))
def cd_L_cell : List (List (Option Ent)) := [[some (.iload_n 1, 1, 0, 0, []), some (.aload_n 0, 2, 0, 0, []), some (.arraylength, 3, 0, 0, []), some (.if_icmp .ge 9, 6, 12, 0, []), none, none, some (.aload_n 0, 7, 0, 0, []), some (.iload_n 1, 8, 0, 0, []), some (.iaload, 9, 0, 0, []), some (.goto 11, 12, 20, 0, []), none, none, some (.sipush 7919, 15, 0, 7919, []), none, none, some (.iload_n 1, 16, 0, 0, [])],
  [some (.imul, 17, 0, 0, []), some (.bipush 12, 19, 0, 12, []), none, some (.iadd, 20, 0, 0, []), some (.ireturn, 21, 0, 0, [])]]
def m_L_cell : MT := ((cd_L_cell, 7, 0, 0, 1), (yL_cell, cL_cell, 2, (some .int)))
def cd_L_some : List (List (Option Ent)) := [[some (.aload_n 0, 1, 0, 0, []), some (.iload_n 1, 2, 0, 0, []), some (.invokestatic 7, 5, 0, 0, []), none, none, some (.iconst 3, 6, 0, 3, []), some (.iushr, 7, 0, 0, []), some (.iload_n 2, 8, 0, 0, []), some (.irem, 9, 0, 0, []), some (.ireturn, 10, 0, 0, [])]]
def m_L_some : MT := ((cd_L_some, 7, 0, 0, 1), (yL_some, cL_some, 3, (some .int)))
def cd_L_law : List (List (Option Ent)) := [[some (.iconst 0, 1, 0, 0, []), some (.istore_n 1, 2, 0, 0, []), some (.iload_n 1, 3, 0, 0, []), some (.iconst 3, 4, 0, 3, []), some (.if_icmp .ge 820, 7, 824, 0, []), none, none, some (.new 13, 10, 0, 0, []), none, none, some (.dup, 11, 0, 0, []), some (.invokespecial 15, 14, 0, 0, []), none, none, some (.astore_n 2, 15, 0, 0, []), some (.iconst 2, 16, 0, 2, [])],
  [some (.aload_n 0, 17, 0, 0, []), some (.iload_n 1, 18, 0, 0, []), some (.iconst 4, 19, 0, 4, []), some (.invokestatic 16, 22, 0, 0, []), none, none, some (.iadd, 23, 0, 0, []), some (.istore_n 3, 24, 0, 0, []), some (.iconst 1, 25, 0, 1, []), some (.aload_n 0, 26, 0, 0, []), some (.iconst 3, 27, 0, 3, []), some (.iload_n 1, 28, 0, 0, []), some (.iadd, 29, 0, 0, []), some (.bipush 9, 31, 0, 9, []), none, some (.invokestatic 16, 34, 0, 0, [])],
  [none, none, some (.iadd, 35, 0, 0, []), some (.istore 4, 37, 0, 0, []), none, some (.iconst 0, 38, 0, 0, []), some (.istore 5, 40, 0, 0, []), none, some (.iload 5, 42, 0, 0, []), none, some (.iload_n 3, 43, 0, 0, []), some (.if_icmp .ge 44, 46, 87, 0, []), none, none, some (.aload_n 2, 47, 0, 0, []), some (.iconst 0, 48, 0, 0, [])],
  [some (.aload_n 0, 49, 0, 0, []), some (.bipush 6, 51, 0, 6, []), none, some (.iload 5, 53, 0, 0, []), none, some (.iadd, 54, 0, 0, []), some (.bipush 10, 56, 0, 10, []), none, some (.invokestatic 16, 59, 0, 0, []), none, none, some (.invokevirtual 20, 62, 0, 0, []), none, none, some (.iload 5, 64, 0, 0, []), none],
  [some (.if_icmp .ne 15, 67, 79, 0, []), none, none, some (.aload_n 2, 68, 0, 0, []), some (.iload 5, 70, 0, 0, []), none, some (.bipush 6, 72, 0, 6, []), none, some (.invokevirtual 24, 75, 0, 0, []), none, none, some (.iconst 4, 76, 0, 4, []), some (.if_icmp .eq 5, 79, 81, 0, []), none, none, some (.iconst 0, 80, 0, 0, [])],
  [some (.ireturn, 81, 0, 0, []), some (.iinc 5 1, 84, 0, 1, []), none, none, some (.goto (-44), 87, 40, 0, []), none, none, some (.iconst 0, 88, 0, 0, []), some (.istore 5, 90, 0, 0, []), none, some (.iconst 0, 91, 0, 0, []), some (.istore 6, 93, 0, 0, []), none, some (.iload 6, 95, 0, 0, []), none, some (.iload_n 3, 96, 0, 0, [])],
  [some (.if_icmp .ge 45, 99, 141, 0, []), none, none, some (.aload_n 2, 100, 0, 0, []), some (.iconst 4, 101, 0, 4, []), some (.bipush 10, 103, 0, 10, []), none, some (.iload 6, 105, 0, 0, []), none, some (.imul, 106, 0, 0, []), some (.iload 6, 108, 0, 0, []), none, some (.iconst 1, 109, 0, 1, []), some (.iadd, 110, 0, 0, []), some (.iload_n 3, 111, 0, 0, []), some (.irem, 112, 0, 0, [])],
  [some (.iadd, 113, 0, 0, []), some (.iload 4, 115, 0, 0, []), none, some (.invokevirtual 27, 118, 0, 0, []), none, none, some (.ifCond .eq 5, 121, 123, 0, []), none, none, some (.iconst 0, 122, 0, 0, []), some (.ireturn, 123, 0, 0, []), some (.bipush 10, 125, 0, 10, []), none, some (.iload 5, 127, 0, 0, []), none, some (.imul, 128, 0, 0, [])],
  [some (.iload 6, 130, 0, 0, []), none, some (.iadd, 131, 0, 0, []), some (.iconst 1, 132, 0, 1, []), some (.iadd, 133, 0, 0, []), some (.istore 5, 135, 0, 0, []), none, some (.iinc 6 1, 138, 0, 1, []), none, none, some (.goto (-45), 141, 93, 0, []), none, none, some (.aload_n 2, 142, 0, 0, []), some (.iconst 1, 143, 0, 1, []), some (.invokevirtual 31, 146, 0, 0, [])],
  [none, none, some (.iload_n 3, 147, 0, 0, []), some (.iload 4, 149, 0, 0, []), none, some (.imul, 150, 0, 0, []), some (.if_icmp .ne 30, 153, 180, 0, []), none, none, some (.aload_n 2, 154, 0, 0, []), some (.iconst 5, 155, 0, 5, []), some (.invokevirtual 35, 158, 0, 0, []), none, none, some (.ifCond .ne 22, 161, 180, 0, []), none],
  [none, some (.aload_n 2, 162, 0, 0, []), some (.bipush 6, 164, 0, 6, []), none, some (.invokevirtual 35, 167, 0, 0, []), none, none, some (.iload_n 3, 168, 0, 0, []), some (.if_icmp .ne 12, 171, 180, 0, []), none, none, some (.aload_n 2, 172, 0, 0, []), some (.bipush 8, 174, 0, 8, []), none, some (.invokevirtual 35, 177, 0, 0, []), none],
  [none, some (.ifCond .eq 5, 180, 182, 0, []), none, none, some (.iconst 0, 181, 0, 0, []), some (.ireturn, 182, 0, 0, []), some (.iconst 0, 183, 0, 0, []), some (.istore 6, 185, 0, 0, []), none, some (.iload 6, 187, 0, 0, []), none, some (.iload_n 3, 188, 0, 0, []), some (.if_icmp .ge 98, 191, 286, 0, []), none, none, some (.aload_n 2, 192, 0, 0, [])],
  [some (.iload 6, 194, 0, 0, []), none, some (.bipush 7, 196, 0, 7, []), none, some (.invokevirtual 24, 199, 0, 0, []), none, none, some (.iload 4, 201, 0, 0, []), none, some (.if_icmp .ne 50, 204, 251, 0, []), none, none, some (.aload_n 2, 205, 0, 0, []), some (.iload 6, 207, 0, 0, []), none, some (.bipush 8, 209, 0, 8, [])],
  [none, some (.invokevirtual 24, 212, 0, 0, []), none, none, some (.iload 4, 214, 0, 0, []), none, some (.if_icmp .ne 37, 217, 251, 0, []), none, none, some (.aload_n 2, 218, 0, 0, []), some (.iload 6, 220, 0, 0, []), none, some (.iload 6, 222, 0, 0, []), none, some (.iconst 1, 223, 0, 1, []), some (.iadd, 224, 0, 0, [])],
  [some (.iload_n 3, 225, 0, 0, []), some (.irem, 226, 0, 0, []), some (.iconst 0, 227, 0, 0, []), some (.invokevirtual 38, 230, 0, 0, []), none, none, some (.iconst 1, 231, 0, 1, []), some (.if_icmp .ne 20, 234, 251, 0, []), none, none, some (.aload_n 2, 235, 0, 0, []), some (.iload 6, 237, 0, 0, []), none, some (.iload 6, 239, 0, 0, []), none, some (.iconst 1, 240, 0, 1, [])],
  [some (.iadd, 241, 0, 0, []), some (.iload_n 3, 242, 0, 0, []), some (.irem, 243, 0, 0, []), some (.iconst 2, 244, 0, 2, []), some (.invokevirtual 38, 247, 0, 0, []), none, none, some (.iconst 1, 248, 0, 1, []), some (.if_icmp .eq 5, 251, 253, 0, []), none, none, some (.iconst 0, 252, 0, 0, []), some (.ireturn, 253, 0, 0, []), some (.aload_n 2, 254, 0, 0, []), some (.iload 6, 256, 0, 0, []), none],
  [some (.iconst 0, 257, 0, 0, []), some (.invokevirtual 41, 260, 0, 0, []), none, none, some (.lconst 1, 261, 0, 0, []), some (.lcmp, 262, 0, 0, []), some (.ifCond .ne 16, 265, 278, 0, []), none, none, some (.aload_n 2, 266, 0, 0, []), some (.iload 6, 268, 0, 0, []), none, some (.iconst 1, 269, 0, 1, []), some (.invokevirtual 41, 272, 0, 0, []), none, none],
  [some (.iload_n 3, 273, 0, 0, []), some (.i2l, 274, 0, 0, []), some (.lcmp, 275, 0, 0, []), some (.ifCond .eq 5, 278, 280, 0, []), none, none, some (.iconst 0, 279, 0, 0, []), some (.ireturn, 280, 0, 0, []), some (.iinc 6 1, 283, 0, 1, []), none, none, some (.goto (-98), 286, 185, 0, []), none, none, some (.aload_n 2, 287, 0, 0, []), some (.invokevirtual 45, 290, 0, 0, [])],
  [none, none, some (.pop, 291, 0, 0, []), some (.aload_n 2, 292, 0, 0, []), some (.iload 5, 294, 0, 0, []), none, some (.invokevirtual 49, 297, 0, 0, []), none, none, some (.iload 4, 299, 0, 0, []), none, some (.if_icmp .ne 47, 302, 346, 0, []), none, none, some (.aload_n 2, 303, 0, 0, []), some (.iconst 1, 304, 0, 1, [])],
  [some (.invokevirtual 31, 307, 0, 0, []), none, none, some (.ifCond .ne 39, 310, 346, 0, []), none, none, some (.aload_n 2, 311, 0, 0, []), some (.iconst 4, 312, 0, 4, []), some (.invokevirtual 35, 315, 0, 0, []), none, none, some (.ifCond .ne 31, 318, 346, 0, []), none, none, some (.aload_n 2, 319, 0, 0, []), some (.bipush 6, 321, 0, 6, [])],
  [none, some (.invokevirtual 35, 324, 0, 0, []), none, none, some (.ifCond .ne 22, 327, 346, 0, []), none, none, some (.aload_n 2, 328, 0, 0, []), some (.bipush 7, 330, 0, 7, []), none, some (.invokevirtual 35, 333, 0, 0, []), none, none, some (.ifCond .ne 13, 336, 346, 0, []), none, none],
  [some (.aload_n 2, 337, 0, 0, []), some (.bipush 8, 339, 0, 8, []), none, some (.invokevirtual 35, 342, 0, 0, []), none, none, some (.iconst (-1), 343, 0, (-1), []), some (.if_icmp .eq 5, 346, 348, 0, []), none, none, some (.iconst 0, 347, 0, 0, []), some (.ireturn, 348, 0, 0, []), some (.aload_n 2, 349, 0, 0, []), some (.invokevirtual 52, 352, 0, 0, []), none, none],
  [some (.pop, 353, 0, 0, []), some (.iconst 0, 354, 0, 0, []), some (.istore 6, 356, 0, 0, []), none, some (.iload 5, 358, 0, 0, []), none, some (.istore 7, 360, 0, 0, []), none, some (.iload 7, 362, 0, 0, []), none, some (.ifCond .le 26, 365, 388, 0, []), none, none, some (.bipush 10, 367, 0, 10, []), none, some (.iload 6, 369, 0, 0, [])],
  [none, some (.imul, 370, 0, 0, []), some (.iload 7, 372, 0, 0, []), none, some (.bipush 10, 374, 0, 10, []), none, some (.irem, 375, 0, 0, []), some (.iadd, 376, 0, 0, []), some (.istore 6, 378, 0, 0, []), none, some (.iload 7, 380, 0, 0, []), none, some (.bipush 10, 382, 0, 10, []), none, some (.idiv, 383, 0, 0, []), some (.istore 7, 385, 0, 0, [])],
  [none, some (.goto (-25), 388, 360, 0, []), none, none, some (.iload_n 3, 389, 0, 0, []), some (.iconst 2, 390, 0, 2, []), some (.if_icmp .le 16, 393, 406, 0, []), none, none, some (.aload_n 2, 394, 0, 0, []), some (.iload 6, 396, 0, 0, []), none, some (.invokevirtual 49, 399, 0, 0, []), none, none, some (.bipush (-3), 401, 0, (-3), [])],
  [none, some (.if_icmp .eq 5, 404, 406, 0, []), none, none, some (.iconst 0, 405, 0, 0, []), some (.ireturn, 406, 0, 0, []), some (.aload_n 2, 407, 0, 0, []), some (.iconst 2, 408, 0, 2, []), some (.invokevirtual 35, 411, 0, 0, []), none, none, some (.istore 7, 413, 0, 0, []), none, some (.iload 7, 415, 0, 0, []), none, some (.invokestatic 55, 418, 0, 0, [])],
  [none, none, some (.iload_n 3, 419, 0, 0, []), some (.iconst 2, 420, 0, 2, []), some (.irem, 421, 0, 0, []), some (.if_icmp .ne 36, 424, 457, 0, []), none, none, some (.aload_n 2, 425, 0, 0, []), some (.iconst 1, 426, 0, 1, []), some (.invokevirtual 35, 429, 0, 0, []), none, none, some (.iload_n 3, 430, 0, 0, []), some (.iconst 2, 431, 0, 2, []), some (.if_icmp .ne 7, 434, 438, 0, [])],
  [none, none, some (.iconst 2, 435, 0, 2, []), some (.goto 6, 438, 441, 0, []), none, none, some (.iload_n 3, 439, 0, 0, []), some (.iconst 2, 440, 0, 2, []), some (.idiv, 441, 0, 0, []), some (.if_icmp .ne 16, 444, 457, 0, []), none, none, some (.aload_n 2, 445, 0, 0, []), some (.iconst 3, 446, 0, 3, []), some (.invokevirtual 35, 449, 0, 0, []), none],
  [none, some (.aload_n 2, 450, 0, 0, []), some (.iconst 1, 451, 0, 1, []), some (.invokevirtual 35, 454, 0, 0, []), none, none, some (.if_icmp .eq 5, 457, 459, 0, []), none, none, some (.iconst 0, 458, 0, 0, []), some (.ireturn, 459, 0, 0, []), some (.iload_n 3, 460, 0, 0, []), some (.iconst 2, 461, 0, 2, []), some (.if_icmp .ne 108, 464, 569, 0, []), none, none],
  [some (.iload 4, 466, 0, 0, []), none, some (.iconst 4, 467, 0, 4, []), some (.invokestatic 60, 470, 0, 0, []), none, none, some (.istore 8, 472, 0, 0, []), none, some (.iconst 0, 473, 0, 0, []), some (.istore 9, 475, 0, 0, []), none, some (.iload 9, 477, 0, 0, []), none, some (.bipush 8, 479, 0, 8, []), none, some (.if_icmp .ge 57, 482, 536, 0, [])],
  [none, none, some (.aload_n 2, 483, 0, 0, []), some (.iload 9, 485, 0, 0, []), none, some (.iconst 0, 486, 0, 0, []), some (.iconst 1, 487, 0, 1, []), some (.iconst 2, 488, 0, 2, []), some (.invokevirtual 65, 491, 0, 0, []), none, none, some (.iload 4, 493, 0, 0, []), none, some (.iload 9, 495, 0, 0, []), none, some (.iload 8, 497, 0, 0, [])],
  [none, some (.invokestatic 60, 500, 0, 0, []), none, none, some (.isub, 501, 0, 0, []), some (.if_icmp .ne 27, 504, 528, 0, []), none, none, some (.aload_n 2, 505, 0, 0, []), some (.iload 9, 507, 0, 0, []), none, some (.iconst 0, 508, 0, 0, []), some (.iconst 1, 509, 0, 1, []), some (.iconst 0, 510, 0, 0, []), some (.invokevirtual 65, 513, 0, 0, []), none],
  [none, some (.iconst 2, 514, 0, 2, []), some (.iload 4, 516, 0, 0, []), none, some (.iload 9, 518, 0, 0, []), none, some (.iload 8, 520, 0, 0, []), none, some (.invokestatic 60, 523, 0, 0, []), none, none, some (.isub, 524, 0, 0, []), some (.imul, 525, 0, 0, []), some (.if_icmp .eq 5, 528, 530, 0, []), none, none],
  [some (.iconst 0, 529, 0, 0, []), some (.ireturn, 530, 0, 0, []), some (.iinc 9 1, 533, 0, 1, []), none, none, some (.goto (-58), 536, 475, 0, []), none, none, some (.aload_n 2, 537, 0, 0, []), some (.bipush 7, 539, 0, 7, []), none, some (.invokevirtual 35, 542, 0, 0, []), none, none, some (.iload 8, 544, 0, 0, []), none],
  [some (.if_icmp .ne 23, 547, 567, 0, []), none, none, some (.aload_n 2, 548, 0, 0, []), some (.iconst 4, 549, 0, 4, []), some (.invokevirtual 35, 552, 0, 0, []), none, none, some (.iload 4, 554, 0, 0, []), none, some (.iconst 4, 555, 0, 4, []), some (.if_icmp .ge 8, 558, 563, 0, []), none, none, some (.iload 4, 560, 0, 0, []), none],
  [some (.goto 4, 563, 564, 0, []), none, none, some (.iconst (-1), 564, 0, (-1), []), some (.if_icmp .eq 5, 567, 569, 0, []), none, none, some (.iconst 0, 568, 0, 0, []), some (.ireturn, 569, 0, 0, []), some (.iload_n 3, 570, 0, 0, []), some (.iload 4, 572, 0, 0, []), none, some (.imul, 573, 0, 0, []), some (.iload_n 3, 574, 0, 0, []), some (.iconst 2, 575, 0, 2, []), some (.if_icmp .ne 8, 578, 583, 0, [])],
  [none, none, some (.bipush 8, 580, 0, 8, []), none, some (.goto 8, 583, 588, 0, []), none, none, some (.iconst 4, 584, 0, 4, []), some (.iload_n 3, 585, 0, 0, []), some (.imul, 586, 0, 0, []), some (.iconst 2, 587, 0, 2, []), some (.idiv, 588, 0, 0, []), some (.isub, 589, 0, 0, []), some (.istore 8, 591, 0, 0, []), none, some (.aload_n 2, 592, 0, 0, [])],
  [some (.bipush 40, 594, 0, 40, []), none, some (.iconst 0, 595, 0, 0, []), some (.iconst 1, 596, 0, 1, []), some (.iconst 0, 597, 0, 0, []), some (.invokevirtual 65, 600, 0, 0, []), none, none, some (.iload 8, 602, 0, 0, []), none, some (.if_icmp .lt 24, 605, 626, 0, []), none, none, some (.aload_n 2, 606, 0, 0, []), some (.bipush 7, 608, 0, 7, []), none],
  [some (.invokevirtual 35, 611, 0, 0, []), none, none, some (.bipush 20, 613, 0, 20, []), none, some (.if_icmp .gt 13, 616, 626, 0, []), none, none, some (.aload_n 2, 617, 0, 0, []), some (.bipush 7, 619, 0, 7, []), none, some (.invokevirtual 35, 622, 0, 0, []), none, none, some (.iconst 1, 623, 0, 1, []), some (.if_icmp .ge 5, 626, 628, 0, [])],
  [none, none, some (.iconst 0, 627, 0, 0, []), some (.ireturn, 628, 0, 0, []), some (.aload_n 2, 629, 0, 0, []), some (.iconst 1, 630, 0, 1, []), some (.invokevirtual 31, 633, 0, 0, []), none, none, some (.istore 9, 635, 0, 0, []), none, some (.aload_n 2, 636, 0, 0, []), some (.invokevirtual 69, 639, 0, 0, []), none, none, some (.istore 10, 641, 0, 0, [])],
  [none, some (.iload 10, 643, 0, 0, []), none, some (.iload_n 3, 644, 0, 0, []), some (.iconst 2, 645, 0, 2, []), some (.if_icmp .ne 7, 648, 652, 0, []), none, none, some (.iconst 2, 649, 0, 2, []), some (.goto 6, 652, 655, 0, []), none, none, some (.iload_n 3, 653, 0, 0, []), some (.iconst 2, 654, 0, 2, []), some (.idiv, 655, 0, 0, []), some (.if_icmp .ne 38, 658, 693, 0, [])],
  [none, none, some (.aload_n 2, 659, 0, 0, []), some (.iconst 1, 660, 0, 1, []), some (.invokevirtual 31, 663, 0, 0, []), none, none, some (.iload 9, 665, 0, 0, []), none, some (.iload 10, 667, 0, 0, []), none, some (.isub, 668, 0, 0, []), some (.if_icmp .ne 25, 671, 693, 0, []), none, none, some (.aload_n 2, 672, 0, 0, [])],
  [some (.invokevirtual 72, 675, 0, 0, []), none, none, some (.iload_n 3, 676, 0, 0, []), some (.iconst 2, 677, 0, 2, []), some (.idiv, 678, 0, 0, []), some (.iconst 2, 679, 0, 2, []), some (.imul, 680, 0, 0, []), some (.if_icmp .ne 13, 683, 693, 0, []), none, none, some (.aload_n 2, 684, 0, 0, []), some (.iconst 0, 685, 0, 0, []), some (.iconst 1, 686, 0, 1, []), some (.invokevirtual 24, 689, 0, 0, []), none],
  [none, some (.iconst 1, 690, 0, 1, []), some (.if_icmp .eq 5, 693, 695, 0, []), none, none, some (.iconst 0, 694, 0, 0, []), some (.ireturn, 695, 0, 0, []), some (.iconst 0, 696, 0, 0, []), some (.istore 11, 698, 0, 0, []), none, some (.iload 11, 700, 0, 0, []), none, some (.iload_n 3, 701, 0, 0, []), some (.if_icmp .ge 21, 704, 722, 0, []), none, none],
  [some (.aload_n 2, 705, 0, 0, []), some (.iload 11, 707, 0, 0, []), none, some (.iconst 3, 708, 0, 3, []), some (.invokevirtual 24, 711, 0, 0, []), none, none, some (.ifCond .eq 5, 714, 716, 0, []), none, none, some (.iconst 0, 715, 0, 0, []), some (.ireturn, 716, 0, 0, []), some (.iinc 11 1, 719, 0, 1, []), none, none, some (.goto (-21), 722, 698, 0, [])],
  [none, none, some (.aload_n 2, 723, 0, 0, []), some (.iconst 0, 724, 0, 0, []), some (.iconst 0, 725, 0, 0, []), some (.iconst 1, 726, 0, 1, []), some (.bipush 9, 728, 0, 9, []), none, some (.invokevirtual 75, 731, 0, 0, []), none, none, some (.pop, 732, 0, 0, []), some (.aload_n 2, 733, 0, 0, []), some (.iconst 0, 734, 0, 0, []), some (.iconst 0, 735, 0, 0, []), some (.iconst 1, 736, 0, 1, [])],
  [some (.iconst 0, 737, 0, 0, []), some (.invokevirtual 78, 740, 0, 0, []), none, none, some (.iconst (-1), 741, 0, (-1), []), some (.if_icmp .ne 75, 744, 816, 0, []), none, none, some (.aload_n 2, 745, 0, 0, []), some (.iconst 0, 746, 0, 0, []), some (.iconst 0, 747, 0, 0, []), some (.iconst 1, 748, 0, 1, []), some (.iconst 2, 749, 0, 2, []), some (.invokevirtual 78, 752, 0, 0, []), none, none],
  [some (.sipush 1023, 755, 0, 1023, []), none, none, some (.if_icmp .ne 61, 758, 816, 0, []), none, none, some (.aload_n 2, 759, 0, 0, []), some (.iconst 0, 760, 0, 0, []), some (.iconst 0, 761, 0, 0, []), some (.iconst 1, 762, 0, 1, []), some (.iconst 3, 763, 0, 3, []), some (.invokevirtual 78, 766, 0, 0, []), none, none, some (.bipush 100, 768, 0, 100, []), none],
  [some (.if_icmp .ne 48, 771, 816, 0, []), none, none, some (.aload_n 2, 772, 0, 0, []), some (.iconst 0, 773, 0, 0, []), some (.iconst 0, 774, 0, 0, []), some (.iconst 1, 775, 0, 1, []), some (.iconst 5, 776, 0, 5, []), some (.invokevirtual 78, 779, 0, 0, []), none, none, some (.bipush 100, 781, 0, 100, []), none, some (.if_icmp .ne 35, 784, 816, 0, []), none, none],
  [some (.aload_n 2, 785, 0, 0, []), some (.iconst 0, 786, 0, 0, []), some (.iconst 0, 787, 0, 0, []), some (.iconst 1, 788, 0, 1, []), some (.bipush 8, 790, 0, 8, []), none, some (.invokevirtual 78, 793, 0, 0, []), none, none, some (.iconst 1, 794, 0, 1, []), some (.iload_n 3, 795, 0, 0, []), some (.ishl, 796, 0, 0, []), some (.iconst 1, 797, 0, 1, []), some (.isub, 798, 0, 0, []), some (.bipush (-3), 800, 0, (-3), []), none],
  [some (.iand, 801, 0, 0, []), some (.if_icmp .ne 15, 804, 816, 0, []), none, none, some (.aload_n 2, 805, 0, 0, []), some (.iconst 0, 806, 0, 0, []), some (.iconst 0, 807, 0, 0, []), some (.iconst 1, 808, 0, 1, []), some (.iconst 1, 809, 0, 1, []), some (.invokevirtual 78, 812, 0, 0, []), none, none, some (.iconst 5, 813, 0, 5, []), some (.if_icmp .eq 5, 816, 818, 0, []), none, none],
  [some (.iconst 0, 817, 0, 0, []), some (.ireturn, 818, 0, 0, []), some (.iinc 1 1, 821, 0, 1, []), none, none, some (.goto (-819), 824, 2, 0, []), none, none, some (.iconst 1, 825, 0, 1, []), some (.ireturn, 826, 0, 0, [])]]
def m_L_law : MT := ((cd_L_law, 7, 600000, 7302250, 4), (yL_law, cL_law, 12, (some .boolean)))
/-- a link: its kind (0 a method of an object, 1 static, 2 a constructor, 3 Object.<init>, 4 min, 5 max, 6 arraycopy, 7 clone, 8 length, 9 charAt, 10 indexOf, 11 static of the nest, 12 a constructor of the nest), the method, how many arguments -/
abbrev LK : Type := Nat × MT × Nat
def lnk_0 : List (Nat × LK) := [(3, (3, m_none, 0)), (50, (6, m_none, 5)), (56, (0, m_X0_owes, 1)), (65, (0, m_X0_owedTo, 1)), (68, (0, m_X2_value, 2)), (75, (0, m_X0_value, 3)), (78, (0, m_X0_owing, 2)), (81, (0, m_X0_will, 2)), (85, (0, m_X0_breath, 1)), (88, (0, m_X0_pays, 2)), (91, (0, m_X0_settle, 4)), (95, (0, m_X0_lessen, 3)), (99, (4, m_none, 2)), (110, (0, m_X0_may, 2)), (113, (0, m_X0_step, 2)), (116, (0, m_X0_danceRound, 0)), (121, (5, m_none, 2)), (124, (0, m_X0_longest, 4)), (134, (0, m_X0_mayAll, 1)), (138, (0, m_X0_paidBy, 1)), (149, (0, m_X0_firstOtherwise, 2)), (72, (11, m_X5_within, 2))]
def lnk_1 : List (Nat × LK) := [(3, (3, m_none, 0))]
def lnk_2 : List (Nat × LK) := [(3, (3, m_none, 0)), (24, (2, m_X4_init, 2))]
def lnk_3 : List (Nat × LK) := [(3, (3, m_none, 0))]
def lnk_4 : List (Nat × LK) := [(1, (3, m_none, 0))]
def lnk_5 : List (Nat × LK) := [(1, (3, m_none, 0)), (9, (2, m_X2_init, 0)), (18, (2, m_X0_init, 1)), (53, (0, m_X5_told, 2)), (73, (0, m_X5_debtPlace, 1)), (80, (0, m_X0_join, 2)), (83, (0, m_X5_isDancer, 1)), (90, (0, m_X0_breath, 1)), (93, (0, m_X0_owes, 1)), (96, (0, m_X0_owedTo, 1)), (99, (0, m_X5_isTwo, 2)), (103, (0, m_X0_owing, 2)), (106, (0, m_X0_pays, 2)), (109, (0, m_X0_will, 2)), (112, (0, m_X0_may, 2)), (141, (0, m_X0_danceRound, 0)), (145, (0, m_X0_endNight, 0)), (148, (0, m_X5_readRing, 1)), (151, (4, m_none, 2)), (156, (0, m_X0_lessen, 3)), (160, (0, m_X5_think, 0)), (164, (0, m_X0_all, 0)), (167, (0, m_X0_stillOwed, 0)), (170, (0, m_X0_takeFrom, 1)), (174, (0, m_X0_weigh, 0)), (177, (0, m_X0_bestSet, 0)), (180, (0, m_X0_paidBy, 1)), (183, (0, m_X5_sitters, 0)), (186, (0, m_X5_soonest, 0)), (189, (0, m_X0_least, 0)), (192, (0, m_X0_ring, 0)), (194, (0, m_X0_ends, 0)), (197, (0, m_X0_keeps, 0)), (202, (1, m_X5_lowest, 3)), (209, (0, m_X5_clears, 2)), (212, (0, m_X0_mostToMeet, 0)), (218, (0, m_X0_mayAll, 1)), (221, (0, m_X0_danceSet, 2)), (225, (1, m_X5_isSheet, 1)), (232, (0, m_X0_firstOtherwise, 2)), (236, (0, m_X5_kindsTold, 2)), (239, (0, m_X5_numbersTold, 2)), (242, (0, m_X5_roundsTold, 3)), (246, (0, m_X5_donesTold, 3)), (249, (0, m_X5_textsTold, 2)), (252, (0, m_X5_dancersTold, 2)), (255, (0, m_X0_paysAs, 2)), (259, (0, m_X3_become, 2)), (263, (0, m_X3_put, 2)), (34, (12, m_X1_init, 0)), (41, (12, m_X3_init, 0))]
def lnk_6 : List (Nat × LK) := []
def lnk_7 : List (Nat × LK) := [(7, (1, m_L_cell, 2)), (15, (2, m_X5_init, 0)), (16, (1, m_L_some, 3)), (20, (0, m_X5_dancer, 2)), (24, (0, m_X5_told, 2)), (27, (0, m_X5_set, 3)), (31, (0, m_X5_count, 1)), (35, (0, m_X5_best, 1)), (38, (0, m_X5_asks, 3)), (41, (0, m_X5_share, 2)), (45, (0, m_X5_image, 0)), (49, (0, m_X5_strike, 1)), (52, (0, m_X5_back, 0)), (55, (1, m_J6_bitCount_0f7a4, 1)), (60, (4, m_none, 2)), (65, (0, m_X5_run, 4)), (69, (0, m_X5_round, 0)), (72, (0, m_X5_night, 0)), (75, (0, m_X5_film, 4)), (78, (0, m_X5_tells, 4))]
def lnkT : List (List (Nat × LK)) := [lnk_0, lnk_1, lnk_2, lnk_3, lnk_4, lnk_5, lnk_6, lnk_7]
def lnk (own idx : Nat) : Option LK := match nth lnkT own with
  | none => none
  | some l => lkp l idx
/-- a field: its class, its slot, its type (0 int, 1 long, 2 a reference, 3 boolean), whether it is final -/
def fld_0 : List (Nat × (Nat × Nat × Nat × Bool)) := [(9, (0, 5, 2, true)), (15, (0, 6, 2, true)), (18, (0, 7, 2, true)), (21, (0, 8, 2, true)), (27, (0, 11, 2, true)), (30, (0, 12, 2, true)), (33, (0, 0, 2, true)), (37, (0, 1, 0, false)), (41, (0, 2, 0, false)), (44, (0, 3, 0, false)), (47, (0, 4, 0, false)), (60, (2, 2, 2, true)), (104, (0, 9, 0, false)), (128, (0, 10, 0, false)), (141, (3, 1, 0, false)), (146, (3, 2, 2, true))]
def fld_1 : List (Nat × (Nat × Nat × Nat × Bool)) := [(9, (1, 0, 2, true)), (15, (1, 2, 2, true)), (18, (1, 4, 2, true))]
def fld_2 : List (Nat × (Nat × Nat × Nat × Bool)) := [(11, (2, 0, 2, true)), (17, (2, 2, 2, true)), (21, (2, 3, 2, true)), (27, (2, 1, 0, false)), (31, (4, 1, 2, true)), (34, (4, 0, 2, true))]
def fld_3 : List (Nat × (Nat × Nat × Nat × Bool)) := [(9, (3, 0, 0, false)), (15, (3, 2, 2, true)), (19, (3, 1, 0, false))]
def fld_4 : List (Nat × (Nat × Nat × Nat × Bool)) := [(7, (4, 0, 2, true)), (13, (4, 1, 2, true))]
def fld_5 : List (Nat × (Nat × Nat × Nat × Bool)) := [(10, (5, 0, 2, true)), (21, (5, 1, 2, true)), (25, (5, 2, 2, true)), (28, (5, 3, 2, true)), (35, (5, 4, 2, true)), (42, (5, 5, 2, true)), (46, (5, 7, 2, true)), (57, (0, 2, 0, false)), (61, (0, 3, 0, false)), (64, (0, 6, 2, true)), (67, (0, 7, 2, true)), (70, (0, 8, 2, true)), (77, (0, 1, 0, false)), (87, (0, 5, 2, true)), (118, (1, 1, 0, false)), (121, (2, 1, 0, false)), (135, (0, 4, 0, false)), (206, (0, 9, 0, false)), (228, (3, 0, 0, false)), (231, (3, 1, 0, false)), (270, (5, 6, 3, false))]
def fld_6 : List (Nat × (Nat × Nat × Nat × Bool)) := []
def fld_7 : List (Nat × (Nat × Nat × Nat × Bool)) := []
def fldT : List (List (Nat × (Nat × Nat × Nat × Bool))) := [fld_0, fld_1, fld_2, fld_3, fld_4, fld_5, fld_6, fld_7]
def fld (own idx : Nat) : Option (Nat × Nat × Nat × Bool) := match nth fldT own with
  | none => none
  | some l => lkp l idx
/-- the static arrays, by their parts -/
def sflT : List (List (Nat × Nat)) := [[(24, 61), (107, 62), (131, 63)], [], [], [], [], [(50, 64), (215, 63)], [], []]
def sfl (own idx : Nat) : Option Nat := match nth sflT own with
  | none => none
  | some l => lkp l idx
/-- the classes that are named (8: int[]) -/
def clkT : List (List (Nat × Nat)) := [[], [], [(9, 4)], [], [], [(7, 2), (16, 0), (32, 1), (39, 3)], [], [(13, 5)]]
def clk (own idx : Nat) : Option Nat := match nth clkT own with
  | none => none
  | some l => lkp l idx
def lckT : List (List (Nat × Int64)) := [[], [], [], [], [], [(200, (-4611686018427387904))], [], []]
def lck (own idx : Nat) : Option Int64 := match nth lckT own with
  | none => none
  | some l => lkp l idx
def ickT : List (List (Nat × Int32)) := [[], [], [], [], [], [], [(265, 1431655765), (266, 858993459), (267, 252645135)], []]
def ick (own idx : Nat) : Option Int32 := match nth ickT own with
  | none => none
  | some l => lkp l idx
def stk (own idx : Nat) : Option Nat := match nth ([[], [], [], [], [], [], [], []] : List (List (Nat × Nat))) own with
  | none => none
  | some l => lkp l idx
def strT : List (List Int32) := []
/-- the signs of the text constant g -/
def strG (g : Nat) : List Int32 := match nth strT g with
  | none => []
  | some l => l
theorem nth_get {α : Type} : ∀ (l : List α) (n : Nat), nth l n = l[n]?
  | [], n => by simp [nth]
  | a :: l, 0 => by simp [nth]
  | a :: l, n + 1 => by simp [nth, nth_get l n]
/-- how many slots an object has -/
def nFl (ci : Nat) : Nat := match nth vwCl ci with
  | none => 0
  | some q => q.2.2
/-- the type of a slot: 0 int, 1 long, 2 a reference, 3 boolean -/
def tcd (ty : FieldType) : Nat := match ty with
  | .int => 0
  | .long => 1
  | .boolean => 3
  | .object _ => 2
  | .array _ => 2
  | _ => 9
def ftT : List (Nat → FieldType) := [tyX0, tyX1, tyX2, tyX3, tyX4, tyX5]
def fty (ci k : Nat) : Nat := match nth ftT ci with
  | none => 0
  | some f => tcd (f k)
def own8 (n : Nat) : String := match n with
  | 0 => RX0 | 1 => RX1 | 2 => RX2 | 3 => RX3 | 4 => RX4 | 5 => RX5 | 6 => RJ6 | _ => RL
def stN (j : Nat) : String := match j with
  | 61 => "LESSER" | 62 => "GREATER" | 63 => "SETS" | 64 => "GREATEST" | _ => "UNDER"
end
section
/-! THE TABLES' WORDS behind every link -/
theorem gi_r {big : List Cond} (ws : List Cond) (ps : List Nat) (hp : ws = ps.filterMap (fun i => big[i]?)) (h : ws.all goodWord = true) : GoodIn big ws := by
  intro w hw
  have h1 := List.all_eq_true.mp h w hw
  rw [hp] at hw
  obtain ⟨i, -, hi⟩ := List.mem_filterMap.mp hw
  have hm : w ∈ big := by first | exact List.mem_of_getElem? hi | exact List.getElem?_mem hi
  exact ⟨hm, good_of_word h1⟩
def wC (Z : MT) : Cond := .code Z.2.1 Z.2.2.1 Z.2.2.2.1 Z.2.2.2.2
def lwords (own idx : Nat) (e : LK) : List Cond := match e.1 with
  | 0 => [.methodLink (own8 own) idx e.2.1.2.1, .instanceMethod e.2.1.2.1, .selects e.2.1.2.1.cls e.2.1.2.1 e.2.1.2.1, .initialized e.2.1.2.1.cls, wC e.2.1]
  | 1 => [.methodLink (own8 own) idx e.2.1.2.1, .static e.2.1.2.1, .initialized e.2.1.2.1.cls, wC e.2.1]
  | 2 => [.methodLink (own8 own) idx e.2.1.2.1, .instanceMethod e.2.1.2.1, .initialized e.2.1.2.1.cls, wC e.2.1]
  | 3 => [.methodLink (own8 own) idx objectInit, .instanceMethod objectInit, .code objectInit ⟨#[0xb1]⟩ 1 none]
  | 4 => [.methodLink (own8 own) idx Lib.Math.min.name, .static Lib.Math.min.name, .initialized "java/lang/Math", .code Lib.Math.min.name Lib.Math.min.code 2 (some .int)]
  | 5 => [.methodLink (own8 own) idx Lib.Math.max.name, .static Lib.Math.max.name, .initialized "java/lang/Math", .code Lib.Math.max.name Lib.Math.max.code 2 (some .int)]
  | 6 => [.methodLink (own8 own) idx arraycopyName, .native arraycopyName, .static arraycopyName, .initialized "java/lang/System"]
  | 7 => [.methodLink (own8 own) idx ⟨"[I", "clone", "()Ljava/lang/Object;"⟩, .sameMethod "[I" "java/lang/Object" "clone" "()Ljava/lang/Object;", .native ⟨"java/lang/Object", "clone", "()Ljava/lang/Object;"⟩, .instanceMethod ⟨"java/lang/Object", "clone", "()Ljava/lang/Object;"⟩, .selects "[I" ⟨"[I", "clone", "()Ljava/lang/Object;"⟩ ⟨"java/lang/Object", "clone", "()Ljava/lang/Object;"⟩]
  | 11 => [.static e.2.1.2.1, .initialized e.2.1.2.1.cls, wC e.2.1]
  | 12 => [.instanceMethod e.2.1.2.1, .initialized e.2.1.2.1.cls, wC e.2.1]
  | _ => []
def enum {α : Type} : List α → Nat → List (Nat × α)
  | [], _ => []
  | a :: l, n => (n, a) :: enum l (n + 1)
theorem enum_nth {α : Type} : ∀ (l : List α) (n i : Nat) (a : α), nth l i = some a → (n + i, a) ∈ enum l n
  | [], _, _, _, h => by simp [nth] at h
  | b :: l, n, 0, a, h => by
    simp only [nth, Option.some.injEq] at h
    subst h
    exact List.mem_cons_self
  | b :: l, n, i + 1, a, h => by
    have h1 := enum_nth l (n + 1) i a h
    have e : n + 1 + i = n + (i + 1) := by omega
    rw [e] at h1
    exact List.mem_cons_of_mem _ h1
theorem lkp_mem {α : Type} : ∀ (l : List (Nat × α)) (i : Nat) (a : α), lkp l i = some a → (i, a) ∈ l
  | [], _, _, h => by simp [lkp] at h
  | b :: l, i, a, h => by
    simp only [lkp] at h
    by_cases hb : Nat.beq b.1 i = true
    · rw [hb] at h
      simp only [cond_true, Option.some.injEq] at h
      have := Nat.eq_of_beq_eq_true hb
      subst this
      subst h
      exact List.mem_cons_self
    · have hb : Nat.beq b.1 i = false := Bool.eq_false_iff.mpr hb
      rw [hb] at h
      exact List.mem_cons_of_mem _ (lkp_mem l i a h)
/-- all that a table of links says -/
def allT {α : Type} (T : List (List (Nat × α))) (f : Nat → Nat → α → List Cond) : List Cond := (enum T 0).flatMap fun q => q.2.flatMap fun e => f q.1 e.1 e.2
theorem allT_in {α : Type} {T : List (List (Nat × α))} {f : Nat → Nat → α → List Cond} {own idx : Nat} {l : List (Nat × α)} {e : α} (h1 : nth T own = some l) (h2 : lkp l idx = some e) {w : Cond} (hw : w ∈ f own idx e) : w ∈ allT T f := by
  refine List.mem_flatMap.mpr ⟨(own, l), ?_, List.mem_flatMap.mpr ⟨(idx, e), lkp_mem l idx e h2, hw⟩⟩
  have := enum_nth T 0 own l h1
  simpa using this
theorem lw_0_3 : GoodIn lw_tbl (lwords 0 3 (3, m_none, 0)) := gi_r _ [78, 33, 34] (by decide +kernel) (by decide +kernel)
theorem lw_0_50 : GoodIn lw_tbl (lwords 0 50 (6, m_none, 5)) := gi_r _ [343, 345, 344, 24] (by decide +kernel) (by decide +kernel)
theorem lw_0_56 : GoodIn lw_tbl (lwords 0 56 (0, m_X0_owes, 1)) := gi_r _ [350, 250, 251, 21, 252] (by decide +kernel) (by decide +kernel)
theorem lw_0_65 : GoodIn lw_tbl (lwords 0 65 (0, m_X0_owedTo, 1)) := gi_r _ [238, 239, 240, 21, 241] (by decide +kernel) (by decide +kernel)
theorem lw_0_68 : GoodIn lw_tbl (lwords 0 68 (0, m_X2_value, 2)) := gi_r _ [242, 243, 244, 19, 245] (by decide +kernel) (by decide +kernel)
theorem lw_0_75 : GoodIn lw_tbl (lwords 0 75 (0, m_X0_value, 3)) := gi_r _ [234, 236, 3, 21, 237] (by decide +kernel) (by decide +kernel)
theorem lw_0_78 : GoodIn lw_tbl (lwords 0 78 (0, m_X0_owing, 2)) := gi_r _ [279, 268, 269, 21, 270] (by decide +kernel) (by decide +kernel)
theorem lw_0_81 : GoodIn lw_tbl (lwords 0 81 (0, m_X0_will, 2)) := gi_r _ [284, 276, 277, 21, 278] (by decide +kernel) (by decide +kernel)
theorem lw_0_85 : GoodIn lw_tbl (lwords 0 85 (0, m_X0_breath, 1)) := gi_r _ [285, 231, 232, 21, 233] (by decide +kernel) (by decide +kernel)
theorem lw_0_88 : GoodIn lw_tbl (lwords 0 88 (0, m_X0_pays, 2)) := gi_r _ [301, 272, 273, 21, 274] (by decide +kernel) (by decide +kernel)
theorem lw_0_91 : GoodIn lw_tbl (lwords 0 91 (0, m_X0_settle, 4)) := gi_r _ [302, 304, 4, 21, 305] (by decide +kernel) (by decide +kernel)
theorem lw_0_95 : GoodIn lw_tbl (lwords 0 95 (0, m_X0_lessen, 3)) := gi_r _ [306, 307, 308, 21, 309] (by decide +kernel) (by decide +kernel)
theorem lw_0_99 : GoodIn lw_tbl (lwords 0 99 (4, m_none, 2)) := gi_r _ [310, 311, 25, 312] (by decide +kernel) (by decide +kernel)
theorem lw_0_110 : GoodIn lw_tbl (lwords 0 110 (0, m_X0_may, 2)) := gi_r _ [296, 281, 282, 21, 283] (by decide +kernel) (by decide +kernel)
theorem lw_0_113 : GoodIn lw_tbl (lwords 0 113 (0, m_X0_step, 2)) := gi_r _ [297, 298, 299, 21, 300] (by decide +kernel) (by decide +kernel)
theorem lw_0_116 : GoodIn lw_tbl (lwords 0 116 (0, m_X0_danceRound, 0)) := gi_r _ [419, 291, 292, 21, 293] (by decide +kernel) (by decide +kernel)
theorem lw_0_121 : GoodIn lw_tbl (lwords 0 121 (5, m_none, 2)) := gi_r _ [394, 395, 25, 396] (by decide +kernel) (by decide +kernel)
theorem lw_0_124 : GoodIn lw_tbl (lwords 0 124 (0, m_X0_longest, 4)) := gi_r _ [411, 413, 10, 21, 414] (by decide +kernel) (by decide +kernel)
theorem lw_0_134 : GoodIn lw_tbl (lwords 0 134 (0, m_X0_mayAll, 1)) := gi_r _ [369, 370, 371, 21, 372] (by decide +kernel) (by decide +kernel)
theorem lw_0_138 : GoodIn lw_tbl (lwords 0 138 (0, m_X0_paidBy, 1)) := gi_r _ [373, 374, 375, 21, 376] (by decide +kernel) (by decide +kernel)
theorem lw_0_149 : GoodIn lw_tbl (lwords 0 149 (0, m_X0_firstOtherwise, 2)) := gi_r _ [451, 440, 441, 21, 442] (by decide +kernel) (by decide +kernel)
theorem lw_0_72 : GoodIn lw_tbl (lwords 0 72 (11, m_X5_within, 2)) := gi_r _ [247, 18, 248] (by decide +kernel) (by decide +kernel)
theorem lwA_0 : ∀ q ∈ lnk_0, GoodIn lw_tbl (lwords 0 q.1 q.2) := List.forall_mem_cons.mpr ⟨lw_0_3, List.forall_mem_cons.mpr ⟨lw_0_50, List.forall_mem_cons.mpr ⟨lw_0_56, List.forall_mem_cons.mpr ⟨lw_0_65, List.forall_mem_cons.mpr ⟨lw_0_68, List.forall_mem_cons.mpr ⟨lw_0_75, List.forall_mem_cons.mpr ⟨lw_0_78, List.forall_mem_cons.mpr ⟨lw_0_81, List.forall_mem_cons.mpr ⟨lw_0_85, List.forall_mem_cons.mpr ⟨lw_0_88, List.forall_mem_cons.mpr ⟨lw_0_91, List.forall_mem_cons.mpr ⟨lw_0_95, List.forall_mem_cons.mpr ⟨lw_0_99, List.forall_mem_cons.mpr ⟨lw_0_110, List.forall_mem_cons.mpr ⟨lw_0_113, List.forall_mem_cons.mpr ⟨lw_0_116, List.forall_mem_cons.mpr ⟨lw_0_121, List.forall_mem_cons.mpr ⟨lw_0_124, List.forall_mem_cons.mpr ⟨lw_0_134, List.forall_mem_cons.mpr ⟨lw_0_138, List.forall_mem_cons.mpr ⟨lw_0_149, List.forall_mem_cons.mpr ⟨lw_0_72, fun _ h => absurd h List.not_mem_nil⟩⟩⟩⟩⟩⟩⟩⟩⟩⟩⟩⟩⟩⟩⟩⟩⟩⟩⟩⟩⟩⟩
theorem lw_1_3 : GoodIn lw_tbl (lwords 1 3 (3, m_none, 0)) := gi_r _ [136, 33, 34] (by decide +kernel) (by decide +kernel)
theorem lwA_1 : ∀ q ∈ lnk_1, GoodIn lw_tbl (lwords 1 q.1 q.2) := List.forall_mem_cons.mpr ⟨lw_1_3, fun _ h => absurd h List.not_mem_nil⟩
theorem lw_2_3 : GoodIn lw_tbl (lwords 2 3 (3, m_none, 0)) := gi_r _ [40, 33, 34] (by decide +kernel) (by decide +kernel)
theorem lw_2_24 : GoodIn lw_tbl (lwords 2 24 (2, m_X4_init, 2)) := gi_r _ [44, 45, 20, 46] (by decide +kernel) (by decide +kernel)
theorem lwA_2 : ∀ q ∈ lnk_2, GoodIn lw_tbl (lwords 2 q.1 q.2) := List.forall_mem_cons.mpr ⟨lw_2_3, List.forall_mem_cons.mpr ⟨lw_2_24, fun _ h => absurd h List.not_mem_nil⟩⟩
theorem lw_3_3 : GoodIn lw_tbl (lwords 3 3 (3, m_none, 0)) := gi_r _ [168, 33, 34] (by decide +kernel) (by decide +kernel)
theorem lwA_3 : ∀ q ∈ lnk_3, GoodIn lw_tbl (lwords 3 q.1 q.2) := List.forall_mem_cons.mpr ⟨lw_3_3, fun _ h => absurd h List.not_mem_nil⟩
theorem lw_4_1 : GoodIn lw_tbl (lwords 4 1 (3, m_none, 0)) := gi_r _ [47, 33, 34] (by decide +kernel) (by decide +kernel)
theorem lwA_4 : ∀ q ∈ lnk_4, GoodIn lw_tbl (lwords 4 q.1 q.2) := List.forall_mem_cons.mpr ⟨lw_4_1, fun _ h => absurd h List.not_mem_nil⟩
theorem lw_5_1 : GoodIn lw_tbl (lwords 5 1 (3, m_none, 0)) := gi_r _ [32, 33, 34] (by decide +kernel) (by decide +kernel)
theorem lw_5_9 : GoodIn lw_tbl (lwords 5 9 (2, m_X2_init, 0)) := gi_r _ [37, 38, 19, 39] (by decide +kernel) (by decide +kernel)
theorem lw_5_18 : GoodIn lw_tbl (lwords 5 18 (2, m_X0_init, 1)) := gi_r _ [75, 76, 21, 77] (by decide +kernel) (by decide +kernel)
theorem lw_5_53 : GoodIn lw_tbl (lwords 5 53 (0, m_X5_told, 2)) := gi_r _ [214, 215, 216, 18, 217] (by decide +kernel) (by decide +kernel)
theorem lw_5_73 : GoodIn lw_tbl (lwords 5 73 (0, m_X5_debtPlace, 1)) := gi_r _ [218, 220, 0, 18, 221] (by decide +kernel) (by decide +kernel)
theorem lw_5_80 : GoodIn lw_tbl (lwords 5 80 (0, m_X0_join, 2)) := gi_r _ [258, 259, 260, 21, 261] (by decide +kernel) (by decide +kernel)
theorem lw_5_83 : GoodIn lw_tbl (lwords 5 83 (0, m_X5_isDancer, 1)) := gi_r _ [226, 228, 2, 18, 229] (by decide +kernel) (by decide +kernel)
theorem lw_5_90 : GoodIn lw_tbl (lwords 5 90 (0, m_X0_breath, 1)) := gi_r _ [230, 231, 232, 21, 233] (by decide +kernel) (by decide +kernel)
theorem lw_5_93 : GoodIn lw_tbl (lwords 5 93 (0, m_X0_owes, 1)) := gi_r _ [249, 250, 251, 21, 252] (by decide +kernel) (by decide +kernel)
theorem lw_5_96 : GoodIn lw_tbl (lwords 5 96 (0, m_X0_owedTo, 1)) := gi_r _ [253, 239, 240, 21, 241] (by decide +kernel) (by decide +kernel)
theorem lw_5_99 : GoodIn lw_tbl (lwords 5 99 (0, m_X5_isTwo, 2)) := gi_r _ [222, 224, 1, 18, 225] (by decide +kernel) (by decide +kernel)
theorem lw_5_103 : GoodIn lw_tbl (lwords 5 103 (0, m_X0_owing, 2)) := gi_r _ [267, 268, 269, 21, 270] (by decide +kernel) (by decide +kernel)
theorem lw_5_106 : GoodIn lw_tbl (lwords 5 106 (0, m_X0_pays, 2)) := gi_r _ [271, 272, 273, 21, 274] (by decide +kernel) (by decide +kernel)
theorem lw_5_109 : GoodIn lw_tbl (lwords 5 109 (0, m_X0_will, 2)) := gi_r _ [275, 276, 277, 21, 278] (by decide +kernel) (by decide +kernel)
theorem lw_5_112 : GoodIn lw_tbl (lwords 5 112 (0, m_X0_may, 2)) := gi_r _ [280, 281, 282, 21, 283] (by decide +kernel) (by decide +kernel)
theorem lw_5_141 : GoodIn lw_tbl (lwords 5 141 (0, m_X0_danceRound, 0)) := gi_r _ [290, 291, 292, 21, 293] (by decide +kernel) (by decide +kernel)
theorem lw_5_145 : GoodIn lw_tbl (lwords 5 145 (0, m_X0_endNight, 0)) := gi_r _ [317, 318, 319, 21, 320] (by decide +kernel) (by decide +kernel)
theorem lw_5_148 : GoodIn lw_tbl (lwords 5 148 (0, m_X5_readRing, 1)) := gi_r _ [325, 327, 5, 18, 328] (by decide +kernel) (by decide +kernel)
theorem lw_5_151 : GoodIn lw_tbl (lwords 5 151 (4, m_none, 2)) := gi_r _ [329, 311, 25, 312] (by decide +kernel) (by decide +kernel)
theorem lw_5_156 : GoodIn lw_tbl (lwords 5 156 (0, m_X0_lessen, 3)) := gi_r _ [330, 307, 308, 21, 309] (by decide +kernel) (by decide +kernel)
theorem lw_5_160 : GoodIn lw_tbl (lwords 5 160 (0, m_X5_think, 0)) := gi_r _ [335, 337, 6, 18, 338] (by decide +kernel) (by decide +kernel)
theorem lw_5_164 : GoodIn lw_tbl (lwords 5 164 (0, m_X0_all, 0)) := gi_r _ [346, 347, 348, 21, 349] (by decide +kernel) (by decide +kernel)
theorem lw_5_167 : GoodIn lw_tbl (lwords 5 167 (0, m_X0_stillOwed, 0)) := gi_r _ [351, 352, 353, 21, 354] (by decide +kernel) (by decide +kernel)
theorem lw_5_170 : GoodIn lw_tbl (lwords 5 170 (0, m_X0_takeFrom, 1)) := gi_r _ [339, 340, 341, 21, 342] (by decide +kernel) (by decide +kernel)
theorem lw_5_174 : GoodIn lw_tbl (lwords 5 174 (0, m_X0_weigh, 0)) := gi_r _ [359, 360, 361, 21, 362] (by decide +kernel) (by decide +kernel)
theorem lw_5_177 : GoodIn lw_tbl (lwords 5 177 (0, m_X0_bestSet, 0)) := gi_r _ [363, 364, 365, 21, 366] (by decide +kernel) (by decide +kernel)
theorem lw_5_180 : GoodIn lw_tbl (lwords 5 180 (0, m_X0_paidBy, 1)) := gi_r _ [377, 374, 375, 21, 376] (by decide +kernel) (by decide +kernel)
theorem lw_5_183 : GoodIn lw_tbl (lwords 5 183 (0, m_X5_sitters, 0)) := gi_r _ [378, 380, 7, 18, 381] (by decide +kernel) (by decide +kernel)
theorem lw_5_186 : GoodIn lw_tbl (lwords 5 186 (0, m_X5_soonest, 0)) := gi_r _ [382, 384, 8, 18, 385] (by decide +kernel) (by decide +kernel)
theorem lw_5_189 : GoodIn lw_tbl (lwords 5 189 (0, m_X0_least, 0)) := gi_r _ [403, 404, 405, 21, 406] (by decide +kernel) (by decide +kernel)
theorem lw_5_192 : GoodIn lw_tbl (lwords 5 192 (0, m_X0_ring, 0)) := gi_r _ [407, 408, 409, 21, 410] (by decide +kernel) (by decide +kernel)
theorem lw_5_194 : GoodIn lw_tbl (lwords 5 194 (0, m_X0_ends, 0)) := gi_r _ [415, 416, 417, 21, 418] (by decide +kernel) (by decide +kernel)
theorem lw_5_197 : GoodIn lw_tbl (lwords 5 197 (0, m_X0_keeps, 0)) := gi_r _ [420, 421, 422, 21, 423] (by decide +kernel) (by decide +kernel)
theorem lw_5_202 : GoodIn lw_tbl (lwords 5 202 (1, m_X5_lowest, 3)) := gi_r _ [429, 430, 18, 431] (by decide +kernel) (by decide +kernel)
theorem lw_5_209 : GoodIn lw_tbl (lwords 5 209 (0, m_X5_clears, 2)) := gi_r _ [386, 388, 9, 18, 389] (by decide +kernel) (by decide +kernel)
theorem lw_5_212 : GoodIn lw_tbl (lwords 5 212 (0, m_X0_mostToMeet, 0)) := gi_r _ [390, 391, 392, 21, 393] (by decide +kernel) (by decide +kernel)
theorem lw_5_218 : GoodIn lw_tbl (lwords 5 218 (0, m_X0_mayAll, 1)) := gi_r _ [398, 370, 371, 21, 372] (by decide +kernel) (by decide +kernel)
theorem lw_5_221 : GoodIn lw_tbl (lwords 5 221 (0, m_X0_danceSet, 2)) := gi_r _ [399, 400, 401, 21, 402] (by decide +kernel) (by decide +kernel)
theorem lw_5_225 : GoodIn lw_tbl (lwords 5 225 (1, m_X5_isSheet, 1)) := gi_r _ [436, 437, 18, 438] (by decide +kernel) (by decide +kernel)
theorem lw_5_232 : GoodIn lw_tbl (lwords 5 232 (0, m_X0_firstOtherwise, 2)) := gi_r _ [439, 440, 441, 21, 442] (by decide +kernel) (by decide +kernel)
theorem lw_5_236 : GoodIn lw_tbl (lwords 5 236 (0, m_X5_kindsTold, 2)) := gi_r _ [443, 445, 11, 18, 446] (by decide +kernel) (by decide +kernel)
theorem lw_5_239 : GoodIn lw_tbl (lwords 5 239 (0, m_X5_numbersTold, 2)) := gi_r _ [452, 454, 12, 18, 455] (by decide +kernel) (by decide +kernel)
theorem lw_5_242 : GoodIn lw_tbl (lwords 5 242 (0, m_X5_roundsTold, 3)) := gi_r _ [456, 458, 13, 18, 459] (by decide +kernel) (by decide +kernel)
theorem lw_5_246 : GoodIn lw_tbl (lwords 5 246 (0, m_X5_donesTold, 3)) := gi_r _ [460, 462, 14, 18, 463] (by decide +kernel) (by decide +kernel)
theorem lw_5_249 : GoodIn lw_tbl (lwords 5 249 (0, m_X5_textsTold, 2)) := gi_r _ [464, 466, 15, 18, 467] (by decide +kernel) (by decide +kernel)
theorem lw_5_252 : GoodIn lw_tbl (lwords 5 252 (0, m_X5_dancersTold, 2)) := gi_r _ [468, 470, 16, 18, 471] (by decide +kernel) (by decide +kernel)
theorem lw_5_255 : GoodIn lw_tbl (lwords 5 255 (0, m_X0_paysAs, 2)) := gi_r _ [447, 448, 449, 21, 450] (by decide +kernel) (by decide +kernel)
theorem lw_5_259 : GoodIn lw_tbl (lwords 5 259 (0, m_X3_become, 2)) := gi_r _ [476, 477, 478, 23, 479] (by decide +kernel) (by decide +kernel)
theorem lw_5_263 : GoodIn lw_tbl (lwords 5 263 (0, m_X3_put, 2)) := gi_r _ [480, 481, 482, 23, 483] (by decide +kernel) (by decide +kernel)
theorem lw_5_34 : GoodIn lw_tbl (lwords 5 34 (12, m_X1_init, 0)) := gi_r _ [134, 22, 135] (by decide +kernel) (by decide +kernel)
theorem lw_5_41 : GoodIn lw_tbl (lwords 5 41 (12, m_X3_init, 0)) := gi_r _ [166, 23, 167] (by decide +kernel) (by decide +kernel)
theorem lwA_5 : ∀ q ∈ lnk_5, GoodIn lw_tbl (lwords 5 q.1 q.2) := List.forall_mem_cons.mpr ⟨lw_5_1, List.forall_mem_cons.mpr ⟨lw_5_9, List.forall_mem_cons.mpr ⟨lw_5_18, List.forall_mem_cons.mpr ⟨lw_5_53, List.forall_mem_cons.mpr ⟨lw_5_73, List.forall_mem_cons.mpr ⟨lw_5_80, List.forall_mem_cons.mpr ⟨lw_5_83, List.forall_mem_cons.mpr ⟨lw_5_90, List.forall_mem_cons.mpr ⟨lw_5_93, List.forall_mem_cons.mpr ⟨lw_5_96, List.forall_mem_cons.mpr ⟨lw_5_99, List.forall_mem_cons.mpr ⟨lw_5_103, List.forall_mem_cons.mpr ⟨lw_5_106, List.forall_mem_cons.mpr ⟨lw_5_109, List.forall_mem_cons.mpr ⟨lw_5_112, List.forall_mem_cons.mpr ⟨lw_5_141, List.forall_mem_cons.mpr ⟨lw_5_145, List.forall_mem_cons.mpr ⟨lw_5_148, List.forall_mem_cons.mpr ⟨lw_5_151, List.forall_mem_cons.mpr ⟨lw_5_156, List.forall_mem_cons.mpr ⟨lw_5_160, List.forall_mem_cons.mpr ⟨lw_5_164, List.forall_mem_cons.mpr ⟨lw_5_167, List.forall_mem_cons.mpr ⟨lw_5_170, List.forall_mem_cons.mpr ⟨lw_5_174, List.forall_mem_cons.mpr ⟨lw_5_177, List.forall_mem_cons.mpr ⟨lw_5_180, List.forall_mem_cons.mpr ⟨lw_5_183, List.forall_mem_cons.mpr ⟨lw_5_186, List.forall_mem_cons.mpr ⟨lw_5_189, List.forall_mem_cons.mpr ⟨lw_5_192, List.forall_mem_cons.mpr ⟨lw_5_194, List.forall_mem_cons.mpr ⟨lw_5_197, List.forall_mem_cons.mpr ⟨lw_5_202, List.forall_mem_cons.mpr ⟨lw_5_209, List.forall_mem_cons.mpr ⟨lw_5_212, List.forall_mem_cons.mpr ⟨lw_5_218, List.forall_mem_cons.mpr ⟨lw_5_221, List.forall_mem_cons.mpr ⟨lw_5_225, List.forall_mem_cons.mpr ⟨lw_5_232, List.forall_mem_cons.mpr ⟨lw_5_236, List.forall_mem_cons.mpr ⟨lw_5_239, List.forall_mem_cons.mpr ⟨lw_5_242, List.forall_mem_cons.mpr ⟨lw_5_246, List.forall_mem_cons.mpr ⟨lw_5_249, List.forall_mem_cons.mpr ⟨lw_5_252, List.forall_mem_cons.mpr ⟨lw_5_255, List.forall_mem_cons.mpr ⟨lw_5_259, List.forall_mem_cons.mpr ⟨lw_5_263, List.forall_mem_cons.mpr ⟨lw_5_34, List.forall_mem_cons.mpr ⟨lw_5_41, fun _ h => absurd h List.not_mem_nil⟩⟩⟩⟩⟩⟩⟩⟩⟩⟩⟩⟩⟩⟩⟩⟩⟩⟩⟩⟩⟩⟩⟩⟩⟩⟩⟩⟩⟩⟩⟩⟩⟩⟩⟩⟩⟩⟩⟩⟩⟩⟩⟩⟩⟩⟩⟩⟩⟩⟩⟩
theorem lwA_6 : ∀ q ∈ lnk_6, GoodIn lw_tbl (lwords 6 q.1 q.2) := fun _ h => absurd h List.not_mem_nil
theorem lw_7_7 : GoodIn lw_tbl (lwords 7 7 (1, m_L_cell, 2)) := gi_r _ [499, 500, 17, 501] (by decide +kernel) (by decide +kernel)
theorem lw_7_15 : GoodIn lw_tbl (lwords 7 15 (2, m_X5_init, 0)) := gi_r _ [29, 30, 18, 31] (by decide +kernel) (by decide +kernel)
theorem lw_7_16 : GoodIn lw_tbl (lwords 7 16 (1, m_L_some, 3)) := gi_r _ [496, 497, 17, 498] (by decide +kernel) (by decide +kernel)
theorem lw_7_20 : GoodIn lw_tbl (lwords 7 20 (0, m_X5_dancer, 2)) := gi_r _ [254, 255, 256, 18, 257] (by decide +kernel) (by decide +kernel)
theorem lw_7_24 : GoodIn lw_tbl (lwords 7 24 (0, m_X5_told, 2)) := gi_r _ [262, 215, 216, 18, 217] (by decide +kernel) (by decide +kernel)
theorem lw_7_27 : GoodIn lw_tbl (lwords 7 27 (0, m_X5_set, 3)) := gi_r _ [208, 209, 210, 18, 211] (by decide +kernel) (by decide +kernel)
theorem lw_7_31 : GoodIn lw_tbl (lwords 7 31 (0, m_X5_count, 1)) := gi_r _ [492, 493, 494, 18, 495] (by decide +kernel) (by decide +kernel)
theorem lw_7_35 : GoodIn lw_tbl (lwords 7 35 (0, m_X5_best, 1)) := gi_r _ [355, 356, 357, 18, 358] (by decide +kernel) (by decide +kernel)
theorem lw_7_38 : GoodIn lw_tbl (lwords 7 38 (0, m_X5_asks, 3)) := gi_r _ [263, 264, 265, 18, 266] (by decide +kernel) (by decide +kernel)
theorem lw_7_41 : GoodIn lw_tbl (lwords 7 41 (0, m_X5_share, 2)) := gi_r _ [424, 425, 426, 18, 427] (by decide +kernel) (by decide +kernel)
theorem lw_7_45 : GoodIn lw_tbl (lwords 7 45 (0, m_X5_image, 0)) := gi_r _ [484, 485, 486, 18, 487] (by decide +kernel) (by decide +kernel)
theorem lw_7_49 : GoodIn lw_tbl (lwords 7 49 (0, m_X5_strike, 1)) := gi_r _ [321, 322, 323, 18, 324] (by decide +kernel) (by decide +kernel)
theorem lw_7_52 : GoodIn lw_tbl (lwords 7 52 (0, m_X5_back, 0)) := gi_r _ [488, 489, 490, 18, 491] (by decide +kernel) (by decide +kernel)
theorem lw_7_55 : GoodIn lw_tbl (lwords 7 55 (1, m_J6_bitCount_0f7a4, 1)) := gi_r _ [502, 503, 26, 504] (by decide +kernel) (by decide +kernel)
theorem lw_7_60 : GoodIn lw_tbl (lwords 7 60 (4, m_none, 2)) := gi_r _ [508, 311, 25, 312] (by decide +kernel) (by decide +kernel)
theorem lw_7_65 : GoodIn lw_tbl (lwords 7 65 (0, m_X5_run, 4)) := gi_r _ [331, 332, 333, 18, 334] (by decide +kernel) (by decide +kernel)
theorem lw_7_69 : GoodIn lw_tbl (lwords 7 69 (0, m_X5_round, 0)) := gi_r _ [286, 287, 288, 18, 289] (by decide +kernel) (by decide +kernel)
theorem lw_7_72 : GoodIn lw_tbl (lwords 7 72 (0, m_X5_night, 0)) := gi_r _ [313, 314, 315, 18, 316] (by decide +kernel) (by decide +kernel)
theorem lw_7_75 : GoodIn lw_tbl (lwords 7 75 (0, m_X5_film, 4)) := gi_r _ [472, 473, 474, 18, 475] (by decide +kernel) (by decide +kernel)
theorem lw_7_78 : GoodIn lw_tbl (lwords 7 78 (0, m_X5_tells, 4)) := gi_r _ [432, 433, 434, 18, 435] (by decide +kernel) (by decide +kernel)
theorem lwA_7 : ∀ q ∈ lnk_7, GoodIn lw_tbl (lwords 7 q.1 q.2) := List.forall_mem_cons.mpr ⟨lw_7_7, List.forall_mem_cons.mpr ⟨lw_7_15, List.forall_mem_cons.mpr ⟨lw_7_16, List.forall_mem_cons.mpr ⟨lw_7_20, List.forall_mem_cons.mpr ⟨lw_7_24, List.forall_mem_cons.mpr ⟨lw_7_27, List.forall_mem_cons.mpr ⟨lw_7_31, List.forall_mem_cons.mpr ⟨lw_7_35, List.forall_mem_cons.mpr ⟨lw_7_38, List.forall_mem_cons.mpr ⟨lw_7_41, List.forall_mem_cons.mpr ⟨lw_7_45, List.forall_mem_cons.mpr ⟨lw_7_49, List.forall_mem_cons.mpr ⟨lw_7_52, List.forall_mem_cons.mpr ⟨lw_7_55, List.forall_mem_cons.mpr ⟨lw_7_60, List.forall_mem_cons.mpr ⟨lw_7_65, List.forall_mem_cons.mpr ⟨lw_7_69, List.forall_mem_cons.mpr ⟨lw_7_72, List.forall_mem_cons.mpr ⟨lw_7_75, List.forall_mem_cons.mpr ⟨lw_7_78, fun _ h => absurd h List.not_mem_nil⟩⟩⟩⟩⟩⟩⟩⟩⟩⟩⟩⟩⟩⟩⟩⟩⟩⟩⟩⟩
def fwords (own idx : Nat) (e : Nat × Nat × Nat × Bool) : List Cond := match nth vwCl e.1 with
  | none => []
  | some q => [.fieldLink (own8 own) idx (q.2.1 e.2.1).1 (q.2.1 e.2.1).2.1 (q.2.1 e.2.1).2.2.1]
set_option maxRecDepth 100000 in
theorem fW_ok : GoodIn lw_tbl (allT fldT fwords) := gi_r _ [90, 92, 94, 96, 101, 102, 81, 82, 84, 86, 88, 62, 98, 100, 173, 175, 137, 139, 140, 58, 61, 63, 59, 51, 49, 169, 174, 171, 48, 50, 183, 184, 185, 186, 187, 188, 190, 85, 87, 93, 95, 97, 83, 91, 138, 60, 89, 99, 170, 172, 189] (by decide +kernel) (by decide +kernel)
def cwords (own idx : Nat) (ci : Nat) : List Cond := match nth vwCl ci with
  | none => [.classLink (own8 own) idx "[I"]
  | some q => [.classLink (own8 own) idx q.1, .instantiable q.1 q.2.2, .initialized q.1]
set_option maxRecDepth 100000 in
theorem cW_ok : GoodIn lw_tbl (allT clkT cwords) := gi_r _ [41, 43, 20, 35, 36, 19, 73, 74, 21, 131, 132, 22, 162, 164, 23, 27, 28, 18] (by decide +kernel) (by decide +kernel)
def lcwords (own idx : Nat) (v : Int64) : List Cond := [.constantLong (own8 own) idx v]
set_option maxRecDepth 100000 in
theorem lcW_ok : GoodIn lw_tbl (allT lckT lcwords) := gi_r _ [428] (by decide +kernel) (by decide +kernel)
def icwords (own idx : Nat) (v : Int32) : List Cond := [.constant (own8 own) idx v]
set_option maxRecDepth 100000 in
theorem icW_ok : GoodIn lw_tbl (allT ickT icwords) := gi_r _ [505, 506, 507] (by decide +kernel) (by decide +kernel)
def sfwords (own idx : Nat) (j : Nat) : List Cond := if own = 5 then [.fieldLink RX5 idx RX5 (stN j) "[I"] else []
set_option maxRecDepth 100000 in
theorem sfW_ok : GoodIn lw_tbl (allT sflT sfwords) := gi_r _ [212, 397] (by decide +kernel) (by decide +kernel)
theorem uW_0 : GoodIn lw_tbl wsX00 := gi_r _ [103, 105, 107, 109, 111, 113, 115, 117, 119, 121, 123, 125, 127] (by decide +kernel) (by decide +kernel)
theorem uW_1 : GoodIn lw_tbl wsX10 := gi_r _ [141, 143, 145, 147, 149, 151, 153, 155, 157, 159] (by decide +kernel) (by decide +kernel)
theorem uW_2 : GoodIn lw_tbl wsX20 := gi_r _ [64, 66, 68, 70] (by decide +kernel) (by decide +kernel)
theorem uW_3 : GoodIn lw_tbl wsX30 := gi_r _ [176, 178, 180] (by decide +kernel) (by decide +kernel)
theorem uW_4 : GoodIn lw_tbl wsX40 := gi_r _ [52, 54] (by decide +kernel) (by decide +kernel)
theorem uW_5 : GoodIn lw_tbl wsX50 := gi_r _ [191, 193, 195, 197, 199, 201, 203, 205] (by decide +kernel) (by decide +kernel)
theorem aW_ok : GoodIn lw_tbl [.arrayClass .int] := gi_r _ [57] (by decide +kernel) (by decide +kernel)
/-- the words that every method is given: all good ones of the tables -/
def goodB (w : Cond) : Bool := match w with
  | .code .. => true
  | w => goodWord w
def ALLW : List Cond := lw_tbl.filter goodWord
theorem ALLW_good {big : List Cond} (h : ∀ w ∈ ALLW, w ∈ big) : GoodIn big ALLW := fun w hw => ⟨h w hw, good_of_word (List.mem_filter.mp hw).2⟩
theorem ALLW_in {ws : List Cond} (h : GoodIn lw_tbl ws) (hg : ws.all goodWord = true) : ∀ w ∈ ws, w ∈ ALLW := fun w hw => List.mem_filter.mpr ⟨(h w hw).1, List.all_eq_true.mp hg w hw⟩
theorem lwW {own idx : Nat} {e : LK} (h : lnk own idx = some e) : GoodIn lw_tbl (lwords own idx e) := by
  unfold lnk at h
  split at h
  · cases h
  · rename_i l hl
    have hm := lkp_mem l idx e h
    match own, hl with
    | 0, hl => cases hl; exact lwA_0 _ hm
    | 1, hl => cases hl; exact lwA_1 _ hm
    | 2, hl => cases hl; exact lwA_2 _ hm
    | 3, hl => cases hl; exact lwA_3 _ hm
    | 4, hl => cases hl; exact lwA_4 _ hm
    | 5, hl => cases hl; exact lwA_5 _ hm
    | 6, hl => cases hl; exact lwA_6 _ hm
    | 7, hl => cases hl; exact lwA_7 _ hm
    | n + 8, hl => simp [lnkT, nth] at hl
end
section
/-! THE TABLES ARE WHAT THE BYTES SAY -/
def ckI (i : Instr) (pc t : Nat) (c : Int32) (sw : List (Int32 × Nat)) : Bool := match i with
  | .iconst v => decide (Int32.ofInt v = c)
  | .bipush v => decide ((Int8.ofInt v).toInt32 = c)
  | .sipush v => decide ((Int16.ofInt v).toInt32 = c)
  | .iinc _ v => decide (Int32.ofInt v = c)
  | .ifCond _ o => decide ((pc : Int) + o = (t : Int))
  | .if_icmp _ o => decide ((pc : Int) + o = (t : Int))
  | .goto o => decide ((pc : Int) + o = (t : Int))
  | .ifnonnull o => decide ((pc : Int) + o = (t : Int))
  | .tableswitch d lo hi offs => decide ((pc : Int) + d = (t : Int)) && decide (hi - lo + 1 = (sw.length : Int)) && decide (offs.size = sw.length) && decide (0 ≤ lo) && decide (hi < 100000)
      && (List.range sw.length).all fun k => match nth sw k, offs[k]? with
        | some q, some o => decide (q.1 = Int32.ofInt (lo + k)) && decide ((pc : Int) + o = (q.2 : Int))
        | _, _ => false
  | .lookupswitch d ps => decide ((pc : Int) + d = (t : Int)) && (ps.toList.zip (ps.toList.drop 1)).all (fun (a, next) => a.1 < next.1) && decide (ps.toList.length = sw.length)
      && (List.range sw.length).all fun k => match nth sw k, ps.toList[k]? with
        | some q, some o => decide (q.1 = Int32.ofInt o.1) && decide ((pc : Int) + o.2 = (q.2 : Int)) && decide (0 ≤ o.1) && decide (o.1 < 100000)
        | _, _ => false
  | _ => true
/-- how long an instruction is (0: a switch) -/
def lenI (i : Instr) : Nat := match i with
  | .tableswitch _ _ _ _ => 0
  | .lookupswitch _ _ => 0
  | .bipush _ => 2 | .ldc _ => 2 | .iload _ => 2 | .lload _ => 2 | .aload _ => 2 | .istore _ => 2 | .lstore _ => 2 | .astore _ => 2 | .newarray _ => 2
  | .sipush _ => 3 | .ldc_w _ => 3 | .ldc2_w _ => 3 | .iinc _ _ => 3 | .ifCond _ _ => 3 | .if_icmp _ _ => 3 | .goto _ => 3 | .ifnonnull _ => 3 | .getfield _ => 3 | .putfield _ => 3 | .getstatic _ => 3 | .anewarray _ => 3 | .new _ => 3 | .invokevirtual _ => 3 | .invokestatic _ => 3 | .invokespecial _ => 3
  | _ => 1
/-- a store goes to a local that there is -/
def locI (i : Instr) (nL : Nat) : Bool := match i with
  | .istore k => Nat.ble (k + 1) nL
  | .istore_n k => Nat.ble (k.val + 1) nL
  | .astore k => Nat.ble (k + 1) nL
  | .astore_n k => Nat.ble (k.val + 1) nL
  | .lstore k => Nat.ble (k + 2) nL
  | .lstore_n k => Nat.ble (k.val + 2) nL
  | .iinc k _ => Nat.ble (k + 1) nL
  | _ => true
/-- a final field is set in a constructor alone -/
def pfI (i : Instr) (Y : MT) : Bool := match i with
  | .putfield ix => (match fld Y.1.2.1 ix with
    | some (ci, _, _, true) => decide (Y.2.1.name = "<init>") && Nat.beq ci Y.1.2.1
    | _ => true)
  | _ => true
def ckE (Y : MT) (pc : Nat) : Bool := match codeAt Y pc with
  | none => true
  | some (i, n, t, c, sw) => decide (decode Y.2.2.1 pc = .ok (i, n - pc)) && Nat.ble pc n && ckI i pc t c sw && (Nat.beq (lenI i) 0 || Nat.beq n (pc + lenI i)) && locI i Y.2.2.2.1 && pfI i Y
/-- a method's table -/
def ckM (Y : MT) : Bool := (List.range (16 * Y.1.1.length)).all (ckE Y)
def ckP (Y : MT) : Prop := ∀ pc, pc < 16 * Y.1.1.length → ckE Y pc = true
theorem ckP_of {Y : MT} (h : ckM Y = true) : ckP Y := fun pc hl => List.all_eq_true.mp h pc (List.mem_range.mpr hl)
theorem ckM_at {Y : MT} (h : ckP Y) {pc : Nat} {i : Instr} {n t : Nat} {c : Int32} {sw : List (Int32 × Nat)} (hc : codeAt Y pc = some (i, n, t, c, sw)) : decode Y.2.2.1 pc = .ok (i, n - pc) ∧ pc ≤ n ∧ ckI i pc t c sw = true ∧ (lenI i = 0 ∨ n = pc + lenI i) ∧ locI i Y.2.2.2.1 = true ∧ pfI i Y = true := by
  have hl : pc < 16 * Y.1.1.length := by
    rcases Nat.lt_or_ge (pc / 16) Y.1.1.length with g | g
    · omega
    · rw [codeAt, nth_get, List.getElem?_eq_none g] at hc
      cases hc
  have h1 := h pc hl
  simp only [ckE, hc, Bool.and_eq_true, decide_eq_true_eq] at h1
  refine ⟨h1.1.1.1.1.1, Nat.le_of_ble_eq_true h1.1.1.1.1.2, h1.1.1.1.2, ?_, h1.1.2, h1.2⟩
  rcases (Bool.or_eq_true _ _).mp h1.1.1.2 with z | z
  · exact Or.inl (Nat.eq_of_beq_eq_true z)
  · exact Or.inr (Nat.eq_of_beq_eq_true z)
/-- a method's place among the others: its class, its type, its name -/
def rkOf (ret : Option FieldType) : Nat := match ret with
  | none => 0
  | some .int => 1
  | some .long => 2
  | some .boolean => 4
  | some (.object _) => 3
  | _ => 9
def ckN (Y : MT) : Bool := decide (Y.2.1.cls = own8 Y.1.2.1) && plainName Y.2.1.cls && decide (Y.2.1.cls ≠ "java/lang/invoke/MethodHandle") && decide (Y.2.1.cls ≠ "java/lang/invoke/VarHandle") && decide (rkOf Y.2.2.2.2 = Y.1.2.2.2.2) && Nat.ble Y.2.2.2.1 40
def ckL (own : Nat) (e : LK) : Bool := match e.1 with
  | 0 => ckN e.2.1 && decide ((parseMethodDescriptor e.2.1.2.1.desc).map (fun d => d.parameters.length) = some e.2.2)
  | 1 => ckN e.2.1 && decide ((parseMethodDescriptor e.2.1.2.1.desc).map (fun d => d.parameters.length) = some e.2.2)
  | 2 => ckN e.2.1 && decide ((parseMethodDescriptor e.2.1.2.1.desc).map (fun d => d.parameters.length) = some e.2.2) && decide (e.2.1.2.1.name = "<init>") && decide (e.2.1.2.2.2.2 = none)
  | 11 => ckN e.2.1 && decide ((parseMethodDescriptor e.2.1.2.1.desc).map (fun d => d.parameters.length) = some e.2.2) && decide (e.2.1.2.1 = yX5_within) && Nat.beq own 0
  | 12 => ckN e.2.1 && decide ((parseMethodDescriptor e.2.1.2.1.desc).map (fun d => d.parameters.length) = some e.2.2) && decide (e.2.1.2.1.name = "<init>") && decide (e.2.1.2.2.2.2 = none) && Nat.beq own 5
  | _ => true
set_option maxRecDepth 100000 in
theorem ckL_ok : ((enum lnkT 0).all fun q => q.2.all fun e => ckL q.1 e.2) = true := by decide +kernel
/-- the nest's links, by their places -/
theorem ckNest : (lnk_0.all fun e => cond (Nat.beq e.2.1 11) (Nat.beq e.1 72) true) = true ∧ (lnk_5.all fun e => cond (Nat.beq e.2.1 12) ((Nat.beq e.1 34 && decide (e.2.2.1.2.1 = yX1_init)) || (Nat.beq e.1 41 && decide (e.2.2.1.2.1 = yX3_init))) true) = true := by decide +kernel
def ckF (_own : Nat) (e : Nat × Nat × Nat × Bool) : Bool := match nth vwCl e.1 with
  | none => false
  | some q => Nat.ble (e.2.1 + 1) q.2.2 && decide (fty e.1 e.2.1 = e.2.2.1) && decide ((q.2.1 e.2.1).2.2.2 = e.2.2.2) && decide ((q.2.1 e.2.1).1 = own8 e.1) && Nat.ble e.1 6
theorem ckF_ok : ((enum fldT 0).all fun q => q.2.all fun e => ckF q.1 e.2) = true := by decide +kernel
def ckS (own idx j : Nat) : Bool := Nat.ble 61 j && Nat.ble j 65 && ((Nat.beq own 5) || (Nat.beq own 0 && ((Nat.beq idx 24 && Nat.beq j 61) || (Nat.beq idx 107 && Nat.beq j 62) || (Nat.beq idx 131 && Nat.beq j 63))))
theorem ckS_ok : ((enum sflT 0).all fun q => q.2.all fun e => ckS q.1 e.1 e.2) = true := by decide +kernel
theorem enum_all {α : Type} {T : List (List (Nat × α))} {f : Nat → Nat → α → Bool} (h : ((enum T 0).all fun q => q.2.all fun e => f q.1 e.1 e.2) = true) {own idx : Nat} {l : List (Nat × α)} {e : α} (h1 : nth T own = some l) (h2 : lkp l idx = some e) : f own idx e = true := by
  have a := enum_nth T 0 own l h1
  have b := List.all_eq_true.mp h _ a
  have c := List.all_eq_true.mp b (idx, e) (lkp_mem l idx e h2)
  simpa using c
end
section
set_option maxRecDepth 100000 in
theorem ck_X0_init : ckP m_X0_init := ckP_of (by decide +kernel)
set_option maxRecDepth 100000 in
theorem ck_X0_takeFrom : ckP m_X0_takeFrom := ckP_of (by decide +kernel)
set_option maxRecDepth 100000 in
theorem ck_X0_join : ckP m_X0_join := ckP_of (by decide +kernel)
set_option maxRecDepth 100000 in
theorem ck_X0_owing : ckP m_X0_owing := ckP_of (by decide +kernel)
set_option maxRecDepth 100000 in
theorem ck_X0_owes : ckP m_X0_owes := ckP_of (by decide +kernel)
set_option maxRecDepth 100000 in
theorem ck_X0_owedTo : ckP m_X0_owedTo := ckP_of (by decide +kernel)
set_option maxRecDepth 100000 in
theorem ck_X0_all : ckP m_X0_all := ckP_of (by decide +kernel)
set_option maxRecDepth 100000 in
theorem ck_X0_value : ckP m_X0_value := ckP_of (by decide +kernel)
set_option maxRecDepth 100000 in
theorem ck_X0_pays : ckP m_X0_pays := ckP_of (by decide +kernel)
set_option maxRecDepth 100000 in
theorem ck_X0_will : ckP m_X0_will := ckP_of (by decide +kernel)
set_option maxRecDepth 100000 in
theorem ck_X0_breath : ckP m_X0_breath := ckP_of (by decide +kernel)
set_option maxRecDepth 100000 in
theorem ck_X0_may : ckP m_X0_may := ckP_of (by decide +kernel)
set_option maxRecDepth 100000 in
theorem ck_X0_step : ckP m_X0_step := ckP_of (by decide +kernel)
set_option maxRecDepth 100000 in
theorem ck_X0_lessen : ckP m_X0_lessen := ckP_of (by decide +kernel)
set_option maxRecDepth 100000 in
theorem ck_X0_settle : ckP m_X0_settle := ckP_of (by decide +kernel)
set_option maxRecDepth 100000 in
theorem ck_X0_danceRound : ckP m_X0_danceRound := ckP_of (by decide +kernel)
set_option maxRecDepth 100000 in
theorem ck_X0_endNight : ckP m_X0_endNight := ckP_of (by decide +kernel)
set_option maxRecDepth 100000 in
theorem ck_X0_ends : ckP m_X0_ends := ckP_of (by decide +kernel)
set_option maxRecDepth 100000 in
theorem ck_X0_stillOwed : ckP m_X0_stillOwed := ckP_of (by decide +kernel)
set_option maxRecDepth 100000 in
theorem ck_X0_keeps : ckP m_X0_keeps := ckP_of (by decide +kernel)
end
section
set_option maxRecDepth 100000 in
theorem ck_X0_least : ckP m_X0_least := ckP_of (by decide +kernel)
set_option maxRecDepth 100000 in
theorem ck_X0_ring : ckP m_X0_ring := ckP_of (by decide +kernel)
set_option maxRecDepth 100000 in
theorem ck_X0_longest : ckP m_X0_longest := ckP_of (by decide +kernel)
set_option maxRecDepth 100000 in
theorem ck_X0_mostToMeet : ckP m_X0_mostToMeet := ckP_of (by decide +kernel)
set_option maxRecDepth 100000 in
theorem ck_X0_weigh : ckP m_X0_weigh := ckP_of (by decide +kernel)
set_option maxRecDepth 100000 in
theorem ck_X0_mayAll : ckP m_X0_mayAll := ckP_of (by decide +kernel)
set_option maxRecDepth 100000 in
theorem ck_X0_paidBy : ckP m_X0_paidBy := ckP_of (by decide +kernel)
set_option maxRecDepth 100000 in
theorem ck_X0_bestSet : ckP m_X0_bestSet := ckP_of (by decide +kernel)
set_option maxRecDepth 100000 in
theorem ck_X0_danceSet : ckP m_X0_danceSet := ckP_of (by decide +kernel)
set_option maxRecDepth 100000 in
theorem ck_X0_firstOtherwise : ckP m_X0_firstOtherwise := ckP_of (by decide +kernel)
set_option maxRecDepth 100000 in
theorem ck_X0_paysAs : ckP m_X0_paysAs := ckP_of (by decide +kernel)
set_option maxRecDepth 100000 in
theorem ck_X1_init : ckP m_X1_init := ckP_of (by decide +kernel)
set_option maxRecDepth 100000 in
theorem ck_X2_init : ckP m_X2_init := ckP_of (by decide +kernel)
set_option maxRecDepth 100000 in
theorem ck_X2_value : ckP m_X2_value := ckP_of (by decide +kernel)
set_option maxRecDepth 100000 in
theorem ck_X3_init : ckP m_X3_init := ckP_of (by decide +kernel)
set_option maxRecDepth 100000 in
theorem ck_X3_become : ckP m_X3_become := ckP_of (by decide +kernel)
set_option maxRecDepth 100000 in
theorem ck_X3_put : ckP m_X3_put := ckP_of (by decide +kernel)
set_option maxRecDepth 100000 in
theorem ck_X4_init : ckP m_X4_init := ckP_of (by decide +kernel)
set_option maxRecDepth 100000 in
theorem ck_X5_init : ckP m_X5_init := ckP_of (by decide +kernel)
set_option maxRecDepth 100000 in
theorem ck_X5_set : ckP m_X5_set := ckP_of (by decide +kernel)
end
section
set_option maxRecDepth 100000 in
theorem ck_X5_dancer : ckP m_X5_dancer := ckP_of (by decide +kernel)
set_option maxRecDepth 100000 in
theorem ck_X5_told : ckP m_X5_told := ckP_of (by decide +kernel)
set_option maxRecDepth 100000 in
theorem ck_X5_asks : ckP m_X5_asks := ckP_of (by decide +kernel)
set_option maxRecDepth 100000 in
theorem ck_X5_isDancer : ckP m_X5_isDancer := ckP_of (by decide +kernel)
set_option maxRecDepth 100000 in
theorem ck_X5_isTwo : ckP m_X5_isTwo := ckP_of (by decide +kernel)
set_option maxRecDepth 100000 in
theorem ck_X5_debtPlace : ckP m_X5_debtPlace := ckP_of (by decide +kernel)
set_option maxRecDepth 100000 in
theorem ck_X5_round : ckP m_X5_round := ckP_of (by decide +kernel)
set_option maxRecDepth 100000 in
theorem ck_X5_night : ckP m_X5_night := ckP_of (by decide +kernel)
set_option maxRecDepth 100000 in
theorem ck_X5_strike : ckP m_X5_strike := ckP_of (by decide +kernel)
set_option maxRecDepth 100000 in
theorem ck_X5_readRing : ckP m_X5_readRing := ckP_of (by decide +kernel)
set_option maxRecDepth 100000 in
theorem ck_X5_run : ckP m_X5_run := ckP_of (by decide +kernel)
set_option maxRecDepth 100000 in
theorem ck_X5_think : ckP m_X5_think := ckP_of (by decide +kernel)
set_option maxRecDepth 100000 in
theorem ck_X5_best : ckP m_X5_best := ckP_of (by decide +kernel)
set_option maxRecDepth 100000 in
theorem ck_X5_share : ckP m_X5_share := ckP_of (by decide +kernel)
set_option maxRecDepth 100000 in
theorem ck_X5_sitters : ckP m_X5_sitters := ckP_of (by decide +kernel)
set_option maxRecDepth 100000 in
theorem ck_X5_soonest : ckP m_X5_soonest := ckP_of (by decide +kernel)
set_option maxRecDepth 100000 in
theorem ck_X5_clears : ckP m_X5_clears := ckP_of (by decide +kernel)
set_option maxRecDepth 100000 in
theorem ck_X5_lowest : ckP m_X5_lowest := ckP_of (by decide +kernel)
set_option maxRecDepth 100000 in
theorem ck_X5_tells : ckP m_X5_tells := ckP_of (by decide +kernel)
set_option maxRecDepth 100000 in
theorem ck_X5_kindsTold : ckP m_X5_kindsTold := ckP_of (by decide +kernel)
end
section
set_option maxRecDepth 100000 in
theorem ck_X5_numbersTold : ckP m_X5_numbersTold := ckP_of (by decide +kernel)
set_option maxRecDepth 100000 in
theorem ck_X5_roundsTold : ckP m_X5_roundsTold := ckP_of (by decide +kernel)
set_option maxRecDepth 100000 in
theorem ck_X5_donesTold : ckP m_X5_donesTold := ckP_of (by decide +kernel)
set_option maxRecDepth 100000 in
theorem ck_X5_textsTold : ckP m_X5_textsTold := ckP_of (by decide +kernel)
set_option maxRecDepth 100000 in
theorem ck_X5_dancersTold : ckP m_X5_dancersTold := ckP_of (by decide +kernel)
set_option maxRecDepth 100000 in
theorem ck_X5_film : ckP m_X5_film := ckP_of (by decide +kernel)
set_option maxRecDepth 100000 in
theorem ck_X5_image : ckP m_X5_image := ckP_of (by decide +kernel)
set_option maxRecDepth 100000 in
theorem ck_X5_back : ckP m_X5_back := ckP_of (by decide +kernel)
set_option maxRecDepth 100000 in
theorem ck_X5_count : ckP m_X5_count := ckP_of (by decide +kernel)
set_option maxRecDepth 100000 in
theorem ck_X5_isSheet : ckP m_X5_isSheet := ckP_of (by decide +kernel)
set_option maxRecDepth 100000 in
theorem ck_X5_within : ckP m_X5_within := ckP_of (by decide +kernel)
set_option maxRecDepth 100000 in
theorem ck_J6_bitCount_0f7a4 : ckP m_J6_bitCount_0f7a4 := ckP_of (by decide +kernel)
set_option maxRecDepth 100000 in
theorem ck_L_cell : ckP m_L_cell := ckP_of (by decide +kernel)
set_option maxRecDepth 100000 in
theorem ck_L_some : ckP m_L_some := ckP_of (by decide +kernel)
end
section
set_option maxRecDepth 100000 in
theorem ck_L_law_0 : ((List.range 160).all fun i => ckE m_L_law (0 + i)) = true := by decide +kernel
set_option maxRecDepth 100000 in
theorem ck_L_law_1 : ((List.range 160).all fun i => ckE m_L_law (160 + i)) = true := by decide +kernel
set_option maxRecDepth 100000 in
theorem ck_L_law_2 : ((List.range 160).all fun i => ckE m_L_law (320 + i)) = true := by decide +kernel
set_option maxRecDepth 100000 in
theorem ck_L_law_3 : ((List.range 160).all fun i => ckE m_L_law (480 + i)) = true := by decide +kernel
set_option maxRecDepth 100000 in
theorem ck_L_law_4 : ((List.range 160).all fun i => ckE m_L_law (640 + i)) = true := by decide +kernel
set_option maxRecDepth 100000 in
theorem ck_L_law_5 : ((List.range 160).all fun i => ckE m_L_law (800 + i)) = true := by decide +kernel
theorem ck_L_law : ckP m_L_law := by
  intro pc hpc
  have hl : 16 * m_L_law.1.1.length = 832 := by decide +kernel
  rw [hl] at hpc
  rcases Nat.lt_or_ge pc 160 with h0 | h0
  · have := List.all_eq_true.mp ck_L_law_0 (pc - 0) (List.mem_range.mpr (by omega))
    rwa [show 0 + (pc - 0) = pc by omega] at this
  rcases Nat.lt_or_ge pc 320 with h1 | h1
  · have := List.all_eq_true.mp ck_L_law_1 (pc - 160) (List.mem_range.mpr (by omega))
    rwa [show 160 + (pc - 160) = pc by omega] at this
  rcases Nat.lt_or_ge pc 480 with h2 | h2
  · have := List.all_eq_true.mp ck_L_law_2 (pc - 320) (List.mem_range.mpr (by omega))
    rwa [show 320 + (pc - 320) = pc by omega] at this
  rcases Nat.lt_or_ge pc 640 with h3 | h3
  · have := List.all_eq_true.mp ck_L_law_3 (pc - 480) (List.mem_range.mpr (by omega))
    rwa [show 480 + (pc - 480) = pc by omega] at this
  rcases Nat.lt_or_ge pc 800 with h4 | h4
  · have := List.all_eq_true.mp ck_L_law_4 (pc - 640) (List.mem_range.mpr (by omega))
    rwa [show 640 + (pc - 640) = pc by omega] at this
  · have := List.all_eq_true.mp ck_L_law_5 (pc - 800) (List.mem_range.mpr (by omega))
    rwa [show 800 + (pc - 800) = pc by omega] at this
end
section
/-! ONE INSTRUCTION OF THE MACHINE AM -/
def nnSet (S : St) (j g k : Nat) : St := (S.1, S.2.1, up3 S.2.2.1 j g k true, S.2.2.2)
def ivSet (S : St) (j g k : Nat) (v : Int32) : St := (up3 S.1 j g k v, S.2)
/-- a new cell: 0 everywhere, nothing set; its length, where that varies -/
def mkC (S : St) (j g n : Nat) : St := (zr3 S.1 j g 0, S.2.1, zr3 S.2.2.1 j g false, (if j = 31 then upN S.2.2.2.1 g n else S.2.2.2.1), S.2.2.2.2 + 1)
/-- a call of a method of the program: the arguments, what it may make, how it goes on -/
def goC (Y : MT) (call : CT) (P : PT) (n : Nat) (L : List (Option AV)) (S : St) (fc fs : Nat) (Z : MT) (q : Option (List AV × List AV)) : Prop := match q with
  | none => False
  | some (as, rest) => cond (Nat.ble (catS rest) 8 && Nat.ble (catS as) Z.2.2.2.1)
      (cond (Nat.beq Z.1.2.2.1 0 && Nat.beq Z.1.2.2.2.1 0)
        (call Z as S fun v S' => P n L (v.toList ++ rest) S' fc fs)
        (fc + Z.1.2.2.1 ≤ Y.1.2.2.1 ∧ fs + Z.1.2.2.2.1 ≤ Y.1.2.2.2.1 ∧ call Z as S fun v S' => (Z.1.2.2.1 < 1000 → S'.2.2.2.2 = S.2.2.2.2 + Z.1.2.2.1) ∧ P n L (v.toList ++ rest) S' (fc + Z.1.2.2.1) (fs + Z.1.2.2.2.1)))
      False
/-- the receiver is of the method's class -/
def rcv (Z : MT) (q : Option (List AV × List AV)) : Bool := match q with
  | some (Sum.inr (Sum.inr (some r)) :: _, _) => Nat.ble (clsP r.1) 6 && Nat.beq (clsP r.1) Z.1.2.1
  | _ => false
def chI (S : St) (j g : Nat) (i : Int32) (k : Nat) : Prop := i = nI k ∧ k < aln S.2.2.2.1 j g
/-- so few cells were made in this frame that their number is known -/
def few (fc : Nat) (h : Prop) : Prop := cond (Nat.blt fc 1000) h False
def G (Y : MT) (call : CT) (K : KT) (P : PT) (i : Instr) (n t : Nat) (c : Int32) (sw : List (Int32 × Nat)) (L : List (Option AV)) (st : List AV) (S : St) (fc fs : Nat) : Prop :=
  match i with
  | .iconst _ => P n L (aI c :: st) S fc fs
  | .bipush _ => P n L (aI c :: st) S fc fs
  | .sipush _ => P n L (aI c :: st) S fc fs
  | .lconst z => P n L (aL (Int64.ofNat z.val) :: st) S fc fs
  | .aconst_null => P n L (aN :: st) S fc fs
  | .ldc_w ix => (match ick Y.1.2.1 ix with
      | some v => P n L (aI v :: st) S fc fs
      | none => False)
  | .ldc2_w ix => (match lck Y.1.2.1 ix with
      | some v => P n L (aL v :: st) S fc fs
      | none => False)
  | .iload k => getI L k fun x => P n L (aI x :: st) S fc fs
  | .iload_n k => getI L k.val fun x => P n L (aI x :: st) S fc fs
  | .lload k => getJ L k fun x => P n L (aL x :: st) S fc fs
  | .lload_n k => getJ L k.val fun x => P n L (aL x :: st) S fc fs
  | .aload k => getA L k fun x => P n L (Sum.inr (Sum.inr x) :: st) S fc fs
  | .aload_n k => getA L k.val fun x => P n L (Sum.inr (Sum.inr x) :: st) S fc fs
  | .istore k => popI st fun x r => P n (putL L k (aI x)) r S fc fs
  | .istore_n k => popI st fun x r => P n (putL L k.val (aI x)) r S fc fs
  | .lstore k => popJ st fun x r => P n (putL L k (aL x)) r S fc fs
  | .lstore_n k => popJ st fun x r => P n (putL L k.val (aL x)) r S fc fs
  | .astore k => popR st fun j g r => P n (putL L k (aR j g)) r S fc fs
  | .astore_n k => (match st with
    | Sum.inr (Sum.inr q) :: r => P n (putL L k.val (Sum.inr (Sum.inr q))) r S fc fs
    | _ => False)
  | .iinc k _ => getI L k fun x => P n (putL L k (aI (x + c))) st S fc fs
  | .iadd => popI st fun y r => popI r fun x r => P n L (aI (x + y) :: r) S fc fs
  | .isub => popI st fun y r => popI r fun x r => P n L (aI (x - y) :: r) S fc fs
  | .imul => popI st fun y r => popI r fun x r => P n L (aI (x * y) :: r) S fc fs
  | .iand => popI st fun y r => popI r fun x r => P n L (aI (x &&& y) :: r) S fc fs
  | .ior => popI st fun y r => popI r fun x r => P n L (aI (x ||| y) :: r) S fc fs
  | .ixor => popI st fun y r => popI r fun x r => P n L (aI (x ^^^ y) :: r) S fc fs
  | .idiv => popI st fun y r => popI r fun x r => ¬ y = 0 ∧ P n L (aI (x / y) :: r) S fc fs
  | .irem => popI st fun y r => popI r fun x r => ¬ y = 0 ∧ P n L (aI (x - x / y * y) :: r) S fc fs
  | .ishl => popI st fun y r => popI r fun x r => P n L (aI (x <<< (y &&& 31)) :: r) S fc fs
  | .ishr => popI st fun y r => popI r fun x r => P n L (aI (x >>> (y &&& 31)) :: r) S fc fs
  | .iushr => popI st fun y r => popI r fun x r => P n L (aI (x.toUInt32 >>> (y.toUInt32 &&& Int32.toUInt32 31)).toInt32 :: r) S fc fs
  | .ineg => popI st fun x r => P n L (aI (-x) :: r) S fc fs
  | .i2l => popI st fun x r => P n L (aL x.toInt64 :: r) S fc fs
  | .l2i => popJ st fun x r => P n L (aI x.toInt32 :: r) S fc fs
  | .i2b => popI st fun x r => P n L (aI x.toInt8.toInt32 :: r) S fc fs
  | .i2s => popI st fun x r => P n L (aI x.toInt16.toInt32 :: r) S fc fs
  | .i2c => popI st fun x r => P n L (aI (x.toUInt32 % 65536).toInt32 :: r) S fc fs
  | .ladd => popJ st fun y r => popJ r fun x r => P n L (aL (x + y) :: r) S fc fs
  | .lsub => popJ st fun y r => popJ r fun x r => P n L (aL (x - y) :: r) S fc fs
  | .lmul => popJ st fun y r => popJ r fun x r => P n L (aL (x * y) :: r) S fc fs
  | .ldiv => popJ st fun y r => popJ r fun x r => ¬ y = 0 ∧ P n L (aL (x / y) :: r) S fc fs
  | .lrem => popJ st fun y r => popJ r fun x r => ¬ y = 0 ∧ P n L (aL (x - x / y * y) :: r) S fc fs
  | .lcmp => popJ st fun y r => popJ r fun x r => P n L (aI (lg_cmp x y) :: r) S fc fs
  | .dup => popS st fun v r => P n L (v :: v :: r) S fc fs
  | .dup2 => popS st fun v r => popS r fun u r => P n L (v :: u :: v :: u :: r) S fc fs
  | .pop => popS st fun _ r => P n L r S fc fs
  | .ifCond .eq _ => popI st fun x r => (x = 0 → P t L r S fc fs) ∧ (¬ x = 0 → P n L r S fc fs)
  | .ifCond .ne _ => popI st fun x r => (¬ x = 0 → P t L r S fc fs) ∧ (x = 0 → P n L r S fc fs)
  | .ifCond .lt _ => popI st fun x r => (x < 0 → P t L r S fc fs) ∧ (¬ x < 0 → P n L r S fc fs)
  | .ifCond .ge _ => popI st fun x r => (0 ≤ x → P t L r S fc fs) ∧ (¬ 0 ≤ x → P n L r S fc fs)
  | .ifCond .gt _ => popI st fun x r => (0 < x → P t L r S fc fs) ∧ (¬ 0 < x → P n L r S fc fs)
  | .ifCond .le _ => popI st fun x r => (x ≤ 0 → P t L r S fc fs) ∧ (¬ x ≤ 0 → P n L r S fc fs)
  | .if_icmp .eq _ => popI st fun y r => popI r fun x r => (x = y → P t L r S fc fs) ∧ (¬ x = y → P n L r S fc fs)
  | .if_icmp .ne _ => popI st fun y r => popI r fun x r => (¬ x = y → P t L r S fc fs) ∧ (x = y → P n L r S fc fs)
  | .if_icmp .lt _ => popI st fun y r => popI r fun x r => (x < y → P t L r S fc fs) ∧ (¬ x < y → P n L r S fc fs)
  | .if_icmp .ge _ => popI st fun y r => popI r fun x r => (y ≤ x → P t L r S fc fs) ∧ (¬ y ≤ x → P n L r S fc fs)
  | .if_icmp .gt _ => popI st fun y r => popI r fun x r => (y < x → P t L r S fc fs) ∧ (¬ y < x → P n L r S fc fs)
  | .if_icmp .le _ => popI st fun y r => popI r fun x r => (x ≤ y → P t L r S fc fs) ∧ (¬ x ≤ y → P n L r S fc fs)
  | .goto _ => P t L st S fc fs
  | .ifnonnull _ => (match st with
    | Sum.inr (Sum.inr none) :: r => P n L r S fc fs
    | Sum.inr (Sum.inr (some _)) :: r => P t L r S fc fs
    | _ => False)
  | .tableswitch _ _ _ _ => popI st fun x r => swP x (fun d => P d L r S fc fs) sw t
  | .lookupswitch _ _ => popI st fun x r => swP x (fun d => P d L r S fc fs) sw t
  | .getfield ix => (match fld Y.1.2.1 ix with
    | none => False
    | some (ci, k, ty, _) => popR st fun j g r => cond (Nat.beq (clsP j) ci) (match ty with
      | 1 => P n L (aL S.2.1 :: r) S fc fs
      | 2 => S.2.2.1 j g k = true ∧ P n L (Sum.inr (Sum.inr (some (frf j g k))) :: r) S fc fs
      | _ => P n L (aI (S.1 j g k) :: r) S fc fs) False)
  | .putfield ix => (match fld Y.1.2.1 ix with
    | none => False
    | some (ci, k, ty, _) => few fc (match ty with
      | 1 => False
      | 2 => popR st fun a b r => popR r fun j g r => cond (Nat.beq (clsP j) ci) (frf j g k = (a, b) ∧ P n L r (nnSet S j g k) fc fs) False
      | 3 => popI st fun x r => popR r fun j g r => cond (Nat.beq (clsP j) ci) ((x = 0 ∨ x = 1) ∧ P n L r (ivSet S j g k x) fc fs) False
      | _ => popI st fun x r => popR r fun j g r => cond (Nat.beq (clsP j) ci) (P n L r (ivSet S j g k x) fc fs) False))
  | .getstatic ix => (match sfl Y.1.2.1 ix with
    | none => False
    | some j => P n L (aR j 0 :: st) S fc fs)
  | .iaload => popI st fun i r => popR r fun j g r => cond (Nat.beq (iak j) 1 || Nat.beq (iak j) 3) (∃ k, chI S j g i k ∧ P n L (aI (S.1 j g k) :: r) S fc fs) False
  | .aaload => popI st fun i r => popR r fun j g r => cond (Nat.ble 1 (rfk j)) (∃ k, chI S j g i k ∧ S.2.2.1 j g k = true ∧ P n L (Sum.inr (Sum.inr (some (erf j k))) :: r) S fc fs) False
  | .iastore => few fc (popI st fun x r => popI r fun i r => popR r fun j g r => cond (Nat.beq (iak j) 1) (∃ k, chI S j g i k ∧ P n L r (ivSet S j g k x) fc fs) False)
  | .aastore => few fc (popR st fun a b r => popI r fun i r => popR r fun j g r => cond (Nat.ble 1 (rfk j)) (∃ k, chI S j g i k ∧ erf j k = (a, b) ∧ P n L r (nnSet S j g k) fc fs) False)
  | .arraylength => popR st fun j g r => cond (Nat.ble 1 (iak j) || Nat.ble 1 (rfk j)) (P n L (aI (nI (aln S.2.2.2.1 j g)) :: r) S fc fs) False
  | .newarray .int => few fc (popI st fun x r => ∃ (j g k : Nat), x = nI k ∧ k ≤ 1000 ∧ idOf S.2.2.2.2 = (j, g) ∧ g ≤ 100 ∧ iak j = 1 ∧ (j = 31 ∨ aln S.2.2.2.1 j g = k) ∧ fc + 1 ≤ Y.1.2.2.1 ∧ fs + k ≤ Y.1.2.2.2.1 ∧ P n L (aR j g :: r) (mkC S j g k) (fc + 1) (fs + k))
  | .anewarray ix => (match clk Y.1.2.1 ix with
    | none => False
    | some ci => few fc <| popI st fun x r => ∃ (j g k : Nat), x = nI k ∧ k ≤ 1000 ∧ idOf S.2.2.2.2 = (j, g) ∧ ((rfk j = 1 ∧ ci = 0) ∨ (rfk j = 2 ∧ ci = 3) ∨ (rfk j = 3 ∧ ci = 4)) ∧ aln S.2.2.2.1 j g = k ∧ fc + 1 ≤ Y.1.2.2.1 ∧ fs + k ≤ Y.1.2.2.2.1 ∧ P n L (aR j g :: r) (mkC S j g k) (fc + 1) (fs + k))
  | .new ix => (match clk Y.1.2.1 ix with
    | none => False
    | some ci => (match nth vwCl ci with
      | none => False
      | some q => few fc <| ∃ (j g : Nat), idOf S.2.2.2.2 = (j, g) ∧ clsP j = ci ∧ fc + 1 ≤ Y.1.2.2.1 ∧ fs + q.2.2 ≤ Y.1.2.2.2.1 ∧ (ci = 6 → S.2.1 = 0) ∧ P n L (aR j g :: st) (mkC S j g 0) (fc + 1) (fs + q.2.2)))
  | .invokevirtual ix => (match lnk Y.1.2.1 ix with
    | none => False
    | some (kd, Z, na) => (match kd with
      | 0 => cond (rcv Z (popN (na + 1) st [])) (goC Y call P n L S fc fs Z (popN (na + 1) st [])) False
      | _ => False))
  | .invokestatic ix => (match lnk Y.1.2.1 ix with
    | none => False
    | some (kd, Z, na) => (match kd with
      | 1 => goC Y call P n L S fc fs Z (popN na st [])
      | 11 => goC Y call P n L S fc fs Z (popN na st [])
      | 4 => popI st fun y r => popI r fun x r => cond (Nat.ble (catS r) 8) (P n L (aI (if y < x then y else x) :: r) S fc fs) False
      | 5 => popI st fun y r => popI r fun x r => cond (Nat.ble (catS r) 8) (P n L (aI (if x < y then y else x) :: r) S fc fs) False
      | 6 => few fc <| popI st fun z r => popI r fun dp r => popR r fun a b r => popI r fun sp r => popR r fun j g r => cond (Nat.beq (iak a) 1 && Nat.beq (iak j) 1 && Nat.ble (catS r) 8) (∃ (ks kd kn : Nat), sp = nI ks ∧ dp = nI kd ∧ z = nI kn ∧ ks + kn ≤ aln S.2.2.2.1 j g ∧ kd + kn ≤ aln S.2.2.2.1 a b ∧ kn ≤ 1000 ∧ P n L r ((fun x y k => if x = a ∧ y = b ∧ kd ≤ k ∧ k < kd + kn then S.1 j g (ks + (k - kd)) else S.1 x y k), S.2) fc fs) False
      | _ => False))
  | .invokespecial ix => (match lnk Y.1.2.1 ix with
    | none => False
    | some (kd, Z, na) => (match kd with
      | 2 => cond (rcv Z (popN (na + 1) st [])) (goC Y call P n L S fc fs Z (popN (na + 1) st [])) False
      | 12 => cond (rcv Z (popN (na + 1) st [])) (goC Y call P n L S fc fs Z (popN (na + 1) st [])) False
      | 3 => popR st fun _ _ r => cond (Nat.ble (catS r) 8) (P n L r S fc fs) False
      | _ => False))
  | .ireturn => (match st with
    | [Sum.inl x] => (match Y.1.2.2.2.2 with
      | 1 => K (some (aI x)) S
      | 4 => (x = 0 ∨ x = 1) ∧ K (some (aI x)) S
      | _ => False)
    | _ => False)
  | .lreturn => (match st with
    | [Sum.inr (Sum.inl x)] => (match Y.1.2.2.2.2 with
      | 2 => K (some (aL x)) S
      | _ => False)
    | _ => False)
  | .areturn => (match st with
    | [Sum.inr (Sum.inr q)] => (match Y.1.2.2.2.2 with
      | 3 => K (some (Sum.inr (Sum.inr q))) S
      | _ => False)
    | _ => False)
  | .return_ => (match st with
    | [] => (match Y.1.2.2.2.2 with
      | 0 => K none S
      | _ => False)
    | _ => False)
  | _ => False
def F (Y : MT) (call : CT) (K : KT) (P : PT) (pc : Nat) (L : List (Option AV)) (st : List AV) (S : St) (fc fs : Nat) : Prop := match codeAt Y pc with
  | none => False
  | some (i, n, t, c, sw) => G Y call K P i n t c sw L st S fc fs
/-- the least P that the instructions allow -/
def WP (Y : MT) (call : CT) (K : KT) (pc : Nat) (L : List (Option AV)) (st : List AV) (S : St) (fc fs : Nat) : Prop :=
  ∀ P : PT, (∀ pc L st S fc fs, F Y call K P pc L st S fc fs → P pc L st S fc fs) → P pc L st S fc fs
def Call : Nat → CT
  | 0, _, _, _, _ => False
  | d + 1, Y, as, S, K => WP Y (Call d) K 0 (mkL Y.2.2.2.1 as) [] S 0 0
theorem Call.mk {d : Nat} {Y : MT} {as : List AV} {S : St} {K : KT} (h : WP Y (Call d) K 0 (mkL Y.2.2.2.1 as) [] S 0 0) : Call (d + 1) Y as S K := h
theorem Call.of {d k : Nat} {Y : MT} {as : List AV} {S : St} {K : KT} (hd : k + 1 ≤ d) (h : ∀ e, k ≤ e → ∀ P : PT, (∀ pc L st S fc fs, F Y (Call e) K P pc L st S fc fs → P pc L st S fc fs) → P 0 (mkL Y.2.2.2.1 as) [] S 0 0) : Call d Y as S K := by
  cases d with
  | zero => omega
  | succ e => exact h e (by omega)
end
section
/-! WHAT A STATE OF THE MACHINE AM IS IN THE HEAP -/
/-- what stands around: the classes' numbers, the arrays' classes (0 int[], 1 Floor[], 2 Sheet[], 3 Text[], 4 boolean[]), where the cells begin, where the static cells lie, what the static arrays hold, how long the script is -/
abbrev Env0 : Type := va_G × (Nat → ClassId) × Nat × (Nat → Nat → Nat) × (Nat → Nat → Int32) × Nat
def adr (E : Env0) (j g : Nat) : Nat := if j < 60 then E.2.2.1 + numP j g else E.2.2.2.1 j g
def cv (E : Env0) (v : AV) : Value := match v with
  | Sum.inl x => .int x
  | Sum.inr (Sum.inl x) => .long x
  | Sum.inr (Sum.inr none) => .null
  | Sum.inr (Sum.inr (some q)) => .ref (adr E q.1 q.2)
def fvl (E : Env0) (S : St) (j g k : Nat) : Value := match fty (clsP j) k with
  | 1 => .long S.2.1
  | 2 => if S.2.2.1 j g k = true then .ref (adr E (frf j g k).1 (frf j g k).2) else .null
  | _ => .int (S.1 j g k)
def el (E : Env0) (S : St) (q : Nat × Nat) : va_E :=
  if clsP q.1 < 7 then .inr (clsP q.1, (List.range (nFl (clsP q.1))).map (fvl E S q.1 q.2))
  else if iak q.1 = 2 then .inl (E.2.1 4, aln S.2.2.2.1 q.1 q.2, .inl (S.1 q.1 q.2))
  else if rfk q.1 = 0 then .inl (E.2.1 0, aln S.2.2.2.1 q.1 q.2, .inl (S.1 q.1 q.2))
  else .inl (E.2.1 (rfk q.1), aln S.2.2.2.1 q.1 q.2, .inr (.inr (.inr (.inr fun k => if S.2.2.1 q.1 q.2 k = true then some (adr E (erf q.1 k).1 (erf q.1 k).2) else none))))
def wld (E : Env0) (S : St) : va_W := (List.range S.2.2.2.2).map fun k => (E.2.2.1 + k, el E S (idOf k))
/-- a cell that is there; a static one -/
def lvP (S : St) (j g : Nat) : Prop := (j < 60 ∧ numP j g < S.2.2.2.2 ∧ idOf (numP j g) = (j, g)) ∨ (60 ≤ j ∧ j < 66 ∧ g = 0) ∨ (j = 70 ∧ g < 13)
def lvA (S : St) (v : AV) : Prop := match v with
  | Sum.inr (Sum.inr (some q)) => lvP S q.1 q.2
  | _ => True
def tysE (E : Env0) : List (ClassId × FieldType) := [(E.2.1 0, .int), (E.2.1 1, .object RX0), (E.2.1 2, .object RX3), (E.2.1 3, .object RX4)]
/-- the heap holds the state -/
def Rep (E : Env0) (S : St) (H : Heap) : Prop := H.size = E.2.2.1 + S.2.2.2.2 ∧ va_P E.1 vwCl (wld E S) H ∧ (∀ j, 60 ≤ j → ∀ k, S.1 j 0 k = E.2.2.2.2.1 j k) ∧ S.2.2.2.1 1000 = E.2.2.2.2.2 ∧ (∀ t, S.2.2.2.1 t ≤ 4000)
  ∧ (∀ j g k, lvP S j g → j < 60 → clsP j < 7 → fty (clsP j) k = 2 → k < nFl (clsP j) → S.2.2.1 j g k = true → lvP S (frf j g k).1 (frf j g k).2)
  ∧ (∀ j g k, lvP S j g → j < 60 → 1 ≤ rfk j → k < aln S.2.2.2.1 j g → S.2.2.1 j g k = true → lvP S (erf j k).1 (erf j k).2)
def baseA (E : Env0) : Nat → Prop := fun q => E.2.2.1 ≤ q
theorem va_Sn {A : Nat → Prop} {H0 H : Heap} {locs : List Loc} (h : va_S A H0 H locs) : va_S A H H locs := ⟨Nat.le_refl _, fun _ _ _ => rfl, h.2.2⟩
theorem va_Str {A : Nat → Prop} {H0 H H1 : Heap} {locs locs1 : List Loc} (h : va_S A H0 H locs) (h1 : va_S A H H1 locs1) : va_S A H0 H1 locs1 := ⟨Nat.le_trans h.1 h1.1, fun q a b => (h1.2.1 q (Nat.lt_of_lt_of_le a h.1) b).trans (h.2.1 q a b), h1.2.2⟩
/-- what a state's tables and old cells say: it stays -/
def Stt (E : Env0) (X : State → Prop) (U : State) : Prop := va_K E.1 vwCl (tysE E) U
  ∧ (∀ j, 61 ≤ j → j ≤ 65 → va_Z RX5 (stN j) "[I" (.ref (E.2.2.2.1 j 0)) (baseA E) U U.heap)
  ∧ (∀ j, 60 ≤ j → j ≤ 65 → va_T .int (E.2.2.2.1 j 0) (aln (fun _ => E.2.2.2.2.2) j 0) (fun k => .int (E.2.2.2.2.1 j k)) (baseA E) U U.heap)
  ∧ va_Nw (.fieldLinkNest RX0 24 RX5 "LESSER" "[I" RX5) U ∧ va_Nw (.fieldLinkNest RX0 107 RX5 "GREATER" "[I" RX5) U ∧ va_Nw (.fieldLinkNest RX0 131 RX5 "SETS" "[I" RX5) U
  ∧ va_Nw (.methodLinkNest RX5 34 yX1_init RX5) U ∧ va_Nw (.methodLinkNest RX5 41 yX3_init RX5) U ∧ va_Nw (.methodLinkNest RX0 72 yX5_within RX5) U
  ∧ True ∧ va_AO RX0 U ∧ va_AO RX3 U ∧ va_AO RX4 U ∧ True ∧ E.2.2.2.2.2 ≤ 4000 ∧ X U
theorem numId (n : Nat) : numP (idOf n).1 (idOf n).2 = n := by
  by_cases h : n < 77
  · have hall : ∀ n, n < 77 → numP (idOf n).1 (idOf n).2 = n := by decide +kernel
    exact hall n h
  · have hn : nth idsT n = none := by
      rw [nth_get]
      exact List.getElem?_eq_none (by have : idsT.length = 77 := by decide +kernel
                                      omega)
    have hi : idOf n = (if (n - 77) % 3 = 0 then 31 else if (n - 77) % 3 = 1 then 30 else 32, (n - 77) / 3 + 1) := by simp [idOf, hn]
    rw [hi]
    dsimp only
    split
    · simp only [numP]
      rw [if_neg (by omega)]
      omega
    · split
      · simp only [numP]
        rw [if_neg (by omega)]
        omega
      · simp only [numP]
        rw [if_neg (by omega)]
        omega
theorem idInj {a b : Nat} (h : idOf a = idOf b) : a = b := by
  have h1 := numId a
  rw [h, numId b] at h1
  exact h1.symm
theorem idLt (n : Nat) : (idOf n).1 < 60 := by
  by_cases h : n < 77
  · have hall : ∀ n, n < 77 → (idOf n).1 < 60 := by decide +kernel
    exact hall n h
  · have hn : nth idsT n = none := by
      rw [nth_get]
      exact List.getElem?_eq_none (by have : idsT.length = 77 := by decide +kernel
                                      omega)
    have hi : idOf n = (if (n - 77) % 3 = 0 then 31 else if (n - 77) % 3 = 1 then 30 else 32, (n - 77) / 3 + 1) := by simp [idOf, hn]
    rw [hi]
    dsimp only
    split
    · decide
    · split <;> decide
theorem id40 (n g : Nat) (h : idOf n = (40, g)) : g = 0 := by
  by_cases hn : n < 77
  · have hall : ∀ n, n < 77 → (idOf n).1 = 40 → (idOf n).2 = 0 := by decide +kernel
    have := hall n hn (by rw [h])
    rw [h] at this
    exact this
  · have hn : nth idsT n = none := by
      rw [nth_get]
      exact List.getElem?_eq_none (by have : idsT.length = 77 := by decide +kernel
                                      omega)
    have hi : idOf n = (if (n - 77) % 3 = 0 then 31 else if (n - 77) % 3 = 1 then 30 else 32, (n - 77) / 3 + 1) := by simp [idOf, hn]
    rw [hi] at h
    have h1 := congrArg Prod.fst h
    dsimp only at h1
    split at h1
    · cases h1
    · split at h1 <;> cases h1
theorem wld_get {E : Env0} {S : St} {j g : Nat} (h : numP j g < S.2.2.2.2) (hi : idOf (numP j g) = (j, g)) : (wld E S)[numP j g]? = some (E.2.2.1 + numP j g, el E S (j, g)) := by
  simp [wld, List.getElem?_map, List.getElem?_range h, hi]
theorem wld_len {E : Env0} {S : St} : (wld E S).length = S.2.2.2.2 := by simp [wld]
theorem wld_D (E : Env0) (S : St) : va_D (baseA E) (wld E S) := by
  have key : ∀ (k : Nat) (q : Nat × va_E), (wld E S)[k]? = some q → q.1 = E.2.2.1 + k := by
    intro k q h
    have hk : k < (wld E S).length := (List.getElem?_eq_some_iff.mp h).1
    rw [wld_len] at hk
    simp only [wld, List.getElem?_map, List.getElem?_range hk, Option.map_some, Option.some.injEq] at h
    rw [← h]
  refine ⟨fun i j p q hi hj hpq => ?_, fun k q hk => ?_⟩
  · have h1 := key i p hi
    have h2 := key j q hj
    omega
  · rw [key k q hk]
    exact Nat.le_add_right _ _
/-- one cell changes -/
theorem wld_set {E : Env0} {S S' : St} {j g : Nat} (h : numP j g < S.2.2.2.2) (hc : S'.2.2.2.2 = S.2.2.2.2) (ho : ∀ k, k ≠ numP j g → k < S.2.2.2.2 → el E S' (idOf k) = el E S (idOf k)) (hi : idOf (numP j g) = (j, g)) : (wld E S).set (numP j g) (E.2.2.1 + numP j g, el E S' (j, g)) = wld E S' := by
  apply List.ext_getElem?
  intro k
  by_cases hk : k = numP j g
  · subst hk
    rw [List.getElem?_set_self (by rw [wld_len]; exact h), wld_get (by rw [hc]; exact h) hi]
  · rw [List.getElem?_set_ne (fun z => hk z.symm)]
    by_cases hl : k < S.2.2.2.2
    · simp [wld, List.getElem?_map, hc, List.getElem?_range hl, ho k hk hl]
    · rw [List.getElem?_eq_none (by rw [wld_len]; omega), List.getElem?_eq_none (by rw [wld_len]; omega)]
/-- one cell comes -/
theorem wld_push {E : Env0} {S S' : St} {q : Nat × Nat} (hq : idOf S.2.2.2.2 = q) (hc : S'.2.2.2.2 = S.2.2.2.2 + 1) (ho : ∀ k, k < S.2.2.2.2 → el E S' (idOf k) = el E S (idOf k)) : wld E S ++ [(E.2.2.1 + S.2.2.2.2, el E S' q)] = wld E S' := by
  have h1 : wld E S' = ((List.range S.2.2.2.2).map fun k => (E.2.2.1 + k, el E S' (idOf k))) ++ [(E.2.2.1 + S.2.2.2.2, el E S' q)] := by
    simp only [wld, hc, List.range_succ, List.map_append, List.map_cons, List.map_nil, hq]
  rw [h1]
  refine congrArg (· ++ _) (List.map_congr_left fun k hk => ?_)
  rw [ho k (List.mem_range.mp hk)]
theorem lvP.up {S S' : St} {j g : Nat} (h : lvP S j g) (hc : S.2.2.2.2 ≤ S'.2.2.2.2) : lvP S' j g := by
  rcases h with ⟨h1, h2, h3⟩ | h
  · exact Or.inl ⟨h1, Nat.lt_of_lt_of_le h2 hc, h3⟩
  · exact Or.inr h
theorem lvA.up {S S' : St} {v : AV} (h : lvA S v) (hc : S.2.2.2.2 ≤ S'.2.2.2.2) : lvA S' v := by
  unfold lvA at h ⊢
  split
  · exact lvP.up h hc
  · trivial
theorem lvP.in {S : St} {j g : Nat} (h : lvP S j g) (hj : j < 60) : numP j g < S.2.2.2.2 ∧ idOf (numP j g) = (j, g) := by
  rcases h with ⟨-, h2, h3⟩ | ⟨h, -⟩ | ⟨h, -⟩
  · exact ⟨h2, h3⟩
  · omega
  · omega
/-- the ints of one cell: the others' cells stay -/
theorem el_iv {E : Env0} {S : St} {j g k : Nat} {v : Int32} {q : Nat × Nat} (h : q ≠ (j, g)) : el E (ivSet S j g k v) q = el E S q := by
  have hne : ¬ (q.1 = j ∧ q.2 = g) := fun z => h (Prod.ext z.1 z.2)
  have h1 : ∀ z, (ivSet S j g k v).1 q.1 q.2 z = S.1 q.1 q.2 z := fun z => by
    simp only [ivSet, up3]
    rw [if_neg (fun y => hne ⟨y.1, y.2.1⟩)]
  have h2 : (ivSet S j g k v).1 q.1 q.2 = S.1 q.1 q.2 := funext h1
  have h3 : fvl E (ivSet S j g k v) q.1 q.2 = fvl E S q.1 q.2 := funext fun z => by
    unfold fvl
    split
    · rfl
    · rfl
    · rw [h1]
  unfold el
  rw [h2, h3]
  rfl
theorem el_nn {E : Env0} {S : St} {j g k : Nat} {q : Nat × Nat} (h : q ≠ (j, g)) : el E (nnSet S j g k) q = el E S q := by
  have hne : ¬ (q.1 = j ∧ q.2 = g) := fun z => h (Prod.ext z.1 z.2)
  have h1 : ∀ z, (nnSet S j g k).2.2.1 q.1 q.2 z = S.2.2.1 q.1 q.2 z := fun z => by
    simp only [nnSet, up3]
    rw [if_neg (fun y => hne ⟨y.1, y.2.1⟩)]
  have h3 : fvl E (nnSet S j g k) q.1 q.2 = fvl E S q.1 q.2 := funext fun z => by
    unfold fvl
    split
    · rfl
    · rw [h1]
    · rfl
  unfold el
  rw [h3]
  simp only [h1]
  rfl
end
section
/-! THE LOCALS -/
theorem good_back {w : Cond} (h : (w.onTables && w.keeps) = true ∨ ∃ ty, w = .arrayClass ty) : goodWord w = true := by
  rcases h with h | ⟨ty, rfl⟩
  · cases w <;> first | rfl | exact h
  · rfl
theorem ALLW_of {ws : List Cond} (h : GoodIn lw_tbl ws) : ∀ w ∈ ws, w ∈ ALLW := fun w hw => List.mem_filter.mpr ⟨(h w hw).1, good_back (h w hw).2⟩
def lvl (E : Env0) : List (Option AV) → Nat → List (Nat × Value)
  | [], _ => []
  | none :: l, n => lvl E l (n + 1)
  | some v :: l, n => (n, cv E v) :: lvl E l (n + 1)
theorem lvl_mem {E : Env0} : ∀ (L : List (Option AV)) (n : Nat) (q : Nat × Value), q ∈ lvl E L n ↔ ∃ k v, nth L k = some (some v) ∧ q = (n + k, cv E v)
  | [], n, q => by simp [lvl, nth]
  | none :: l, n, q => by
    rw [lvl, lvl_mem l (n + 1) q]
    constructor
    · rintro ⟨k, v, h, rfl⟩
      exact ⟨k + 1, v, h, by rw [show n + 1 + k = n + (k + 1) by omega]⟩
    · rintro ⟨k, v, h, rfl⟩
      cases k with
      | zero => simp [nth] at h
      | succ k => exact ⟨k, v, h, by rw [show n + 1 + k = n + (k + 1) by omega]⟩
  | some u :: l, n, q => by
    rw [lvl, List.mem_cons, lvl_mem l (n + 1) q]
    constructor
    · rintro (rfl | ⟨k, v, h, rfl⟩)
      · exact ⟨0, u, rfl, rfl⟩
      · exact ⟨k + 1, v, h, by rw [show n + 1 + k = n + (k + 1) by omega]⟩
    · rintro ⟨k, v, h, rfl⟩
      cases k with
      | zero =>
        simp only [nth, Option.some.injEq] at h
        subst h
        exact Or.inl rfl
      | succ k => exact Or.inr ⟨k, v, h, by rw [show n + 1 + k = n + (k + 1) by omega]⟩
def isJ (v : AV) : Bool := match v with
  | Sum.inr (Sum.inl _) => true
  | _ => false
theorem cv_cat {E : Env0} {v : AV} : (cv E v).category = 2 ↔ isJ v = true := by
  rcases v with x | x | x | x <;> simp [cv, isJ, Value.category]
theorem putL_len : ∀ (L : List (Option AV)) (i : Nat) (v : AV), (putL L i v).length = L.length
  | [], _, _ => rfl
  | a :: l, 0, v => by
    unfold putL
    split
    · cases l <;> rfl
    · rfl
  | a :: l, 1, v => by
    simp only [putL, List.length_cons]
    rw [putL_len l 0 v]
  | a :: l, n + 2, v => by
    simp only [putL, List.length_cons]
    rw [putL_len l (n + 1) v]
theorem putL_nth : ∀ (L : List (Option AV)) (i : Nat) (v u : AV) (k : Nat), nth (putL L i v) k = some (some u) →
    (k = i ∧ u = v) ∨ (k ≠ i ∧ nth L k = some (some u) ∧ ¬ (k + 1 = i ∧ isJ u = true) ∧ ¬ (isJ v = true ∧ k = i + 1))
  | [], _, _, _, _, h => by simp [putL, nth] at h
  | a :: l, 0, v, u, 0, h => by
    left
    refine ⟨rfl, ?_⟩
    unfold putL at h
    split at h <;> simpa [nth, eq_comm] using h
  | a :: l, 0, v, u, k + 1, h => by
    right
    refine ⟨by omega, ?_, by omega, ?_⟩
    · unfold putL at h
      split at h
      · cases l with
        | nil => simp [nth] at h
        | cons b t =>
          cases k with
          | zero => simp [nth] at h
          | succ k => exact h
      · exact h
    · rintro ⟨hv, hk⟩
      have hk : k = 0 := by omega
      subst hk
      rcases v with x | x | x
      · simp [isJ] at hv
      · cases l with
        | nil => simp [putL, nth] at h
        | cons b t => simp [putL, nth] at h
      · simp [isJ] at hv
  | a :: l, 1, v, u, 0, h => by
    right
    simp only [putL, nth] at h
    refine ⟨by omega, ?_, ?_, by omega⟩
    · rcases a with _ | x | x | x <;> first | exact h | (simp at h; done)
    · rintro ⟨-, hu⟩
      rcases a with _ | x | x | x <;> simp at h
      · subst h
        simp [isJ] at hu
      · subst h
        simp [isJ] at hu
  | a :: l, 1, v, u, k + 1, h => by
    simp only [putL, nth] at h
    rcases putL_nth l 0 v u k h with ⟨h1, h2⟩ | ⟨h1, h2, h3, h4⟩
    · exact Or.inl ⟨by omega, h2⟩
    · exact Or.inr ⟨by omega, h2, fun z => by omega, fun z => h4 ⟨z.1, by omega⟩⟩
  | a :: l, n + 2, v, u, 0, h => by
    simp only [putL, nth] at h
    exact Or.inr ⟨by omega, h, by omega, by omega⟩
  | a :: l, n + 2, v, u, k + 1, h => by
    simp only [putL, nth] at h
    rcases putL_nth l (n + 1) v u k h with ⟨h1, h2⟩ | ⟨h1, h2, h3, h4⟩
    · exact Or.inl ⟨by omega, h2⟩
    · exact Or.inr ⟨by omega, h2, fun z => h3 ⟨by omega, z.2⟩, fun z => h4 ⟨z.1, by omega⟩⟩
def LokL (E : Env0) (ls : Array Slot) (nL : Nat) (L : List (Option AV)) : Prop := lv_has ls nL (lvl E L 0) ∧ L.length = nL
theorem LokL.at {E : Env0} {ls : Array Slot} {nL : Nat} {L : List (Option AV)} (h : LokL E ls nL L) {i : Nat} {v : AV} (hv : nth L i = some (some v)) : ls[i]? = some (.val (cv E v)) := by
  have := h.1.2.2 (i, cv E v) ((lvl_mem L 0 _).mpr ⟨i, v, hv, by simp⟩)
  exact this
theorem lvl_at {E : Env0} : ∀ (L : List (Option AV)) (i n : Nat) (v : AV), nth L i = some (some v) → ∃ k : Nat, (lvl E L n)[k]? = some (n + i, cv E v) := by
  intro L i n v h
  exact List.getElem?_of_mem ((lvl_mem L n _).mpr ⟨i, v, h, rfl⟩)
/-- behind a store of one word -/
theorem LokL.put1 {E : Env0} {ls ls' : Array Slot} {nL : Nat} {L : List (Option AV)} {i : Nat} {v : AV} (h : LokL E ls nL L) (hv : isJ v = false) (h' : lv_has ls' nL ((i, cv E v) :: (lvl E L 0).filter (fun q => !(q.1 == i) && !(q.1 + 1 == i && q.2.category == 2)))) : LokL E ls' nL (putL L i v) := by
  refine ⟨⟨h'.1, h'.2.1, fun q hq => ?_⟩, by rw [putL_len]; exact h.2⟩
  obtain ⟨k, u, hk, rfl⟩ := (lvl_mem _ _ _).mp hq
  rcases putL_nth L i v u k hk with ⟨h1, h2⟩ | ⟨h1, h2, h3, h4⟩
  · subst h1; subst h2
    exact h'.2.2 (0 + k, cv E u) (by simp)
  · refine h'.2.2 _ (List.mem_cons_of_mem _ (List.mem_filter.mpr ⟨(lvl_mem L 0 _).mpr ⟨k, u, h2, rfl⟩, ?_⟩))
    simp only [Nat.zero_add, Bool.and_eq_true, Bool.not_eq_true', beq_eq_false_iff_ne, ne_eq, Bool.and_eq_false_iff]
    refine ⟨h1, ?_⟩
    by_cases hk : k + 1 = i
    · right
      intro hcat
      exact h3 ⟨hk, cv_cat.mp hcat⟩
    · exact Or.inl hk
theorem LokL.put2 {E : Env0} {ls ls' : Array Slot} {nL : Nat} {L : List (Option AV)} {i : Nat} {v : AV} (h : LokL E ls nL L) (hv : isJ v = true) (h' : lv_has ls' nL ((i, cv E v) :: (lvl E L 0).filter (fun q => !(q.1 == i) && (!(q.1 == i + 1) && !(q.1 + 1 == i && q.2.category == 2))))) : LokL E ls' nL (putL L i v) := by
  refine ⟨⟨h'.1, h'.2.1, fun q hq => ?_⟩, by rw [putL_len]; exact h.2⟩
  obtain ⟨k, u, hk, rfl⟩ := (lvl_mem _ _ _).mp hq
  rcases putL_nth L i v u k hk with ⟨h1, h2⟩ | ⟨h1, h2, h3, h4⟩
  · subst h1; subst h2
    exact h'.2.2 (0 + k, cv E u) (by simp)
  · refine h'.2.2 _ (List.mem_cons_of_mem _ (List.mem_filter.mpr ⟨(lvl_mem L 0 _).mpr ⟨k, u, h2, rfl⟩, ?_⟩))
    simp only [Nat.zero_add, Bool.and_eq_true, Bool.not_eq_true', beq_eq_false_iff_ne, ne_eq, Bool.and_eq_false_iff]
    refine ⟨h1, fun z => h4 ⟨hv, z⟩, ?_⟩
    by_cases hk : k + 1 = i
    · right
      intro hcat
      exact h3 ⟨hk, cv_cat.mp hcat⟩
    · exact Or.inl hk
theorem lvs_put {S : St} {L : List (Option AV)} {i : Nat} {v : AV} (h : ∀ k u, nth L k = some (some u) → lvA S u) (hv : lvA S v) : ∀ k u, nth (putL L i v) k = some (some u) → lvA S u := by
  intro k u hk
  rcases putL_nth L i v u k hk with ⟨-, h2⟩ | ⟨-, h2, -⟩
  · rw [h2]; exact hv
  · exact h k u h2
end
section
/-! SOUNDNESS: an instruction of AM is one of the machine -/
/-- where a method stands -/
def Ctx (E : Env0) (X : State → Prop) (Y : MT) (d : Nat) (p : Program) (R : Room) (s : State) (m : MethodId) (args : Array Value) (meth : Method) (c : Code) : Prop :=
  p.tables.exec = Jvm.exec ∧ c.code = Y.2.2.1 ∧ c.maxLocals = Y.2.2.2.1 ∧ s.vm.findClass (own8 Y.1.2.1) = some m.cls ∧ (∀ w ∈ ALLW, w.before args s = true) ∧ ckP Y ∧ Stt E X s ∧ d + 9 ≤ R.frames ∧ 64 * d + 664 ≤ R.locals ∧ Y.1.2.2.1 ≤ R.cells ∧ Y.1.2.2.2.1 ≤ R.slots ∧ (Y.2.1.name = "<init>" → meth.name = "<init>")
/-- what AM's place means -/
def PS (E : Env0) (Y : MT) (n0 : Nat) (p : Program) (l : Launch) (e : Env) (R : Room) (s : State) (m : MethodId) (args : Array Value) (below : List Frame) (meth : Method) (c : Code) (Q : State → Prop) : PT := fun pc L st S fc fs =>
  ∀ (H : Heap) (locs : List Loc) (ls : Array Slot), Rep E S H → LokL E ls Y.2.2.2.1 L → (∀ k v, nth L k = some (some v) → lvA S v) → (∀ v ∈ st, lvA S v) → va_S (baseA E) s.heap H locs → n0 ≤ S.2.2.2.2 → fc ≤ Y.1.2.2.1 → fs ≤ Y.1.2.2.2.1 → (fc < 1000 → E.2.2.1 + S.2.2.2.2 = s.heap.size + fc) →
    W p l e R s m args below meth c H locs fc fs Q (F0 m pc ls (st.map (cv E)))
section SND
variable {E : Env0} {X : State → Prop} {Y : MT} {d n0 : Nat} {p : Program} {l : Launch} {e : Env} {R : Room} {s : State} {m : MethodId} {args : Array Value} {below : List Frame} {meth : Method} {c : Code} {Q : State → Prop}
variable {pc t fc fs : Nat} {L : List (Option AV)} {st : List AV} {S : St}
theorem lv1 {v : AV} {st : List AV} (hv : lvA S v) (h : ∀ u ∈ st, lvA S u) : ∀ u ∈ v :: st, lvA S u := fun u hu => (List.mem_cons.mp hu).elim (fun z => z ▸ hv) (h u)
theorem lvt {v : AV} {st : List AV} (h : ∀ u ∈ v :: st, lvA S u) : ∀ u ∈ st, lvA S u := fun u hu => h u (List.mem_cons_of_mem _ hu)
theorem lvh {v : AV} {st : List AV} (h : ∀ u ∈ v :: st, lvA S u) : lvA S v := h v List.mem_cons_self
/-- a row that puts a number on the stack -/
theorem s_push {v : AV} {n : Nat} (hv : lvA S v) (hW : ∀ {H : Heap} {locs : List Loc} {ls : Array Slot}, W p l e R s m args below meth c H locs fc fs Q (F0 m n ls (cv E v :: st.map (cv E))) → W p l e R s m args below meth c H locs fc fs Q (F0 m pc ls (st.map (cv E))))
    (h : PS E Y n0 p l e R s m args below meth c Q n L (v :: st) S fc fs) : PS E Y n0 p l e R s m args below meth c Q pc L st S fc fs :=
  fun H locs ls h1 h2 h3 h4 h5 h6 h7 h8 h9 => hW (h H locs ls h1 h2 h3 (lv1 hv h4) h5 h6 h7 h8 h9)
theorem s_iconst (C : Ctx E X Y d p R s m args meth c) {z : Int} {x : Int32} (hd : decode Y.2.2.1 pc = .ok (.iconst z, 1)) (hx : Int32.ofInt z = x) (h : PS E Y n0 p l e R s m args below meth c Q (pc + 1) L (aI x :: st) S fc fs) : PS E Y n0 p l e R s m args below meth c Q pc L st S fc fs :=
  s_push (v := aI x) trivial (fun k => lv_iconst C.1 C.2.1 hd hx k) h
theorem s_bipush (C : Ctx E X Y d p R s m args meth c) {z : Int} {x : Int32} (hd : decode Y.2.2.1 pc = .ok (.bipush z, 2)) (hx : (Int8.ofInt z).toInt32 = x) (h : PS E Y n0 p l e R s m args below meth c Q (pc + 2) L (aI x :: st) S fc fs) : PS E Y n0 p l e R s m args below meth c Q pc L st S fc fs :=
  s_push (v := aI x) trivial (fun k => lv_bipush C.1 C.2.1 hd hx k) h
theorem s_sipush (C : Ctx E X Y d p R s m args meth c) {z : Int} {x : Int32} (hd : decode Y.2.2.1 pc = .ok (.sipush z, 3)) (hx : (Int16.ofInt z).toInt32 = x) (h : PS E Y n0 p l e R s m args below meth c Q (pc + 3) L (aI x :: st) S fc fs) : PS E Y n0 p l e R s m args below meth c Q pc L st S fc fs :=
  s_push (v := aI x) trivial (fun k => lv_sipush C.1 C.2.1 hd hx k) h
theorem s_lconst (C : Ctx E X Y d p R s m args meth c) {z : Fin 2} (hd : decode Y.2.2.1 pc = .ok (.lconst z, 1)) (h : PS E Y n0 p l e R s m args below meth c Q (pc + 1) L (aL (Int64.ofNat z.val) :: st) S fc fs) : PS E Y n0 p l e R s m args below meth c Q pc L st S fc fs :=
  s_push (v := aL (Int64.ofNat z.val)) trivial (fun k => lv_lconst C.1 C.2.1 hd rfl k) h
theorem s_null (C : Ctx E X Y d p R s m args meth c) (hd : decode Y.2.2.1 pc = .ok (.aconst_null, 1)) (h : PS E Y n0 p l e R s m args below meth c Q (pc + 1) L (aN :: st) S fc fs) : PS E Y n0 p l e R s m args below meth c Q pc L st S fc fs :=
  s_push (v := aN) trivial (fun k => lv_null C.1 C.2.1 hd k) h
theorem ickW {own idx : Nat} {v : Int32} (h : ick own idx = some v) : Jvm.Cond.constant (own8 own) idx v ∈ ALLW := by
  unfold ick at h
  split at h
  · cases h
  · rename_i l hl
    exact ALLW_of (ws := icwords own idx v) (fun w hw => icW_ok w (allT_in (f := icwords) hl h hw)) _ (by simp [icwords])
theorem lckW {own idx : Nat} {v : Int64} (h : lck own idx = some v) : Jvm.Cond.constantLong (own8 own) idx v ∈ ALLW := by
  unfold lck at h
  split at h
  · cases h
  · rename_i l hl
    exact ALLW_of (ws := lcwords own idx v) (fun w hw => lcW_ok w (allT_in (f := lcwords) hl h hw)) _ (by simp [lcwords])
theorem s_ldcw (C : Ctx E X Y d p R s m args meth c) {ix : Nat} {v : Int32} (hd : decode Y.2.2.1 pc = .ok (.ldc_w ix, 3)) (hv : ick Y.1.2.1 ix = some v) (h : PS E Y n0 p l e R s m args below meth c Q (pc + 3) L (aI v :: st) S fc fs) : PS E Y n0 p l e R s m args below meth c Q pc L st S fc fs :=
  s_push (v := aI v) trivial (fun k => lv_ldcw C.1 C.2.1 C.2.2.2.1 (C.2.2.2.2.1 _ (ickW hv)) hd k) h
theorem s_ldc2 (C : Ctx E X Y d p R s m args meth c) {ix : Nat} {v : Int64} (hd : decode Y.2.2.1 pc = .ok (.ldc2_w ix, 3)) (hv : lck Y.1.2.1 ix = some v) (h : PS E Y n0 p l e R s m args below meth c Q (pc + 3) L (aL v :: st) S fc fs) : PS E Y n0 p l e R s m args below meth c Q pc L st S fc fs :=
  s_push (v := aL v) trivial (fun k => lv_ldc2 C.1 C.2.1 C.2.2.2.1 (C.2.2.2.2.1 _ (lckW hv)) hd k) h
/-- a row that reads a local -/
theorem s_load {v : AV} {n i : Nat} (hv : nth L i = some (some v)) (hW : ∀ {H : Heap} {locs : List Loc} {ls : Array Slot}, ls[i]? = some (.val (cv E v)) → W p l e R s m args below meth c H locs fc fs Q (F0 m n ls (cv E v :: st.map (cv E))) → W p l e R s m args below meth c H locs fc fs Q (F0 m pc ls (st.map (cv E))))
    (h : PS E Y n0 p l e R s m args below meth c Q n L (v :: st) S fc fs) : PS E Y n0 p l e R s m args below meth c Q pc L st S fc fs :=
  fun H locs ls h1 h2 h3 h4 h5 h6 h7 h8 h9 => hW (h2.at hv) (h H locs ls h1 h2 h3 (lv1 (h3 i v hv) h4) h5 h6 h7 h8 h9)
theorem getI_of {i : Nat} {k : Int32 → Prop} (h : getI L i k) : ∃ x, nth L i = some (some (aI x)) ∧ k x := by
  unfold getI at h
  split at h
  · exact ⟨_, by assumption, h⟩
  · exact h.elim
theorem getJ_of {i : Nat} {k : Int64 → Prop} (h : getJ L i k) : ∃ x, nth L i = some (some (aL x)) ∧ k x := by
  unfold getJ at h
  split at h
  · exact ⟨_, by assumption, h⟩
  · exact h.elim
theorem getA_of {i : Nat} {k : Option (Nat × Nat) → Prop} (h : getA L i k) : ∃ x, nth L i = some (some (Sum.inr (Sum.inr x))) ∧ k x := by
  unfold getA at h
  split at h
  · exact ⟨_, by assumption, h⟩
  · exact h.elim
theorem s_iload (C : Ctx E X Y d p R s m args meth c) {i : Nat} (hd : decode Y.2.2.1 pc = .ok (.iload i, 2)) (h : getI L i fun x => PS E Y n0 p l e R s m args below meth c Q (pc + 2) L (aI x :: st) S fc fs) : PS E Y n0 p l e R s m args below meth c Q pc L st S fc fs := by
  obtain ⟨x, hx, h⟩ := getI_of h
  exact s_load hx (fun hl k => lv_iload C.1 C.2.1 hd hl k) h
theorem s_iload_n (C : Ctx E X Y d p R s m args meth c) {i : Fin 4} (hd : decode Y.2.2.1 pc = .ok (.iload_n i, 1)) (h : getI L i.val fun x => PS E Y n0 p l e R s m args below meth c Q (pc + 1) L (aI x :: st) S fc fs) : PS E Y n0 p l e R s m args below meth c Q pc L st S fc fs := by
  obtain ⟨x, hx, h⟩ := getI_of h
  exact s_load hx (fun hl k => lv_iload_n C.1 C.2.1 hd rfl hl k) h
theorem s_lload (C : Ctx E X Y d p R s m args meth c) {i : Nat} (hd : decode Y.2.2.1 pc = .ok (.lload i, 2)) (h : getJ L i fun x => PS E Y n0 p l e R s m args below meth c Q (pc + 2) L (aL x :: st) S fc fs) : PS E Y n0 p l e R s m args below meth c Q pc L st S fc fs := by
  obtain ⟨x, hx, h⟩ := getJ_of h
  exact s_load hx (fun hl k => lv_lload C.1 C.2.1 hd hl k) h
theorem s_lload_n (C : Ctx E X Y d p R s m args meth c) {i : Fin 4} (hd : decode Y.2.2.1 pc = .ok (.lload_n i, 1)) (h : getJ L i.val fun x => PS E Y n0 p l e R s m args below meth c Q (pc + 1) L (aL x :: st) S fc fs) : PS E Y n0 p l e R s m args below meth c Q pc L st S fc fs := by
  obtain ⟨x, hx, h⟩ := getJ_of h
  exact s_load hx (fun hl k => lv_lload_n C.1 C.2.1 hd rfl hl k) h
theorem s_aload (C : Ctx E X Y d p R s m args meth c) {i : Nat} (hd : decode Y.2.2.1 pc = .ok (.aload i, 2)) (h : getA L i fun x => PS E Y n0 p l e R s m args below meth c Q (pc + 2) L (Sum.inr (Sum.inr x) :: st) S fc fs) : PS E Y n0 p l e R s m args below meth c Q pc L st S fc fs := by
  obtain ⟨x, hx, h⟩ := getA_of h
  rcases x with _ | x
  · exact s_load hx (fun hl k => lv_aloadN C.1 C.2.1 hd hl k) h
  · exact s_load hx (fun hl k => lv_aload C.1 C.2.1 hd hl k) h
theorem s_aload_n (C : Ctx E X Y d p R s m args meth c) {i : Fin 4} (hd : decode Y.2.2.1 pc = .ok (.aload_n i, 1)) (h : getA L i.val fun x => PS E Y n0 p l e R s m args below meth c Q (pc + 1) L (Sum.inr (Sum.inr x) :: st) S fc fs) : PS E Y n0 p l e R s m args below meth c Q pc L st S fc fs := by
  obtain ⟨x, hx, h⟩ := getA_of h
  rcases x with _ | x
  · exact s_load hx (fun hl k => lv_aload_nN C.1 C.2.1 hd rfl hl k) h
  · exact s_load hx (fun hl k => lv_aload_n C.1 C.2.1 hd rfl hl k) h
/-- a row that writes a local -/
theorem s_store {v : AV} {n i : Nat} {r : List AV} (hj : isJ v = false) (hW : ∀ {H : Heap} {locs : List Loc} {ls : Array Slot}, LokL E ls Y.2.2.2.1 L → (∀ ls' : Array Slot, lv_has ls' Y.2.2.2.1 ((i, cv E v) :: (lvl E L 0).filter (fun q => !(q.1 == i) && !(q.1 + 1 == i && q.2.category == 2))) → W p l e R s m args below meth c H locs fc fs Q (F0 m n ls' (r.map (cv E)))) → W p l e R s m args below meth c H locs fc fs Q (F0 m pc ls (cv E v :: r.map (cv E))))
    (h : PS E Y n0 p l e R s m args below meth c Q n (putL L i v) r S fc fs) : PS E Y n0 p l e R s m args below meth c Q pc L (v :: r) S fc fs :=
  fun H locs ls h1 h2 h3 h4 h5 h6 h7 h8 h9 => hW h2 (fun ls' h' => h H locs ls' h1 (h2.put1 hj h') (lvs_put h3 (lvh h4)) (lvt h4) h5 h6 h7 h8 h9)
theorem s_store2 {v : AV} {n i : Nat} {r : List AV} (hj : isJ v = true) (hW : ∀ {H : Heap} {locs : List Loc} {ls : Array Slot}, LokL E ls Y.2.2.2.1 L → (∀ ls' : Array Slot, lv_has ls' Y.2.2.2.1 ((i, cv E v) :: (lvl E L 0).filter (fun q => !(q.1 == i) && (!(q.1 == i + 1) && !(q.1 + 1 == i && q.2.category == 2)))) → W p l e R s m args below meth c H locs fc fs Q (F0 m n ls' (r.map (cv E)))) → W p l e R s m args below meth c H locs fc fs Q (F0 m pc ls (cv E v :: r.map (cv E))))
    (h : PS E Y n0 p l e R s m args below meth c Q n (putL L i v) r S fc fs) : PS E Y n0 p l e R s m args below meth c Q pc L (v :: r) S fc fs :=
  fun H locs ls h1 h2 h3 h4 h5 h6 h7 h8 h9 => hW h2 (fun ls' h' => h H locs ls' h1 (h2.put2 hj h') (lvs_put h3 (lvh h4)) (lvt h4) h5 h6 h7 h8 h9)
theorem popI_of {k : Int32 → List AV → Prop} (h : popI st k) : ∃ x r, st = aI x :: r ∧ k x r := by
  unfold popI at h
  split at h
  · exact ⟨_, _, rfl, h⟩
  · exact h.elim
theorem popJ_of {k : Int64 → List AV → Prop} (h : popJ st k) : ∃ x r, st = aL x :: r ∧ k x r := by
  unfold popJ at h
  split at h
  · exact ⟨_, _, rfl, h⟩
  · exact h.elim
theorem popR_of {k : Nat → Nat → List AV → Prop} (h : popR st k) : ∃ j g r, st = aR j g :: r ∧ k j g r := by
  unfold popR at h
  split at h
  · exact ⟨_, _, _, rfl, h⟩
  · exact h.elim
theorem popS_of {k : AV → List AV → Prop} (h : popS st k) : ∃ v r, st = v :: r ∧ isJ v = false ∧ k v r := by
  unfold popS at h
  split at h
  · exact ⟨_, _, rfl, rfl, h⟩
  · exact ⟨_, _, rfl, rfl, h⟩
  · exact h.elim
end SND
end
section
/-! SOUNDNESS, on: stores, numbers, branches -/
section SNE
variable {E : Env0} {X : State → Prop} {Y : MT} {d n0 : Nat} {p : Program} {l : Launch} {e : Env} {R : Room} {s : State} {m : MethodId} {args : Array Value} {below : List Frame} {meth : Method} {c : Code} {Q : State → Prop}
variable {pc t fc fs : Nat} {L : List (Option AV)} {st : List AV} {S : St}
theorem s_istore (C : Ctx E X Y d p R s m args meth c) {i : Nat} (hd : decode Y.2.2.1 pc = .ok (.istore i, 2)) (hi : i < Y.2.2.2.1) (h : popI st fun x r => PS E Y n0 p l e R s m args below meth c Q (pc + 2) (putL L i (aI x)) r S fc fs) : PS E Y n0 p l e R s m args below meth c Q pc L st S fc fs := by
  obtain ⟨x, r, rfl, h_1⟩ := popI_of h
  exact s_store (v := aI x) rfl (fun hl k => lv_istore C.1 C.2.1 hd hl.1 hi rfl k) h_1
theorem s_istore_n (C : Ctx E X Y d p R s m args meth c) {i : Fin 4} (hd : decode Y.2.2.1 pc = .ok (.istore_n i, 1)) (hi : i.val < Y.2.2.2.1) (h : popI st fun x r => PS E Y n0 p l e R s m args below meth c Q (pc + 1) (putL L i.val (aI x)) r S fc fs) : PS E Y n0 p l e R s m args below meth c Q pc L st S fc fs := by
  obtain ⟨x, r, rfl, h_1⟩ := popI_of h
  exact s_store (v := aI x) rfl (fun hl k => lv_istore_n C.1 C.2.1 hd rfl hl.1 hi rfl k) h_1
theorem s_lstore (C : Ctx E X Y d p R s m args meth c) {i : Nat} (hd : decode Y.2.2.1 pc = .ok (.lstore i, 2)) (hi : i + 1 < Y.2.2.2.1) (h : popJ st fun x r => PS E Y n0 p l e R s m args below meth c Q (pc + 2) (putL L i (aL x)) r S fc fs) : PS E Y n0 p l e R s m args below meth c Q pc L st S fc fs := by
  obtain ⟨x, r, rfl, h_1⟩ := popJ_of h
  exact s_store2 (v := aL x) rfl (fun hl k => lv_lstore C.1 C.2.1 hd hl.1 hi rfl k) h_1
theorem s_lstore_n (C : Ctx E X Y d p R s m args meth c) {i : Fin 4} (hd : decode Y.2.2.1 pc = .ok (.lstore_n i, 1)) (hi : i.val + 1 < Y.2.2.2.1) (h : popJ st fun x r => PS E Y n0 p l e R s m args below meth c Q (pc + 1) (putL L i.val (aL x)) r S fc fs) : PS E Y n0 p l e R s m args below meth c Q pc L st S fc fs := by
  obtain ⟨x, r, rfl, h_1⟩ := popJ_of h
  exact s_store2 (v := aL x) rfl (fun hl k => lv_lstore_n C.1 C.2.1 hd rfl hl.1 hi rfl k) h_1
theorem s_astore (C : Ctx E X Y d p R s m args meth c) {i : Nat} (hd : decode Y.2.2.1 pc = .ok (.astore i, 2)) (hi : i < Y.2.2.2.1) (h : popR st fun j g r => PS E Y n0 p l e R s m args below meth c Q (pc + 2) (putL L i (aR j g)) r S fc fs) : PS E Y n0 p l e R s m args below meth c Q pc L st S fc fs := by
  obtain ⟨j, g, r, rfl, h_1⟩ := popR_of h
  exact s_store (v := aR j g) rfl (fun hl k => lv_astore C.1 C.2.1 hd hl.1 hi rfl k) h_1
theorem s_astore_n (C : Ctx E X Y d p R s m args meth c) {i : Fin 4} (hd : decode Y.2.2.1 pc = .ok (.astore_n i, 1)) (hi : i.val < Y.2.2.2.1) {q : Option (Nat × Nat)} {r : List AV} (h : PS E Y n0 p l e R s m args below meth c Q (pc + 1) (putL L i.val (Sum.inr (Sum.inr q))) r S fc fs) : PS E Y n0 p l e R s m args below meth c Q pc L (Sum.inr (Sum.inr q) :: r) S fc fs := by
  rcases q with _ | q
  · exact s_store (v := aN) rfl (fun hl k => lv_astore_nN C.1 C.2.1 hd rfl hl.1 hi rfl k) h
  · exact s_store (v := aR q.1 q.2) rfl (fun hl k => lv_astore_n C.1 C.2.1 hd rfl hl.1 hi rfl k) h
theorem s_iinc (C : Ctx E X Y d p R s m args meth c) {i : Nat} {z : Int} {x : Int32} (hd : decode Y.2.2.1 pc = .ok (.iinc i z, 3)) (hz : Int32.ofInt z = x) (hi : i < Y.2.2.2.1) (h : getI L i fun y => PS E Y n0 p l e R s m args below meth c Q (pc + 3) (putL L i (aI (y + x))) st S fc fs) : PS E Y n0 p l e R s m args below meth c Q pc L st S fc fs := by
  obtain ⟨y, hy, h_1⟩ := getI_of h
  intro H locs ls h1 h2 h3 h4 h5 h6 h7 h8 h9
  obtain ⟨k, hk⟩ := lvl_at (E := E) L i 0 (aI y) hy
  rw [Nat.zero_add] at hk
  exact lv_iinc C.1 C.2.1 hd h2.1 hk (by rw [hz]) hi rfl (fun ls' h' => h_1 H locs ls' h1 (h2.put1 (v := aI (y + x)) rfl h') (lvs_put h3 trivial) h4 h5 h6 h7 h8 h9)
/-- a row that takes numbers and gives one -/
theorem s_op1 {a v : AV} {n : Nat} {r : List AV} (hv : lvA S v) (hW : ∀ {H : Heap} {locs : List Loc} {ls : Array Slot}, W p l e R s m args below meth c H locs fc fs Q (F0 m n ls (cv E v :: r.map (cv E))) → W p l e R s m args below meth c H locs fc fs Q (F0 m pc ls (cv E a :: r.map (cv E))))
    (h : PS E Y n0 p l e R s m args below meth c Q n L (v :: r) S fc fs) : PS E Y n0 p l e R s m args below meth c Q pc L (a :: r) S fc fs :=
  fun H locs ls h1 h2 h3 h4 h5 h6 h7 h8 h9 => hW (h H locs ls h1 h2 h3 (lv1 hv (lvt h4)) h5 h6 h7 h8 h9)
theorem s_op2 {a b v : AV} {n : Nat} {r : List AV} (hv : lvA S v) (hW : ∀ {H : Heap} {locs : List Loc} {ls : Array Slot}, W p l e R s m args below meth c H locs fc fs Q (F0 m n ls (cv E v :: r.map (cv E))) → W p l e R s m args below meth c H locs fc fs Q (F0 m pc ls (cv E a :: cv E b :: r.map (cv E))))
    (h : PS E Y n0 p l e R s m args below meth c Q n L (v :: r) S fc fs) : PS E Y n0 p l e R s m args below meth c Q pc L (a :: b :: r) S fc fs :=
  fun H locs ls h1 h2 h3 h4 h5 h6 h7 h8 h9 => hW (h H locs ls h1 h2 h3 (lv1 hv (lvt (lvt h4))) h5 h6 h7 h8 h9)
theorem s_bin {f : Int32 → Int32 → Int32} (hW : ∀ {x y : Int32} {H : Heap} {locs : List Loc} {ls : Array Slot} {r : List Value}, W p l e R s m args below meth c H locs fc fs Q (F0 m (pc + 1) ls (.int (f x y) :: r)) → W p l e R s m args below meth c H locs fc fs Q (F0 m pc ls (.int y :: .int x :: r)))
    (h : popI st fun y r => popI r fun x r => PS E Y n0 p l e R s m args below meth c Q (pc + 1) L (aI (f x y) :: r) S fc fs) : PS E Y n0 p l e R s m args below meth c Q pc L st S fc fs := by
  obtain ⟨y, r, rfl, h_1⟩ := popI_of h
  obtain ⟨x, r, rfl, h_2⟩ := popI_of h_1
  exact s_op2 (v := aI (f x y)) trivial (fun k => hW k) h_2
theorem s_binG {f : Int32 → Int32 → Int32} (hW : ∀ {x y : Int32} {H : Heap} {locs : List Loc} {ls : Array Slot} {r : List Value}, ¬ y = 0 → W p l e R s m args below meth c H locs fc fs Q (F0 m (pc + 1) ls (.int (f x y) :: r)) → W p l e R s m args below meth c H locs fc fs Q (F0 m pc ls (.int y :: .int x :: r)))
    (h : popI st fun y r => popI r fun x r => ¬ y = 0 ∧ PS E Y n0 p l e R s m args below meth c Q (pc + 1) L (aI (f x y) :: r) S fc fs) : PS E Y n0 p l e R s m args below meth c Q pc L st S fc fs := by
  obtain ⟨y, r, rfl, h_1⟩ := popI_of h
  obtain ⟨x, r, rfl, h_2⟩ := popI_of h_1
  exact s_op2 (v := aI (f x y)) trivial (fun k => hW h_2.1 k) h_2.2
theorem s_binL {f : Int64 → Int64 → Int64} (hW : ∀ {x y : Int64} {H : Heap} {locs : List Loc} {ls : Array Slot} {r : List Value}, W p l e R s m args below meth c H locs fc fs Q (F0 m (pc + 1) ls (.long (f x y) :: r)) → W p l e R s m args below meth c H locs fc fs Q (F0 m pc ls (.long y :: .long x :: r)))
    (h : popJ st fun y r => popJ r fun x r => PS E Y n0 p l e R s m args below meth c Q (pc + 1) L (aL (f x y) :: r) S fc fs) : PS E Y n0 p l e R s m args below meth c Q pc L st S fc fs := by
  obtain ⟨y, r, rfl, h_1⟩ := popJ_of h
  obtain ⟨x, r, rfl, h_2⟩ := popJ_of h_1
  exact s_op2 (v := aL (f x y)) trivial (fun k => hW k) h_2
theorem s_binLG {f : Int64 → Int64 → Int64} (hW : ∀ {x y : Int64} {H : Heap} {locs : List Loc} {ls : Array Slot} {r : List Value}, ¬ y = 0 → W p l e R s m args below meth c H locs fc fs Q (F0 m (pc + 1) ls (.long (f x y) :: r)) → W p l e R s m args below meth c H locs fc fs Q (F0 m pc ls (.long y :: .long x :: r)))
    (h : popJ st fun y r => popJ r fun x r => ¬ y = 0 ∧ PS E Y n0 p l e R s m args below meth c Q (pc + 1) L (aL (f x y) :: r) S fc fs) : PS E Y n0 p l e R s m args below meth c Q pc L st S fc fs := by
  obtain ⟨y, r, rfl, h_1⟩ := popJ_of h
  obtain ⟨x, r, rfl, h_2⟩ := popJ_of h_1
  exact s_op2 (v := aL (f x y)) trivial (fun k => hW h_2.1 k) h_2.2
theorem s_lcmp (C : Ctx E X Y d p R s m args meth c) (hd : decode Y.2.2.1 pc = .ok (.lcmp, 1)) (h : popJ st fun y r => popJ r fun x r => PS E Y n0 p l e R s m args below meth c Q (pc + 1) L (aI (lg_cmp x y) :: r) S fc fs) : PS E Y n0 p l e R s m args below meth c Q pc L st S fc fs := by
  obtain ⟨y, r, rfl, h_1⟩ := popJ_of h
  obtain ⟨x, r, rfl, h_2⟩ := popJ_of h_1
  exact s_op2 (v := aI (lg_cmp x y)) trivial (fun k => W.lcmp C.1 C.2.1 hd k) h_2
theorem s_un {f : Int32 → AV} (hf : ∀ x, lvA S (f x)) (hW : ∀ {x : Int32} {H : Heap} {locs : List Loc} {ls : Array Slot} {r : List Value}, W p l e R s m args below meth c H locs fc fs Q (F0 m (pc + 1) ls (cv E (f x) :: r)) → W p l e R s m args below meth c H locs fc fs Q (F0 m pc ls (.int x :: r)))
    (h : popI st fun x r => PS E Y n0 p l e R s m args below meth c Q (pc + 1) L (f x :: r) S fc fs) : PS E Y n0 p l e R s m args below meth c Q pc L st S fc fs := by
  obtain ⟨x, r, rfl, h_1⟩ := popI_of h
  exact s_op1 (hf x) (fun k => hW k) h_1
theorem s_l2i (C : Ctx E X Y d p R s m args meth c) (hd : decode Y.2.2.1 pc = .ok (.l2i, 1)) (h : popJ st fun x r => PS E Y n0 p l e R s m args below meth c Q (pc + 1) L (aI x.toInt32 :: r) S fc fs) : PS E Y n0 p l e R s m args below meth c Q pc L st S fc fs := by
  obtain ⟨x, r, rfl, h_1⟩ := popJ_of h
  exact s_op1 (v := aI x.toInt32) trivial (fun k => lv_l2i C.1 C.2.1 hd rfl k) h_1
theorem cv_cat1 {v : AV} (h : isJ v = false) : (cv E v).category = 1 := by
  rcases v with x | x | x | x <;> first | rfl | (simp [isJ] at h; done)
theorem s_dup (C : Ctx E X Y d p R s m args meth c) (hd : decode Y.2.2.1 pc = .ok (.dup, 1)) (h : popS st fun v r => PS E Y n0 p l e R s m args below meth c Q (pc + 1) L (v :: v :: r) S fc fs) : PS E Y n0 p l e R s m args below meth c Q pc L st S fc fs := by
  obtain ⟨v, r, rfl, hv, h_1⟩ := popS_of h
  exact fun H locs ls h1 h2 h3 h4 h5 h6 h7 h8 h9 => lv_dup C.1 C.2.1 hd (cv_cat1 hv) (h_1 H locs ls h1 h2 h3 (lv1 (lvh h4) h4) h5 h6 h7 h8 h9)
theorem s_dup2 (C : Ctx E X Y d p R s m args meth c) (hd : decode Y.2.2.1 pc = .ok (.dup2, 1)) (h : popS st fun v r => popS r fun u r => PS E Y n0 p l e R s m args below meth c Q (pc + 1) L (v :: u :: v :: u :: r) S fc fs) : PS E Y n0 p l e R s m args below meth c Q pc L st S fc fs := by
  obtain ⟨v, r, rfl, hv, h_1⟩ := popS_of h
  obtain ⟨u, r, rfl, hu, h_2⟩ := popS_of h_1
  exact fun H locs ls h1 h2 h3 h4 h5 h6 h7 h8 h9 => lv_dup2_11 C.1 C.2.1 hd (cv_cat1 hv) (cv_cat1 hu) (h_2 H locs ls h1 h2 h3 (lv1 (lvh h4) (lv1 (lvh (lvt h4)) h4)) h5 h6 h7 h8 h9)
theorem s_pop (C : Ctx E X Y d p R s m args meth c) (hd : decode Y.2.2.1 pc = .ok (.pop, 1)) (h : popS st fun _ r => PS E Y n0 p l e R s m args below meth c Q (pc + 1) L r S fc fs) : PS E Y n0 p l e R s m args below meth c Q pc L st S fc fs := by
  obtain ⟨v, r, rfl, hv, h_1⟩ := popS_of h
  exact fun H locs ls h1 h2 h3 h4 h5 h6 h7 h8 h9 => lv_pop C.1 C.2.1 hd (cv_cat1 hv) (h_1 H locs ls h1 h2 h3 (lvt h4) h5 h6 h7 h8 h9)
/-- a branch on one number, on two -/
theorem s_br1 {u w : Int32 → Prop} {n : Nat} (hW : ∀ {x : Int32} {H : Heap} {locs : List Loc} {ls : Array Slot} {r : List Value}, (u x → W p l e R s m args below meth c H locs fc fs Q (F0 m t ls r)) → (w x → W p l e R s m args below meth c H locs fc fs Q (F0 m n ls r)) → W p l e R s m args below meth c H locs fc fs Q (F0 m pc ls (.int x :: r)))
    (h : popI st fun x r => (u x → PS E Y n0 p l e R s m args below meth c Q t L r S fc fs) ∧ (w x → PS E Y n0 p l e R s m args below meth c Q n L r S fc fs)) : PS E Y n0 p l e R s m args below meth c Q pc L st S fc fs := by
  obtain ⟨x, r, rfl, h_1⟩ := popI_of h
  exact fun H locs ls h1 h2 h3 h4 h5 h6 h7 h8 h9 => hW (fun z => h_1.1 z H locs ls h1 h2 h3 (lvt h4) h5 h6 h7 h8 h9) (fun z => h_1.2 z H locs ls h1 h2 h3 (lvt h4) h5 h6 h7 h8 h9)
theorem s_br2 {u w : Int32 → Int32 → Prop} {n : Nat} (hW : ∀ {x y : Int32} {H : Heap} {locs : List Loc} {ls : Array Slot} {r : List Value}, (u x y → W p l e R s m args below meth c H locs fc fs Q (F0 m t ls r)) → (w x y → W p l e R s m args below meth c H locs fc fs Q (F0 m n ls r)) → W p l e R s m args below meth c H locs fc fs Q (F0 m pc ls (.int y :: .int x :: r)))
    (h : popI st fun y r => popI r fun x r => (u x y → PS E Y n0 p l e R s m args below meth c Q t L r S fc fs) ∧ (w x y → PS E Y n0 p l e R s m args below meth c Q n L r S fc fs)) : PS E Y n0 p l e R s m args below meth c Q pc L st S fc fs := by
  obtain ⟨y, r, rfl, h_1⟩ := popI_of h
  obtain ⟨x, r, rfl, h_2⟩ := popI_of h_1
  exact fun H locs ls h1 h2 h3 h4 h5 h6 h7 h8 h9 => hW (fun z => h_2.1 z H locs ls h1 h2 h3 (lvt (lvt h4)) h5 h6 h7 h8 h9) (fun z => h_2.2 z H locs ls h1 h2 h3 (lvt (lvt h4)) h5 h6 h7 h8 h9)
theorem s_goto (C : Ctx E X Y d p R s m args meth c) {o : Int} (hd : decode Y.2.2.1 pc = .ok (.goto o, 3)) (ht : (pc : Int) + o = (t : Int)) (h : PS E Y n0 p l e R s m args below meth c Q t L st S fc fs) : PS E Y n0 p l e R s m args below meth c Q pc L st S fc fs :=
  fun H locs ls h1 h2 h3 h4 h5 h6 h7 h8 h9 => lv_goto C.1 C.2.1 hd ht (h H locs ls h1 h2 h3 h4 h5 h6 h7 h8 h9)
theorem s_ifnn (C : Ctx E X Y d p R s m args meth c) {o : Int} (hd : decode Y.2.2.1 pc = .ok (.ifnonnull o, 3)) (ht : (pc : Int) + o = (t : Int)) {q : Nat × Nat} {r : List AV} (h : PS E Y n0 p l e R s m args below meth c Q t L r S fc fs) : PS E Y n0 p l e R s m args below meth c Q pc L (Sum.inr (Sum.inr (some q)) :: r) S fc fs :=
  fun H locs ls h1 h2 h3 h4 h5 h6 h7 h8 h9 => lv_ifnonnull C.1 C.2.1 hd ht (h H locs ls h1 h2 h3 (lvt h4) h5 h6 h7 h8 h9)
theorem s_ifnnN (C : Ctx E X Y d p R s m args meth c) {o : Int} (hd : decode Y.2.2.1 pc = .ok (.ifnonnull o, 3)) {r : List AV} (h : PS E Y n0 p l e R s m args below meth c Q (pc + 3) L r S fc fs) : PS E Y n0 p l e R s m args below meth c Q pc L (aN :: r) S fc fs :=
  fun H locs ls h1 h2 h3 h4 h5 h6 h7 h8 h9 => lv_ifnonnullN C.1 C.2.1 hd (h H locs ls h1 h2 h3 (lvt h4) h5 h6 h7 h8 h9)
end SNE
end
section
/-! SOUNDNESS, on: switches, fields, arrays -/
section SNF
variable {E : Env0} {X : State → Prop} {Y : MT} {d n0 : Nat} {p : Program} {l : Launch} {e : Env} {R : Room} {s : State} {m : MethodId} {args : Array Value} {below : List Frame} {meth : Method} {c : Code} {Q : State → Prop}
variable {pc t fc fs : Nat} {L : List (Option AV)} {st : List AV} {S : St}
theorem swP_none {x : Int32} {P : Nat → Prop} : ∀ (sw : List (Int32 × Nat)) (t : Nat), swP x P sw t → (∀ k q, nth sw k = some q → x ≠ q.1) → P t
  | [], t, h, _ => h
  | a :: l, t, h, hn => swP_none l t (h.2 (hn 0 a rfl)) (fun k q hk => hn (k + 1) q hk)
theorem swP_at {x : Int32} {P : Nat → Prop} : ∀ (sw : List (Int32 × Nat)) (t k : Nat) (q : Int32 × Nat), swP x P sw t → nth sw k = some q → x = q.1 → (∀ k' q', k' < k → nth sw k' = some q' → x ≠ q'.1) → P q.2
  | [], _, _, _, _, hk, _, _ => by simp [nth] at hk
  | a :: l, t, 0, q, h, hk, hx, _ => by
    simp only [nth, Option.some.injEq] at hk
    subst hk
    exact h.1 hx
  | a :: l, t, k + 1, q, h, hk, hx, hn => swP_at l t k q (h.2 (hn 0 a (by omega) rfl)) hk hx (fun k' q' hk' hq' => hn (k' + 1) q' (by omega) hq')
theorem nth_some {α : Type} : ∀ (l : List α) (k : Nat), k < l.length → ∃ a, nth l k = some a
  | [], k, h => by simp at h
  | a :: l, 0, _ => ⟨a, rfl⟩
  | a :: l, k + 1, h => nth_some l k (by simpa using h)
theorem nth_lt {α : Type} : ∀ (l : List α) (k : Nat) (a : α), nth l k = some a → k < l.length
  | [], k, a, h => by simp [nth] at h
  | b :: l, 0, _, _ => by simp
  | b :: l, k + 1, a, h => by
    have := nth_lt l k a h
    simp
    exact this
theorem ofInt_toInt {z : Int} (h0 : 0 ≤ z) (h1 : z < 2147483648) : (Int32.ofInt z).toInt = z := by
  obtain ⟨n, rfl⟩ := Int.eq_ofNat_of_zero_le h0
  have h2 : n < 2 ^ 31 := by omega
  exact nI_toInt h2
theorem s_table (C : Ctx E X Y d p R s m args meth c) {df lo hi : Int} {offs : Array Int} {len : Nat} {x0 : Int32} {sw : List (Int32 × Nat)} (hd : decode Y.2.2.1 pc = .ok (.tableswitch df lo hi offs, len)) (hk : ckI (.tableswitch df lo hi offs) pc t x0 sw = true) (h : popI st fun x r => swP x (fun d => PS E Y n0 p l e R s m args below meth c Q d L r S fc fs) sw t) : PS E Y n0 p l e R s m args below meth c Q pc L st S fc fs := by
  obtain ⟨x, r, rfl, h_1⟩ := popI_of h
  simp only [ckI, Bool.and_eq_true, decide_eq_true_eq] at hk
  obtain ⟨⟨⟨⟨⟨k1, k2⟩, k3⟩, k4⟩, k5⟩, k6⟩ := hk
  have at' : ∀ k q, nth sw k = some q → q.1.toInt = lo + k ∧ ∃ o, offs[k]? = some o ∧ (pc : Int) + o = (q.2 : Int) := by
    intro k q hq
    have hkl := nth_lt sw k q hq
    have h9 := List.all_eq_true.mp k6 k (List.mem_range.mpr hkl)
    rw [hq] at h9
    have ho : offs[k]? = some (offs[k]'(by omega)) := by simp [show k < offs.size by omega]
    rw [ho] at h9
    simp only [Bool.and_eq_true, decide_eq_true_eq] at h9
    refine ⟨?_, _, ho, h9.2⟩
    rw [h9.1, ofInt_toInt (by omega) (by omega)]
  intro H locs ls h1 h2 h3 h4 h5 h6 h7 h8 h9
  by_cases hout : x.toInt < lo ∨ hi < x.toInt
  · refine lv_tableOut C.1 C.2.1 hd hout k1 ?_
    exact swP_none sw t h_1 (fun k q hq hx => by
      obtain ⟨a, -⟩ := at' k q hq
      have hkl := nth_lt sw k q hq
      rw [hx] at hout
      rcases hout with g | g <;> omega) H locs ls h1 h2 h3 (lvt h4) h5 h6 h7 h8 h9
  · have ha : ¬ x.toInt < lo := fun z => hout (Or.inl z)
    have hb : ¬ hi < x.toInt := fun z => hout (Or.inr z)
    obtain ⟨q, hq⟩ := nth_some sw (x.toInt - lo).toNat (by omega)
    obtain ⟨a, o, ho, hp⟩ := at' _ q hq
    refine lv_tableIn C.1 C.2.1 hd ha hb ho hp ?_
    have hxq : x = q.1 := Int32.toInt_inj.mp (by rw [a]; omega)
    exact swP_at sw t _ q h_1 hq hxq (fun k' q' hk' hq' hx => by
      obtain ⟨a', -⟩ := at' k' q' hq'
      rw [← hx] at a'
      omega) H locs ls h1 h2 h3 (lvt h4) h5 h6 h7 h8 h9
theorem fldW {own idx : Nat} {f : Nat × Nat × Nat × Bool} (h : fld own idx = some f) : ckF own f = true ∧ ∀ w ∈ fwords own idx f, w ∈ ALLW := by
  unfold fld at h
  split at h
  · cases h
  · rename_i l hl
    exact ⟨enum_all (f := fun o _ e => ckF o e) ckF_ok hl h, ALLW_of (fun w hw => fW_ok w (allT_in (f := fwords) hl h hw))⟩
/-- a class: its row of vwCl, its words, its types -/
theorem clsF {ci : Nat} {q : vw_C} (h : nth vwCl ci = some q) : vwCl[ci]? = some q ∧ (∀ w ∈ u_ws q.1 q.2.1 q.2.2, w ∈ ALLW) ∧ (∃ ty0 : Nat → FieldType, nth ftT ci = some ty0 ∧ (∀ k, k < q.2.2 → parseFieldDescriptor (q.2.1 k).2.2.1 = some (ty0 k))) ∧ (∀ a, a < q.2.2 → ∀ b, b < q.2.2 → a ≠ b → (q.2.1 a).2.1 ≠ (q.2.1 b).2.1) ∧ q.1 = own8 ci ∧ ci < 7 ∧ q.2.2 = nFl ci := by
  have hn : nFl ci = q.2.2 := by simp [nFl, h]
  refine ⟨by rw [← nth_get]; exact h, ?_⟩
  match ci, h with
  | 0, h => cases h; exact ⟨ALLW_of uW_0, ⟨tyX0, rfl, tyX0_ok⟩, nmX0, rfl, by omega, rfl⟩
  | 1, h => cases h; exact ⟨ALLW_of uW_1, ⟨tyX1, rfl, tyX1_ok⟩, nmX1, rfl, by omega, rfl⟩
  | 2, h => cases h; exact ⟨ALLW_of uW_2, ⟨tyX2, rfl, tyX2_ok⟩, nmX2, rfl, by omega, rfl⟩
  | 3, h => cases h; exact ⟨ALLW_of uW_3, ⟨tyX3, rfl, tyX3_ok⟩, nmX3, rfl, by omega, rfl⟩
  | 4, h => cases h; exact ⟨ALLW_of uW_4, ⟨tyX4, rfl, tyX4_ok⟩, nmX4, rfl, by omega, rfl⟩
  | 5, h => cases h; exact ⟨ALLW_of uW_5, ⟨tyX5, rfl, tyX5_ok⟩, nmX5, rfl, by omega, rfl⟩
  | n + 6, h => simp [nth] at h
/-- a link to a field, in the words of the rows -/
theorem fldQ {own idx ci k ty : Nat} {fin : Bool} (h : fld own idx = some (ci, k, ty, fin)) : ∃ q : vw_C, nth vwCl ci = some q ∧ k < q.2.2 ∧ fty ci k = ty ∧ (q.2.1 k).2.2.2 = fin ∧ (q.2.1 k).1 = own8 ci ∧ Jvm.Cond.fieldLink (own8 own) idx (q.2.1 k).1 (q.2.1 k).2.1 (q.2.1 k).2.2.1 ∈ ALLW := by
  obtain ⟨h1, h2⟩ := fldW h
  unfold ckF at h1
  dsimp only at h1
  split at h1
  · cases h1
  · rename_i q hq
    simp only [Bool.and_eq_true, decide_eq_true_eq] at h1
    obtain ⟨⟨⟨⟨a1, a2⟩, a3⟩, a4⟩, a5⟩ := h1
    exact ⟨q, hq, Nat.le_of_ble_eq_true a1, a2, a3, a4, h2 _ (by simp [fwords, hq])⟩
theorem el_obj {j g : Nat} (h : clsP j < 7) : el E S (j, g) = .inr (clsP j, (List.range (nFl (clsP j))).map (fvl E S j g)) := by simp [el, h]
theorem cv_frf {j g k : Nat} (h1 : fty (clsP j) k = 2) (h2 : S.2.2.1 j g k = true) : fvl E S j g k = cv E (Sum.inr (Sum.inr (some (frf j g k)))) := by
  simp [fvl, h1, h2, cv]
/-- the cells that can be read: a live one of the world -/
theorem cls_lt {j : Nat} (h : clsP j < 7) : j < 60 := by
  rcases Nat.lt_or_ge j 60 with g | g
  · exact g
  · exfalso
    unfold clsP at h
    split at h <;> omega
theorem s_getf (C : Ctx E X Y d p R s m args meth c) {ix ci k ty : Nat} {fin : Bool} (hd : decode Y.2.2.1 pc = .ok (.getfield ix, 3)) (hf : fld Y.1.2.1 ix = some (ci, k, ty, fin)) {j g : Nat} {r : List AV} (hj : clsP j = ci) {v : AV} (hv : ∀ H, lvP S j g → j < 60 → k < nFl ci → fty ci k = ty → Rep E S H → lvA S v) (hvl : fty ci k = ty → fvl E S j g k = cv E v)
    (h : PS E Y n0 p l e R s m args below meth c Q (pc + 3) L (v :: r) S fc fs) : PS E Y n0 p l e R s m args below meth c Q pc L (aR j g :: r) S fc fs := by
  intro H locs ls h1 h2 h3 h4 h5 h6 h7 h8 h9
  obtain ⟨q, hq, hk, hty, hfin, hdecl, hw⟩ := fldQ hf
  subst hj
  obtain ⟨c1, c2, ⟨ty0, -, c3⟩, c4, c5, c6, c7⟩ := clsF hq
  have hl : lvP S j g := lvh h4
  have hj := cls_lt c6
  obtain ⟨a1, a2⟩ := hl.in hj
  have hg := wld_get (E := E) a1 a2
  rw [el_obj c6] at hg
  have ha : cv E (aR j g) = .ref (E.2.2.1 + numP j g) := by simp [cv, adr, hj]
  rw [List.map_cons, ha]
  have hfs : ((List.range (nFl (clsP j))).map (fvl E S j g))[k]? = some (cv E v) := by
    rw [List.getElem?_map, List.getElem?_range (by rw [← c7]; exact hk)]
    simp [hvl hty]
  exact va_get (D := E.1) (cl := vwCl) (tys := tysE E) (ws := wld E S) (ci := clsP j) (C := q.1) (T := q.2.1) (N := q.2.2) C.1 C.2.1 C.2.2.2.2.1 c2 C.2.2.2.1 C.2.2.2.2.2.2.1.1 h1.2.1 (numP j g) hg c1 k hk (C.2.2.2.2.1 _ hw) (fun _ hx => hx) hfs hd (h H locs ls h1 h2 h3 (lv1 (hv H hl hj (by rw [← c7]; exact hk) hty h1) (lvt h4)) h5 h6 h7 h8 h9)
/-- where few cells were made, the heap's size is known -/
theorem W_sized {H : Heap} {locs : List Loc} {cells slots : Nat} {g : JFrame} (h : H.size ≤ s.heap.size + cells → W p l e R s m args below meth c H locs cells slots Q g) : W p l e R s m args below meth c H locs cells slots Q g := by
  intro T hT Z
  have hz := Z.heapSize
  rw [hT] at hz
  exact h hz T hT Z
theorem wld_low {H : Heap} (h : va_P E.1 vwCl (wld E S) H) (h0 : 0 < S.2.2.2.2) : E.2.2.1 + S.2.2.2.2 ≤ H.size := by
  have hl : S.2.2.2.2 - 1 < (wld E S).length := by rw [wld_len]; omega
  have hg : (wld E S)[S.2.2.2.2 - 1]? = some (E.2.2.1 + (S.2.2.2.2 - 1), el E S (idOf (S.2.2.2.2 - 1))) := by
    simp [wld, List.getElem?_map, List.getElem?_range (show S.2.2.2.2 - 1 < S.2.2.2.2 by omega)]
  have := (h _ _ hg).lt
  dsimp only at this
  omega
/-- a state with one cell's contents changed -/
theorem rep_set {S' : St} {H H1 : Heap} {j g : Nat} (h1 : Rep E S H) (hl : lvP S j g) (hj : j < 60) (hc : S'.2.2.2.2 = S.2.2.2.2) (ht : S'.2.2.2.1 = S.2.2.2.1) (hs : ∀ a, 60 ≤ a → ∀ k, S'.1 a 0 k = S.1 a 0 k) (ho : ∀ k, k ≠ numP j g → k < S.2.2.2.2 → el E S' (idOf k) = el E S (idOf k)) (hP : va_P E.1 vwCl ((wld E S).set (numP j g) (E.2.2.1 + numP j g, el E S' (j, g))) H1) (hz : H1.size ≤ E.2.2.1 + S.2.2.2.2)
    (hn : ∀ a b k, S'.2.2.1 a b k = true → S.2.2.1 a b k = true ∨ (a = j ∧ b = g ∧ ((clsP a < 7 → fty (clsP a) k = 2 → lvP S (frf a b k).1 (frf a b k).2) ∧ (1 ≤ rfk a → lvP S (erf a k).1 (erf a k).2)))) : Rep E S' H1 := by
  obtain ⟨r1, r2, r3, r4, r5, r6, r7⟩ := h1
  obtain ⟨a1, a2⟩ := hl.in hj
  rw [wld_set a1 hc ho a2] at hP
  have hlow := wld_low hP (by rw [hc]; omega)
  have hb : ∀ a b, lvP S' a b → lvP S a b := fun a b z => z.up (Nat.le_of_eq hc)
  have hf : ∀ a b, lvP S a b → lvP S' a b := fun a b z => z.up (Nat.le_of_eq hc.symm)
  refine ⟨by rw [hc] at hlow ⊢; omega, hP, fun a ha k => by rw [hs a ha k]; exact r3 a ha k, by rw [ht]; exact r4, fun t => by rw [ht]; exact r5 t, fun a b k x1 x2 x3 x4 x5 x6 => ?_, fun a b k x1 x2 x3 x4 x5 => ?_⟩
  · rcases hn a b k x6 with z | ⟨-, -, z, -⟩
    · exact hf _ _ (r6 a b k (hb _ _ x1) x2 x3 x4 x5 z)
    · exact hf _ _ (z x3 x4)
  · rcases hn a b k x5 with z | ⟨-, -, -, z⟩
    · exact hf _ _ (r7 a b k (hb _ _ x1) x2 x3 (by rw [← ht]; exact x4) z)
    · exact hf _ _ (z x3)
theorem s_putf (C : Ctx E X Y d p R s m args meth c) {ix ci k ty : Nat} {fin : Bool} (hd : decode Y.2.2.1 pc = .ok (.putfield ix, 3)) (hin : fin = true → Y.2.1.name = "<init>" ∧ ci = Y.1.2.1) (hf : fld Y.1.2.1 ix = some (ci, k, ty, fin)) {j g : Nat} {r : List AV} (hj : clsP j = ci) {v : AV} {S' : St}
    (hval : ∀ ty0 : FieldType, tcd ty0 = ty → narrow ty0 (cv E v) = cv E v ∧ fits ty0 (cv E v) = true) (hc : S'.2.2.2.2 = S.2.2.2.2) (ht : S'.2.2.2.1 = S.2.2.2.1) (hs : ∀ a, 60 ≤ a → ∀ k, S'.1 a 0 k = S.1 a 0 k) (ho : lvP S j g → ∀ k, k ≠ numP j g → k < S.2.2.2.2 → el E S' (idOf k) = el E S (idOf k))
    (hth : fty ci k = ty → ∀ z, fvl E S' j g z = if z = k then cv E v else fvl E S j g z)
    (hn : lvA S v → fty ci k = ty → ∀ a b z, S'.2.2.1 a b z = true → S.2.2.1 a b z = true ∨ (a = j ∧ b = g ∧ ((clsP a < 7 → fty (clsP a) z = 2 → lvP S (frf a b z).1 (frf a b z).2) ∧ (1 ≤ rfk a → lvP S (erf a z).1 (erf a z).2))))
    (hfc : fc < 1000) (h : PS E Y n0 p l e R s m args below meth c Q (pc + 3) L r S' fc fs) : PS E Y n0 p l e R s m args below meth c Q pc L (v :: aR j g :: r) S fc fs := by
  intro H locs ls h1 h2 h3 h4 h5 h6 h7 h8 h9
  obtain ⟨q, hq, hk, hty, hfin, hdecl, hw⟩ := fldQ hf
  subst hj
  obtain ⟨c1, c2, ⟨ty0, c0, c3⟩, c4, c5, c6, c7⟩ := clsF hq
  have hl : lvP S j g := lvh (lvt h4)
  have hlv : lvA S v := lvh h4
  have hex := h9 hfc
  have hj := cls_lt c6
  obtain ⟨a1, a2⟩ := hl.in hj
  have hg := wld_get (E := E) a1 a2
  rw [el_obj c6] at hg
  have ha : cv E (aR j g) = .ref (E.2.2.1 + numP j g) := by simp [cv, adr, hj]
  rw [List.map_cons, List.map_cons, ha]
  have hset : ((List.range (nFl (clsP j))).map (fvl E S j g)).set k (cv E v) = (List.range (nFl (clsP j))).map (fvl E S' j g) := by
    apply List.ext_getElem?
    intro z
    by_cases hz : z = k
    · subst hz
      rw [List.getElem?_set_self (by simp [← c7]; exact hk), List.getElem?_map, List.getElem?_range (by rw [← c7]; exact hk)]
      simp [hth hty]
    · rw [List.getElem?_set_ne (fun y => hz y.symm), List.getElem?_map, List.getElem?_map]
      by_cases hl : z < nFl (clsP j)
      · rw [List.getElem?_range hl]
        simp [hth hty, hz]
      · rw [List.getElem?_eq_none (by simp; omega)]
        rfl
  have hel : el E S' (j, g) = .inr (clsP j, (List.range (nFl (clsP j))).map (fvl E S' j g)) := by simp [el, c6]
  have hty0 : tcd (ty0 k) = ty := by
    rw [← hty]
    simp [fty, c0]
  obtain ⟨hna, hfi⟩ := hval (ty0 k) hty0
  have fin' : ∀ (H1 : Heap) (locs1 : List Loc), va_P E.1 vwCl ((wld E S).set (numP j g) (E.2.2.1 + numP j g, .inr (clsP j, ((List.range (nFl (clsP j))).map (fvl E S j g)).set k (cv E v)))) H1 → va_S (baseA E) s.heap H1 locs1 → W p l e R s m args below meth c H1 locs1 fc fs Q (F0 m (pc + 3) ls (r.map (cv E))) := by
    intro H1 locs1 hP hS
    refine W_sized fun hz => ?_
    rw [hset, ← hel] at hP
    have hR := rep_set h1 hl hj hc ht hs (ho hl) hP (by omega) (hn hlv hty)
    exact h H1 locs1 ls hR h2 (fun i u hu => (h3 i u hu).up (Nat.le_of_eq hc.symm)) (fun u hu => ((lvt (lvt h4)) u hu).up (Nat.le_of_eq hc.symm)) hS (by rw [hc]; exact h6) h7 h8 (fun _ => by rw [hc]; exact hex)
  cases fin with
  | false => exact va_put (D := E.1) (cl := vwCl) (tys := tysE E) (ws := wld E S) (A := baseA E) (H0 := s.heap) (ci := clsP j) (C := q.1) (T := q.2.1) (N := q.2.2) C.1 C.2.1 C.2.2.2.2.1 c2 ty0 c3 c4 C.2.2.2.1 C.2.2.2.2.2.2.1.1 h1.2.1 (wld_D E S) h5 (numP j g) hg c1 k hk (C.2.2.2.2.1 _ hw) (fun _ hx => hx) hfin (c3 k hk) hna hfi (by simp [← c7]; exact hk) hd (fun H1 locs1 hP _ hS => fin' H1 locs1 hP hS)
  | true => exact va_putF (D := E.1) (cl := vwCl) (tys := tysE E) (ws := wld E S) (A := baseA E) (H0 := s.heap) (ci := clsP j) (C := q.1) (T := q.2.1) (N := q.2.2) C.1 C.2.1 C.2.2.2.2.1 c2 ty0 c3 c4 C.2.2.2.1 C.2.2.2.2.2.2.1.1 h1.2.1 (wld_D E S) h5 (numP j g) hg c1 k hk (C.2.2.2.2.1 _ hw) (fun _ hx => hx) hfin (C.2.2.2.2.2.2.2.2.2.2.2 (hin rfl).1) (by rw [hdecl, (hin rfl).2]) (c3 k hk) hna hfi (by simp [← c7]; exact hk) hd (fun H1 locs1 hP _ hS => fin' H1 locs1 hP hS)
end SNF
end
section
/-! SOUNDNESS, on: arrays -/
section SNG
variable {E : Env0} {X : State → Prop} {Y : MT} {d n0 : Nat} {p : Program} {l : Launch} {e : Env} {R : Room} {s : State} {m : MethodId} {args : Array Value} {below : List Frame} {meth : Method} {c : Code} {Q : State → Prop}
variable {pc t fc fs : Nat} {L : List (Option AV)} {st : List AV} {S : St}
theorem iak_cls {j : Nat} (h : 1 ≤ iak j) : ¬ clsP j < 7 ∧ rfk j = 0 := by
  unfold iak at h
  split at h <;> first | (constructor <;> decide) | omega
theorem rfk_cls {j : Nat} (h : 1 ≤ rfk j) : ¬ clsP j < 7 ∧ iak j = 0 ∧ j < 60 := by
  unfold rfk at h
  split at h <;> first | (refine ⟨?_, ?_, ?_⟩ <;> decide) | omega
theorem iak_lt {j : Nat} (h : iak j = 1 ∨ iak j = 2) : j < 60 := by
  rcases Nat.lt_or_ge j 60 with g | g
  · exact g
  · exfalso
    unfold iak at h
    split at h <;> first | omega | (rcases h with h | h <;> omega)
theorem iak_n2 (j : Nat) : ¬ iak j = 2 := by
  unfold iak
  split <;> decide
theorem iak3 {j : Nat} (h : iak j = 3) : 60 ≤ j ∧ j ≤ 65 := by
  unfold iak at h
  split at h <;> first | omega | (constructor <;> omega)
theorem el_int {j g : Nat} (h : iak j = 1) : el E S (j, g) = .inl (E.2.1 0, aln S.2.2.2.1 j g, .inl (S.1 j g)) := by
  obtain ⟨h1, h2⟩ := iak_cls (j := j) (by omega)
  simp [el, h1, h2, h]
theorem el_ref {j g : Nat} (h : 1 ≤ rfk j) : el E S (j, g) = .inl (E.2.1 (rfk j), aln S.2.2.2.1 j g, .inr (.inr (.inr (.inr fun k => if S.2.2.1 j g k = true then some (adr E (erf j k).1 (erf j k).2) else none)))) := by
  obtain ⟨h1, h2, h3⟩ := rfk_cls h
  simp [el, h1, h2, show ¬ rfk j = 0 by omega]
theorem aln_lt {tl : Nat → Nat} (h : ∀ t, tl t ≤ 4000) (j g : Nat) : aln tl j g ≤ 4000 := by
  unfold aln
  split <;> first | exact h _ | omega
theorem in_of {S : St} {H : Heap} (hR : Rep E S H) {j g k : Nat} {i : Int32} (h : chI S j g i k) : vp_in i (aln S.2.2.2.1 j g) ∧ i.toNatClampNeg = k := by
  obtain ⟨rfl, hk⟩ := h
  have := aln_lt hR.2.2.2.2.1 j g
  exact ⟨vp_in_nI hk (by omega), nI_clamp (by omega)⟩
theorem s_iald (C : Ctx E X Y d p R s m args meth c) (hd : decode Y.2.2.1 pc = .ok (.iaload, 1)) {i : Int32} {j g k : Nat} {r : List AV} (hj : iak j = 1 ∨ iak j = 3) (hk : chI S j g i k) (h : PS E Y n0 p l e R s m args below meth c Q (pc + 1) L (aI (S.1 j g k) :: r) S fc fs) : PS E Y n0 p l e R s m args below meth c Q pc L (aI i :: aR j g :: r) S fc fs := by
  intro H locs ls h1 h2 h3 h4 h5 h6 h7 h8 h9
  obtain ⟨hin, hcl⟩ := in_of h1 hk
  have hl : lvP S j g := lvh (lvt h4)
  have hr := h H locs ls h1 h2 h3 (lv1 (v := aI (S.1 j g k)) trivial (lvt (lvt h4))) h5 h6 h7 h8 h9
  rcases hj with hj | hj
  · have hj6 := iak_lt (Or.inl hj)
    obtain ⟨a1, a2⟩ := hl.in hj6
    have hg := wld_get (E := E) a1 a2
    rw [el_int hj] at hg
    have ha : cv E (aR j g) = .ref (E.2.2.1 + numP j g) := by simp [cv, adr, hj6]
    rw [List.map_cons, List.map_cons, ha]
    exact va_iald (D := E.1) (cl := vwCl) (tys := tysE E) (ws := wld E S) C.1 C.2.1 C.2.2.2.2.2.2.1.1 h1.2.1 (numP j g) 0 hg rfl hin hd (by rw [hcl]; exact hr)
  · obtain ⟨b1, b2⟩ := iak3 hj
    have hg0 : g = 0 := by
      rcases hl with ⟨z, -⟩ | ⟨-, -, z⟩ | ⟨z, -⟩
      · omega
      · exact z
      · omega
    subst hg0
    have ha : cv E (aR j 0) = .ref (E.2.2.2.1 j 0) := by simp [cv, adr, show ¬ j < 60 by omega]
    rw [List.map_cons, List.map_cons, ha]
    have hT := C.2.2.2.2.2.2.1.2.2.1 j b1 b2
    have hlen : aln S.2.2.2.1 j 0 = aln (fun _ => E.2.2.2.2.2) j 0 := by
      have : j = 60 ∨ j = 61 ∨ j = 62 ∨ j = 63 ∨ j = 64 ∨ j = 65 := by omega
      rcases this with rfl | rfl | rfl | rfl | rfl | rfl
      · simp [aln, h1.2.2.2.1]
      all_goals rfl
    refine va_ti C.1 C.2.1 hT h5 (by rw [← hlen]; exact hin) (v := .int (S.1 j 0 k)) (by rw [hcl, h1.2.2.1 j b1]) hd hr
theorem rfk_ty {j : Nat} (h : 1 ≤ rfk j) : ∃ ci q, nth vwCl ci = some q ∧ (tysE E)[rfk j]? = some (E.2.1 (rfk j), .object q.1) ∧ (∀ k, clsP (erf j k).1 = ci ∧ (erf j k).1 < 60) := by
  unfold rfk at h
  split at h
  · exact ⟨0, _, rfl, rfl, fun k => ⟨rfl, show (10 : Nat) < 60 by decide⟩⟩
  · exact ⟨3, _, rfl, rfl, fun k => ⟨rfl, show (20 : Nat) < 60 by decide⟩⟩
  · exact ⟨4, _, rfl, rfl, fun k => ⟨rfl, show (30 : Nat) < 60 by decide⟩⟩
  · omega
theorem s_aald (C : Ctx E X Y d p R s m args meth c) (hd : decode Y.2.2.1 pc = .ok (.aaload, 1)) {i : Int32} {j g k : Nat} {r : List AV} (hj : 1 ≤ rfk j) (hk : chI S j g i k) (hn : S.2.2.1 j g k = true) (h : PS E Y n0 p l e R s m args below meth c Q (pc + 1) L (Sum.inr (Sum.inr (some (erf j k))) :: r) S fc fs) : PS E Y n0 p l e R s m args below meth c Q pc L (aI i :: aR j g :: r) S fc fs := by
  intro H locs ls h1 h2 h3 h4 h5 h6 h7 h8 h9
  obtain ⟨hin, hcl⟩ := in_of h1 hk
  have hl : lvP S j g := lvh (lvt h4)
  obtain ⟨-, -, hj6⟩ := rfk_cls hj
  have hv : lvA S (Sum.inr (Sum.inr (some (erf j k)))) := h1.2.2.2.2.2.2 j g k hl hj6 hj hk.2 hn
  have hr := h H locs ls h1 h2 h3 (lv1 hv (lvt (lvt h4))) h5 h6 h7 h8 h9
  obtain ⟨a1, a2⟩ := hl.in hj6
  have hg := wld_get (E := E) a1 a2
  rw [el_ref hj] at hg
  have ha : cv E (aR j g) = .ref (E.2.2.1 + numP j g) := by simp [cv, adr, hj6]
  rw [List.map_cons, List.map_cons, ha]
  obtain ⟨ci, q, -, hty, -⟩ := rfk_ty (E := E) hj
  refine va_aldq (D := E.1) (cl := vwCl) (tys := tysE E) (ws := wld E S) C.1 C.2.1 C.2.2.2.2.2.2.1.1 h1.2.1 (numP j g) (rfk j) hg hty hin hd ?_
  rw [hcl, if_pos hn]
  exact hr
theorem s_alen (C : Ctx E X Y d p R s m args meth c) (hd : decode Y.2.2.1 pc = .ok (.arraylength, 1)) {j g : Nat} {r : List AV} (hj : 1 ≤ iak j ∨ 1 ≤ rfk j) (h : PS E Y n0 p l e R s m args below meth c Q (pc + 1) L (aI (nI (aln S.2.2.2.1 j g)) :: r) S fc fs) : PS E Y n0 p l e R s m args below meth c Q pc L (aR j g :: r) S fc fs := by
  intro H locs ls h1 h2 h3 h4 h5 h6 h7 h8 h9
  have hl : lvP S j g := lvh h4
  have hr := h H locs ls h1 h2 h3 (lv1 (v := aI (nI (aln S.2.2.2.1 j g))) trivial (lvt h4)) h5 h6 h7 h8 h9
  by_cases hj6 : j < 60
  · obtain ⟨a1, a2⟩ := hl.in hj6
    have hg := wld_get (E := E) a1 a2
    have ha : cv E (aR j g) = .ref (E.2.2.1 + numP j g) := by simp [cv, adr, hj6]
    rw [List.map_cons, ha]
    rcases hj with hj | hj
    · have h12 : iak j = 1 ∨ iak j = 2 := by
        have : iak j ≤ 3 := by unfold iak; split <;> omega
        rcases Nat.lt_or_ge (iak j) 3 with z | z
        · omega
        · have := iak3 (j := j) (by omega)
          omega
      rcases h12 with z | z
      · rw [el_int z] at hg
        exact va_alen (D := E.1) (cl := vwCl) (tys := tysE E) (ws := wld E S) C.1 C.2.1 C.2.2.2.2.2.2.1.1 h1.2.1 (numP j g) 0 hg (ty := .int) rfl rfl hd hr
      · exact absurd z (iak_n2 j)
    · rw [el_ref hj] at hg
      obtain ⟨ci, q, -, hty, -⟩ := rfk_ty (E := E) hj
      exact va_alen (D := E.1) (cl := vwCl) (tys := tysE E) (ws := wld E S) C.1 C.2.1 C.2.2.2.2.2.2.1.1 h1.2.1 (numP j g) (rfk j) hg hty rfl hd hr
  · have hj3 : iak j = 3 := by
      rcases hj with hj | hj
      · have : iak j ≤ 3 := by unfold iak; split <;> omega
        rcases Nat.lt_or_ge (iak j) 3 with z | z
        · exact absurd (iak_lt (j := j) (by omega)) hj6
        · omega
      · exact absurd (rfk_cls hj).2.2 hj6
    obtain ⟨b1, b2⟩ := iak3 hj3
    have hg0 : g = 0 := by
      rcases hl with ⟨z, -⟩ | ⟨-, -, z⟩ | ⟨z, -⟩
      · omega
      · exact z
      · omega
    subst hg0
    have ha : cv E (aR j 0) = .ref (E.2.2.2.1 j 0) := by simp [cv, adr, hj6]
    rw [List.map_cons, ha]
    have hlen : aln S.2.2.2.1 j 0 = aln (fun _ => E.2.2.2.2.2) j 0 := by
      have : j = 60 ∨ j = 61 ∨ j = 62 ∨ j = 63 ∨ j = 64 ∨ j = 65 := by omega
      rcases this with rfl | rfl | rfl | rfl | rfl | rfl
      · simp [aln, h1.2.2.2.1]
      all_goals rfl
    exact va_tlen C.1 C.2.1 (C.2.2.2.2.2.2.1.2.2.1 j b1 b2) h5 (v := nI (aln S.2.2.2.1 j 0)) (by rw [hlen]; rfl) hd hr
/-- what a store into an array leaves -/
theorem s_arr {S' : St} {r : List AV} {j g : Nat} {n : Nat} (hj6 : j < 60) (hc : S'.2.2.2.2 = S.2.2.2.2) (ht : S'.2.2.2.1 = S.2.2.2.1) (hs : ∀ a, 60 ≤ a → ∀ k, S'.1 a 0 k = S.1 a 0 k) (ho : ∀ q, q ≠ (j, g) → el E S' q = el E S q) {H H1 : Heap} {locs1 : List Loc} {ls : Array Slot} (hfc : fc < 1000)
    (h1 : Rep E S H) (h2 : LokL E ls Y.2.2.2.1 L) (h3 : ∀ k v, nth L k = some (some v) → lvA S v) (hl : lvP S j g) (h4 : ∀ v ∈ r, lvA S v) (h6 : n0 ≤ S.2.2.2.2) (h7 : fc ≤ Y.1.2.2.1) (h8 : fs ≤ Y.1.2.2.2.1) (h9 : fc < 1000 → E.2.2.1 + S.2.2.2.2 = s.heap.size + fc)
    (hn : ∀ a b k, S'.2.2.1 a b k = true → S.2.2.1 a b k = true ∨ (a = j ∧ b = g ∧ ((clsP a < 7 → fty (clsP a) k = 2 → lvP S (frf a b k).1 (frf a b k).2) ∧ (1 ≤ rfk a → lvP S (erf a k).1 (erf a k).2))))
    (hP : va_P E.1 vwCl ((wld E S).set (numP j g) (E.2.2.1 + numP j g, el E S' (j, g))) H1) (hS : va_S (baseA E) s.heap H1 locs1) (h : PS E Y n0 p l e R s m args below meth c Q n L r S' fc fs) : W p l e R s m args below meth c H1 locs1 fc fs Q (F0 m n ls (r.map (cv E))) := by
  have hex := h9 hfc
  refine W_sized fun hz => ?_
  have hR := rep_set h1 hl hj6 hc ht hs (fun k hk _ => ho _ (fun z => hk (by rw [← numId k, z]))) hP (by omega) hn
  exact h H1 locs1 ls hR h2 (fun i u hu => (h3 i u hu).up (Nat.le_of_eq hc.symm)) (fun u hu => (h4 u hu).up (Nat.le_of_eq hc.symm)) hS (by rw [hc]; exact h6) h7 h8 (fun _ => by rw [hc]; exact hex)
theorem iv_st {j g k : Nat} {x : Int32} (hj : j < 60) : ∀ a, 60 ≤ a → ∀ z, (ivSet S j g k x).1 a 0 z = S.1 a 0 z := fun a ha z => by
  simp only [ivSet, up3]
  rw [if_neg (fun y => by omega)]
theorem iv_upd {j g k : Nat} {x : Int32} : (ivSet S j g k x).1 j g = upd (S.1 j g) k x := by
  funext z
  simp only [ivSet, up3, upd]
  by_cases h : z = k
  · simp [h]
  · simp [h]
theorem s_iast (C : Ctx E X Y d p R s m args meth c) (hd : decode Y.2.2.1 pc = .ok (.iastore, 1)) {i x : Int32} {j g k : Nat} {r : List AV} (hfc : fc < 1000) (hj : iak j = 1) (hk : chI S j g i k) (h : PS E Y n0 p l e R s m args below meth c Q (pc + 1) L r (ivSet S j g k x) fc fs) : PS E Y n0 p l e R s m args below meth c Q pc L (aI x :: aI i :: aR j g :: r) S fc fs := by
  intro H locs ls h1 h2 h3 h4 h5 h6 h7 h8 h9
  obtain ⟨hin, hcl⟩ := in_of h1 hk
  have hl : lvP S j g := lvh (lvt (lvt h4))
  have hj6 := iak_lt (Or.inl hj)
  obtain ⟨a1, a2⟩ := hl.in hj6
  have hg := wld_get (E := E) a1 a2
  rw [el_int hj] at hg
  have ha : cv E (aR j g) = .ref (E.2.2.1 + numP j g) := by simp [cv, adr, hj6]
  rw [List.map_cons, List.map_cons, List.map_cons, ha]
  refine va_iast (D := E.1) (cl := vwCl) (tys := tysE E) (ws := wld E S) (A := baseA E) (H0 := s.heap) C.1 C.2.1 C.2.2.2.2.2.2.1.1 h1.2.1 (wld_D E S) h5 (numP j g) 0 hg rfl hin hd (fun H1 locs1 hP _ hS => ?_)
  refine s_arr (S := S) (S' := ivSet S j g k x) (j := j) (g := g) hj6 rfl rfl (iv_st hj6) (fun q hq => el_iv hq) hfc h1 h2 h3 hl (lvt (lvt (lvt h4))) h6 h7 h8 h9 (fun a b z hz => Or.inl hz) ?_ hS h
  rw [el_int hj, iv_upd, ← hcl]
  exact hP
theorem s_aast (C : Ctx E X Y d p R s m args meth c) (hd : decode Y.2.2.1 pc = .ok (.aastore, 1)) {i : Int32} {j g k : Nat} {r : List AV} (hfc : fc < 1000) (hj : 1 ≤ rfk j) (hk : chI S j g i k) (h : PS E Y n0 p l e R s m args below meth c Q (pc + 1) L r (nnSet S j g k) fc fs) : PS E Y n0 p l e R s m args below meth c Q pc L (Sum.inr (Sum.inr (some (erf j k))) :: aI i :: aR j g :: r) S fc fs := by
  intro H locs ls h1 h2 h3 h4 h5 h6 h7 h8 h9
  obtain ⟨hin, hcl⟩ := in_of h1 hk
  have hl : lvP S j g := lvh (lvt (lvt h4))
  have hv : lvP S (erf j k).1 (erf j k).2 := lvh h4
  obtain ⟨-, -, hj6⟩ := rfk_cls hj
  obtain ⟨a1, a2⟩ := hl.in hj6
  have hg := wld_get (E := E) a1 a2
  rw [el_ref hj] at hg
  have ha : cv E (aR j g) = .ref (E.2.2.1 + numP j g) := by simp [cv, adr, hj6]
  obtain ⟨ci, q, hq, hty, hcls⟩ := rfk_ty (E := E) hj
  obtain ⟨e1, e2⟩ := hcls k
  obtain ⟨b1, b2⟩ := hv.in e2
  have hgv := wld_get (E := E) b1 b2
  have hc7 : clsP (erf j k).1 < 7 := by rw [e1]; exact (clsF hq).2.2.2.2.2.1
  rw [show (((erf j k).1, (erf j k).2) : Nat × Nat) = erf j k from rfl] at hgv
  rw [show el E S (erf j k) = .inr (clsP (erf j k).1, (List.range (nFl (clsP (erf j k).1))).map (fvl E S (erf j k).1 (erf j k).2)) from el_obj hc7] at hgv
  have hav : cv E (Sum.inr (Sum.inr (some (erf j k)))) = .ref (E.2.2.1 + numP (erf j k).1 (erf j k).2) := by simp [cv, adr, e2]
  rw [List.map_cons, List.map_cons, List.map_cons, ha, hav]
  refine va_astq (D := E.1) (cl := vwCl) (tys := tysE E) (ws := wld E S) (A := baseA E) (H0 := s.heap) C.1 C.2.1 C.2.2.2.2.2.2.1.1 h1.2.1 (wld_D E S) h5 (numP j g) (rfk j) (numP (erf j k).1 (erf j k).2) (clsP (erf j k).1) (r := q) hg hty hgv (by rw [e1]; exact (clsF hq).1) hin hd (fun H1 locs1 hP _ hS => ?_)
  refine s_arr (S := S) (S' := nnSet S j g k) (j := j) (g := g) hj6 rfl rfl (fun _ _ _ => rfl) (fun q hq => el_nn hq) hfc h1 h2 h3 hl (lvt (lvt (lvt h4))) h6 h7 h8 h9 (fun a b z hz => ?_) ?_ hS h
  · simp only [nnSet, up3] at hz
    split at hz
    · rename_i hy
      obtain ⟨rfl, rfl, rfl⟩ := hy
      exact Or.inr ⟨rfl, rfl, fun z => absurd z (rfk_cls hj).1, fun _ => hv⟩
    · exact Or.inl hz
  · rw [el_ref hj]
    have hf : (fun z => if (nnSet S j g k).2.2.1 j g z = true then some (adr E (erf j z).1 (erf j z).2) else none) = va_up (fun z => if S.2.2.1 j g z = true then some (adr E (erf j z).1 (erf j z).2) else none) i.toNatClampNeg (some (E.2.2.1 + numP (erf j k).1 (erf j k).2)) := by
      funext z
      rw [hcl]
      simp only [nnSet, up3, va_up]
      by_cases hz : z = k
      · subst hz
        simp [adr, e2]
      · simp [hz]
    rw [hf]
    exact hP
end SNG
end
section
/-! SOUNDNESS, on: new cells -/
section SNH
variable {E : Env0} {X : State → Prop} {Y : MT} {d n0 : Nat} {p : Program} {l : Launch} {e : Env} {R : Room} {s : State} {m : MethodId} {args : Array Value} {below : List Frame} {meth : Method} {c : Code} {Q : State → Prop}
variable {pc t fc fs : Nat} {L : List (Option AV)} {st : List AV} {S : St}
/-- a new cell lies behind the last one -/
theorem new_at {H : Heap} {q : Nat} {ev : va_E} {n : Nat} (hP : va_P E.1 vwCl (wld E S ++ [(q, ev)]) H) (hD : va_D (baseA E) (wld E S ++ [(q, ev)])) (hz : H.size ≤ E.2.2.1 + n + 1) (hn : S.2.2.2.2 = n) : q = E.2.2.1 + S.2.2.2.2 := by
  have hlast : (wld E S ++ [(q, ev)])[S.2.2.2.2]? = some (q, ev) := by
    rw [List.getElem?_append_right (by rw [wld_len]; exact Nat.le_refl _), wld_len, Nat.sub_self]
    rfl
  have h1 := (hP _ _ hlast).lt
  have h2 : E.2.2.1 ≤ q := hD.2 _ _ hlast
  dsimp only at h1
  rcases Nat.lt_or_ge q (E.2.2.1 + S.2.2.2.2) with g | g
  · exfalso
    have hk : q - E.2.2.1 < S.2.2.2.2 := by omega
    have hold : (wld E S ++ [(q, ev)])[q - E.2.2.1]? = some (E.2.2.1 + (q - E.2.2.1), el E S (idOf (q - E.2.2.1))) := by
      rw [List.getElem?_append_left (by rw [wld_len]; exact hk)]
      simp [wld, List.getElem?_map, List.getElem?_range hk]
    have := hD.1 _ _ _ _ hold hlast (by dsimp only; omega)
    omega
  · omega
theorem rep_push {S' : St} {H H1 : Heap} {j g : Nat} {q : Nat} {ev : va_E} (h1 : Rep E S H) (hi : idOf S.2.2.2.2 = (j, g)) (hc : S'.2.2.2.2 = S.2.2.2.2 + 1) (ht : ∀ t, S'.2.2.2.1 t ≤ 4000) (ht2 : S'.2.2.2.1 1000 = S.2.2.2.1 1000) (hs : ∀ a, 60 ≤ a → ∀ k, S'.1 a 0 k = S.1 a 0 k) (ho : ∀ k, k < S.2.2.2.2 → el E S' (idOf k) = el E S (idOf k)) (hev : el E S' (j, g) = ev)
    (hP : va_P E.1 vwCl (wld E S ++ [(q, ev)]) H1) (hq : q = E.2.2.1 + S.2.2.2.2) (hz : H1.size ≤ E.2.2.1 + S.2.2.2.2 + 1)
    (hn : ∀ a b k, S'.2.2.1 a b k = true → S.2.2.1 a b k = true ∧ ¬ (a = j ∧ b = g)) (hal : ∀ a b, 1 ≤ rfk a → aln S'.2.2.2.1 a b = aln S.2.2.2.1 a b) : Rep E S' H1 := by
  obtain ⟨r1, r2, r3, r4, r5, r6, r7⟩ := h1
  subst hq
  rw [← hev, wld_push hi hc ho] at hP
  have hlow := wld_low hP (by rw [hc]; omega)
  have hb : ∀ a b, a < 60 → lvP S' a b → ¬ (a = j ∧ b = g) → lvP S a b := fun a b ha z hne => by
    obtain ⟨z1, z2⟩ := z.in ha
    refine Or.inl ⟨ha, ?_, z2⟩
    rcases Nat.lt_or_ge (numP a b) S.2.2.2.2 with y | y
    · exact y
    · exfalso
      have : numP a b = S.2.2.2.2 := by omega
      rw [this, hi] at z2
      exact hne ⟨(congrArg Prod.fst z2).symm, (congrArg Prod.snd z2).symm⟩
  have hf : ∀ a b, lvP S a b → lvP S' a b := fun a b z => z.up (by rw [hc]; omega)
  refine ⟨by rw [hc] at hlow ⊢; omega, hP, fun a ha k => by rw [hs a ha k]; exact r3 a ha k, by rw [ht2]; exact r4, ht, fun a b k x1 x2 x3 x4 x5 x6 => ?_, fun a b k x1 x2 x3 x4 x5 => ?_⟩
  · obtain ⟨y1, y2⟩ := hn a b k x6
    exact hf _ _ (r6 a b k (hb _ _ x2 x1 y2) x2 x3 x4 x5 y1)
  · obtain ⟨y1, y2⟩ := hn a b k x5
    exact hf _ _ (r7 a b k (hb _ _ x2 x1 y2) x2 x3 (by rw [← hal a b x3]; exact x4) y1)
theorem lv_new {S' : St} {j g : Nat} (hi : idOf S.2.2.2.2 = (j, g)) (hc : S'.2.2.2.2 = S.2.2.2.2 + 1) : lvP S' j g := by
  have hn : numP j g = S.2.2.2.2 := by
    have := numId S.2.2.2.2
    rw [hi] at this
    exact this
  refine Or.inl ⟨?_, by rw [hn, hc]; omega, by rw [hn, hi]⟩
  have := idLt S.2.2.2.2
  rw [hi] at this
  exact this
/-- on, behind a new cell -/
theorem s_newed {S' : St} {r : List AV} {j g n : Nat} {q w : Nat} {ev : va_E} {H H1 : Heap} {locs : List Loc} {ls : Array Slot} (hfc : fc < 1000) (hi : idOf S.2.2.2.2 = (j, g)) (hc : S'.2.2.2.2 = S.2.2.2.2 + 1) (ht : ∀ t, S'.2.2.2.1 t ≤ 4000) (ht2 : S'.2.2.2.1 1000 = S.2.2.2.1 1000) (hs : ∀ a, 60 ≤ a → ∀ k, S'.1 a 0 k = S.1 a 0 k) (ho : ∀ k, k < S.2.2.2.2 → el E S' (idOf k) = el E S (idOf k)) (hev : el E S' (j, g) = ev)
    (hn : ∀ a b k, S'.2.2.1 a b k = true → S.2.2.1 a b k = true ∧ ¬ (a = j ∧ b = g)) (hal : ∀ a b, 1 ≤ rfk a → aln S'.2.2.2.1 a b = aln S.2.2.2.1 a b)
    (h1 : Rep E S H) (h2 : LokL E ls Y.2.2.2.1 L) (h3 : ∀ k v, nth L k = some (some v) → lvA S v) (h4 : ∀ v ∈ r, lvA S v) (h6 : n0 ≤ S.2.2.2.2) (h7 : fc + 1 ≤ Y.1.2.2.1) (h8 : fs + w ≤ Y.1.2.2.2.1) (h9 : fc < 1000 → E.2.2.1 + S.2.2.2.2 = s.heap.size + fc)
    (hP : va_P E.1 vwCl (wld E S ++ [(q, ev)]) H1) (hD : va_D (baseA E) (wld E S ++ [(q, ev)])) (hS : va_S (baseA E) s.heap H1 locs) (h : PS E Y n0 p l e R s m args below meth c Q n L (aR j g :: r) S' (fc + 1) (fs + w)) : W p l e R s m args below meth c H1 locs (fc + 1) (fs + w) Q (F0 m n ls (.ref q :: r.map (cv E))) := by
  have x1 := h9 hfc
  refine W_sized fun hz => ?_
  have hq := new_at (n := S.2.2.2.2) hP hD (by omega) rfl
  have hR := rep_push h1 hi hc ht ht2 hs ho hev hP hq (by omega) hn hal
  have hle : S.2.2.2.2 ≤ S'.2.2.2.2 := by rw [hc]; omega
  have hlv : lvP S' j g := lv_new hi hc
  have hnum : numP j g = S.2.2.2.2 := by
    have := numId S.2.2.2.2
    rw [hi] at this
    exact this
  have hj6 : j < 60 := by
    have := idLt S.2.2.2.2
    rw [hi] at this
    exact this
  have hav : Value.ref q = cv E (aR j g) := by simp [cv, adr, hj6, hnum, hq]
  rw [hav]
  exact h H1 locs ls hR h2 (fun i u hu => (h3 i u hu).up hle) (lv1 (v := aR j g) hlv (fun u hu => (h4 u hu).up hle)) hS (by rw [hc]; omega) h7 h8 (fun _ => by rw [hc]; omega)
theorem clkW {own idx ci : Nat} (h : clk own idx = some ci) : ∀ w ∈ cwords own idx ci, w ∈ ALLW := by
  unfold clk at h
  split at h
  · cases h
  · rename_i l hl
    exact ALLW_of (fun w hw => cW_ok w (allT_in (f := cwords) hl h hw))
/-- a changed cell is another one -/
theorem el_ne {S' : St} {j g : Nat} (hi : idOf S.2.2.2.2 = (j, g)) (h : ∀ q, q ≠ (j, g) → el E S' q = el E S q) : ∀ k, k < S.2.2.2.2 → el E S' (idOf k) = el E S (idOf k) := fun k hk => h _ (fun z => by
  have := idInj (z.trans hi.symm)
  omega)
theorem mk_iv {j g n a b z : Nat} (h : ¬ (a = j ∧ b = g)) : (mkC S j g n).1 a b z = S.1 a b z := by
  simp only [mkC, zr3]
  rw [if_neg h]
theorem mk_nn {j g n a b z : Nat} (h : (mkC S j g n).2.2.1 a b z = true) : S.2.2.1 a b z = true ∧ ¬ (a = j ∧ b = g) := by
  simp only [mkC, zr3] at h
  split at h
  · cases h
  · exact ⟨h, by assumption⟩
theorem mk_tl {j g n t : Nat} (h : j = 31 → t ≠ g) : (mkC S j g n).2.2.2.1 t = S.2.2.2.1 t := by
  simp only [mkC]
  split
  · simp only [upN]
    rw [if_neg (h (by assumption))]
  · rfl
theorem mk_al {j g n a b : Nat} (h : j = 31 → a = 31 → b ≠ g) (h2 : a ≠ 60 ∨ (j = 31 → g ≠ 1000)) : aln (mkC S j g n).2.2.2.1 a b = aln S.2.2.2.1 a b := by
  unfold aln
  split <;> first | rfl | (exact mk_tl (fun z => h z rfl)) | (exact mk_tl (fun z y => by rcases h2 with q | q; exact q rfl; exact q z y.symm))
theorem mk_el {j g n : Nat} {q : Nat × Nat} (h : q ≠ (j, g)) (h2 : q.1 ≠ 60) : el E (mkC S j g n) q = el E S q := by
  have hne : ¬ (q.1 = j ∧ q.2 = g) := fun z => h (Prod.ext z.1 z.2)
  have e1 : (mkC S j g n).1 q.1 q.2 = S.1 q.1 q.2 := funext fun z => mk_iv hne
  have e2 : ∀ z, (mkC S j g n).2.2.1 q.1 q.2 z = S.2.2.1 q.1 q.2 z := fun z => by
    simp only [mkC, zr3]
    rw [if_neg hne]
  have e3 : fvl E (mkC S j g n) q.1 q.2 = fvl E S q.1 q.2 := funext fun z => by
    unfold fvl
    split
    · rfl
    · rw [e2]
    · rw [e1]
  have e4 : aln (mkC S j g n).2.2.2.1 q.1 q.2 = aln S.2.2.2.1 q.1 q.2 := mk_al (fun a b z => hne ⟨b.trans a.symm, z⟩) (Or.inl h2)
  unfold el
  rw [e1, e3, e4]
  simp only [e2]
theorem def_fv {ci : Nat} {q : vw_C} (hq : nth vwCl ci = some q) {ty0 : Nat → FieldType} (h0 : nth ftT ci = some ty0) {j g : Nat} (hj : clsP j = ci) {S1 : St} (e1 : ∀ z, S1.1 j g z = 0) (e2 : ∀ z, S1.2.2.1 j g z = false) (e3 : ci = 6 → S1.2.1 = 0) (k : Nat) (hk : k < q.2.2) : defaultValue (ty0 k) = fvl E S1 j g k := by
  subst hj
  have ha : ∀ ci, ci < 7 → ∀ ty, nth ftT ci = some ty → ∀ k, k < nFl ci → defaultValue (ty k) = (match tcd (ty k) with
    | 1 => .long 0
    | 2 => .null
    | _ => .int 0) ∧ (tcd (ty k) = 1 → ci = 6) := by
    intro ci hci ty hty
    match ci, hty with
    | 0, hty => cases hty; decide +kernel
    | 1, hty => cases hty; decide +kernel
    | 2, hty => cases hty; decide +kernel
    | 3, hty => cases hty; decide +kernel
    | 4, hty => cases hty; decide +kernel
    | 5, hty => cases hty; decide +kernel
    | n + 6, hty => simp [ftT, nth] at hty
  obtain ⟨c1, c2, c3, c4, c5, c6, c7⟩ := clsF hq
  obtain ⟨b1, b2⟩ := ha (clsP j) c6 ty0 h0 k (by rw [← c7]; exact hk)
  rw [b1]
  have hf : fty (clsP j) k = tcd (ty0 k) := by simp [fty, h0]
  unfold fvl
  rw [hf]
  generalize tcd (ty0 k) = v at b2 ⊢
  rcases v with _ | _ | _ | v
  · show Value.int 0 = Value.int (S1.1 j g k)
    rw [e1]
  · show Value.long 0 = Value.long S1.2.1
    rw [e3 (b2 rfl)]
  · show Value.null = if S1.2.2.1 j g k = true then _ else _
    rw [e2]
    simp
  · show Value.int 0 = Value.int (S1.1 j g k)
    rw [e1]
theorem s_new (C : Ctx E X Y d p R s m args meth c) {ix ci j g : Nat} {q : vw_C} (hd : decode Y.2.2.1 pc = .ok (.new ix, 3)) (hci : clk Y.1.2.1 ix = some ci) (hq : nth vwCl ci = some q) (hfc : fc < 1000) (hi : idOf S.2.2.2.2 = (j, g)) (hj : clsP j = ci) (hg1 : fc + 1 ≤ Y.1.2.2.1) (hg2 : fs + q.2.2 ≤ Y.1.2.2.2.1) (h6' : ci = 6 → S.2.1 = 0)
    (h : PS E Y n0 p l e R s m args below meth c Q (pc + 3) L (aR j g :: st) (mkC S j g 0) (fc + 1) (fs + q.2.2)) : PS E Y n0 p l e R s m args below meth c Q pc L st S fc fs := by
  intro H locs ls h1 h2 h3 h4 h5 h6 h7 h8 h9
  obtain ⟨c1, c2, ⟨ty0, c0, c3⟩, c4, c5, c6, c7⟩ := clsF hq
  have hw := clkW hci
  have hw' : cwords Y.1.2.1 ix ci = [.classLink (own8 Y.1.2.1) ix q.1, .instantiable q.1 q.2.2, .initialized q.1] := by simp [cwords, hq]
  rw [hw'] at hw
  have hj31 : ¬ j = 31 := fun z => by subst z; rw [← hj] at c6; exact absurd c6 (by decide)
  have f1 : ∀ z, (mkC S j g 0).1 j g z = 0 := fun z => by simp [mkC, zr3]
  have f2 : ∀ z, (mkC S j g 0).2.2.1 j g z = false := fun z => by simp [mkC, zr3]
  have hdf := def_fv (E := E) hq c0 (g := g) hj f1 f2 h6'
  have hel : el E (mkC S j g 0) (j, g) = .inr (ci, (List.range q.2.2).map (fvl E (mkC S j g 0) j g)) := by
    rw [c7, ← hj]
    simp [el, show clsP j < 7 by rw [hj]; exact c6]
  refine va_new (D := E.1) (cl := vwCl) (tys := tysE E) (ws := wld E S) (A := baseA E) (H0 := H) (C := q.1) (T := q.2.1) (N := q.2.2) (ci := ci) (fs := (List.range q.2.2).map (fvl E (mkC S j g 0) j g)) C.1 C.2.1 C.2.2.2.2.1 c2 ty0 c3 C.2.2.2.1 (C.2.2.2.2.1 _ (hw _ (by simp))) (C.2.2.2.2.1 _ (hw _ (by simp))) (C.2.2.2.2.1 _ (hw _ (by simp))) C.2.2.2.2.2.2.1.1 h1.2.1 (wld_D E S) (va_Sn h5) (fun z hz => ?_) c1 (fun k hk => ?_) (Nat.le_trans hg1 C.2.2.2.2.2.2.2.2.2.1) (Nat.le_trans hg2 C.2.2.2.2.2.2.2.2.2.2.1) hd (fun z H1 hP hD hS => ?_)
  · have := h1.1
    show E.2.2.1 ≤ z
    omega
  · rw [hdf k hk]
    simp [vp_V, List.getD_eq_getElem?_getD, List.getElem?_map, List.getElem?_range hk]
  · exact s_newed hfc hi rfl (fun t => by rw [mk_tl (fun z => absurd z hj31)]; exact h1.2.2.2.2.1 t) (mk_tl (fun z => absurd z hj31)) (fun a ha k => mk_iv (fun z => by
        have := idLt S.2.2.2.2
        rw [hi] at this
        dsimp only at this
        omega)) (fun k hk => mk_el (fun z => by
        have := idInj (z.trans hi.symm)
        omega) (by have := idLt k; omega)) hel (fun a b k hk => mk_nn hk) (fun a b _ => mk_al (fun z => absurd z hj31) (Or.inr (fun z => absurd z hj31))) h1 h2 h3 h4 h6 hg1 hg2 h9 hP hD (va_Str h5 hS) h
/-- the class of an int row, of a boolean row, is one -/
theorem cls_one {tys : List (ClassId × FieldType)} {s : State} {cA cB : ClassId} {ty : FieldType} {k : Nat} (hK : va_K E.1 vwCl (tys ++ [(cA, ty)]) s) (hk : tys[k]? = some (cB, ty)) : cA = cB := by
  have hl : k < tys.length := (List.getElem?_eq_some_iff.mp hk).1
  have h1 := (hK.2 tys.length (cA, ty) (by simp)).2
  have h2 := (hK.2 k (cB, ty) (by rw [List.getElem?_append_left hl]; exact hk)).2
  dsimp only at h1 h2
  cases ty with
  | object C =>
    obtain ⟨_, _, -, -, -, a⟩ := h1
    obtain ⟨_, _, -, -, -, b⟩ := h2
    exact Option.some.inj (a.symm.trans b)
  | _ => exact Option.some.inj (h1.symm.trans h2)
theorem nI_nn {k : Nat} (h : k ≤ 4000) : ¬ nI k < 0 ∧ (nI k).toNatClampNeg = k := ⟨nI_pos (by omega), nI_clamp (by omega)⟩
theorem aW {w : Cond} (h : w ∈ ([.arrayClass .int] : List Cond)) : w ∈ ALLW := ALLW_of aW_ok w h
theorem mk_row {j g n : Nat} : (mkC S j g n).1 j g = fun _ => 0 := funext fun z => by simp [mkC, zr3]
theorem s_newI (C : Ctx E X Y d p R s m args meth c) {j g k : Nat} {r : List AV} (hd : decode Y.2.2.1 pc = .ok (.newarray .int, 2)) (hfc : fc < 1000) (hk : k ≤ 1000) (hi : idOf S.2.2.2.2 = (j, g)) (hg : g ≤ 100) (hj : iak j = 1) (hln : j = 31 ∨ aln S.2.2.2.1 j g = k) (hg1 : fc + 1 ≤ Y.1.2.2.1) (hg2 : fs + k ≤ Y.1.2.2.2.1)
    (h : PS E Y n0 p l e R s m args below meth c Q (pc + 2) L (aR j g :: r) (mkC S j g k) (fc + 1) (fs + k)) : PS E Y n0 p l e R s m args below meth c Q pc L (aI (nI k) :: r) S fc fs := by
  intro H locs ls h1 h2 h3 h4 h5 h6 h7 h8 h9
  obtain ⟨k1, k2⟩ := nI_nn (k := k) (by omega)
  have hal : aln (mkC S j g k).2.2.2.1 j g = k := by
    by_cases z : j = 31
    · subst z
      simp [aln, mkC, upN]
    · rw [mk_al (fun y => absurd y z) (Or.inr (fun y => absurd y z))]
      rcases hln with y | y
      · exact absurd y z
      · exact y
  have hel : el E (mkC S j g k) (j, g) = .inl (E.2.1 0, k, .inl (fun _ => 0)) := by rw [el_int hj, hal, mk_row]
  refine va_newa (D := E.1) (cl := vwCl) (tys := tysE E) (ws := wld E S) (A := baseA E) (H0 := H) (atype := .int) (ty := .int) C.1 C.2.1 (C.2.2.2.2.1 _ (aW (by simp [newarray.typeOf]))) rfl C.2.2.2.2.2.2.1.1 h1.2.1 (wld_D E S) (va_Sn h5) (fun z hz => ?_) (N' := k) (a0 := (k, .inl (fun _ => 0))) (fun cA => rfl) k1 k2 (Nat.le_trans (Nat.mul_le_mul_right _ hk) (by decide)) (Nat.le_trans hg1 C.2.2.2.2.2.2.2.2.2.1) (Nat.le_trans hg2 C.2.2.2.2.2.2.2.2.2.2.1) hd (fun z cA H1 hK hP hD hS => ?_)
  · have := h1.1
    show E.2.2.1 ≤ z
    omega
  · have hcA : cA = E.2.1 0 := cls_one (k := 0) hK rfl
    subst hcA
    exact s_newed hfc hi rfl (fun t => by
        by_cases z : j = 31 ∧ t = g
        · simp only [mkC, z.1, z.2, if_true, upN]
          omega
        · rw [mk_tl (fun a b => z ⟨a, b⟩)]; exact h1.2.2.2.2.1 t) (mk_tl (fun _ z => by omega)) (fun a ha k => mk_iv (fun z => by
        have := idLt S.2.2.2.2
        rw [hi] at this
        dsimp only at this
        omega)) (fun k hk => mk_el (fun z => by
        have := idInj (z.trans hi.symm)
        omega) (by have := idLt k; omega)) hel (fun a b k hk => mk_nn hk) (fun a b hr => mk_al (fun _ z => by subst z; exact absurd hr (by decide)) (Or.inr (fun _ => by omega))) h1 h2 h3 (lvt h4) h6 hg1 hg2 h9 hP hD (va_Str h5 hS) h
theorem s_newR (C : Ctx E X Y d p R s m args meth c) {ix ci j g k : Nat} {r : List AV} (hd : decode Y.2.2.1 pc = .ok (.anewarray ix, 3)) (hci : clk Y.1.2.1 ix = some ci) (hfc : fc < 1000) (hk : k ≤ 1000) (hi : idOf S.2.2.2.2 = (j, g)) (hj : (rfk j = 1 ∧ ci = 0) ∨ (rfk j = 2 ∧ ci = 3) ∨ (rfk j = 3 ∧ ci = 4)) (hln : aln S.2.2.2.1 j g = k) (hg1 : fc + 1 ≤ Y.1.2.2.1) (hg2 : fs + k ≤ Y.1.2.2.2.1)
    (h : PS E Y n0 p l e R s m args below meth c Q (pc + 3) L (aR j g :: r) (mkC S j g k) (fc + 1) (fs + k)) : PS E Y n0 p l e R s m args below meth c Q pc L (aI (nI k) :: r) S fc fs := by
  intro H locs ls h1 h2 h3 h4 h5 h6 h7 h8 h9
  obtain ⟨k1, k2⟩ := nI_nn (k := k) (by omega)
  have hr1 : 1 ≤ rfk j := by omega
  have hj31 : ¬ j = 31 := fun z => by subst z; exact absurd hr1 (by decide)
  have hal : aln (mkC S j g k).2.2.2.1 j g = k := by
    rw [mk_al (fun y => absurd y hj31) (Or.inr (fun y => absurd y hj31))]
    exact hln
  have hel : el E (mkC S j g k) (j, g) = .inl (E.2.1 (rfk j), k, .inr (.inr (.inr (.inr (fun _ => none))))) := by
    rw [el_ref hr1, hal]
    have : (fun z => if (mkC S j g k).2.2.1 j g z = true then some (adr E (erf j z).1 (erf j z).2) else none) = fun _ => none := funext fun z => by simp [mkC, zr3]
    rw [this]
  have hst := C.2.2.2.2.2.2.1
  obtain ⟨q, hq, hao, hty⟩ : ∃ q, nth vwCl ci = some q ∧ va_AO q.1 s ∧ (tysE E)[rfk j]? = some (E.2.1 (rfk j), .object q.1) := by
    rcases hj with ⟨a, rfl⟩ | ⟨a, rfl⟩ | ⟨a, rfl⟩
    · exact ⟨_, rfl, hst.2.2.2.2.2.2.2.2.2.2.1, by rw [a]; rfl⟩
    · exact ⟨_, rfl, hst.2.2.2.2.2.2.2.2.2.2.2.1, by rw [a]; rfl⟩
    · exact ⟨_, rfl, hst.2.2.2.2.2.2.2.2.2.2.2.2.1, by rw [a]; rfl⟩
  have hw := clkW hci
  have hw' : cwords Y.1.2.1 ix ci = [.classLink (own8 Y.1.2.1) ix q.1, .instantiable q.1 q.2.2, .initialized q.1] := by simp [cwords, hq]
  rw [hw'] at hw
  refine va_newq (D := E.1) (cl := vwCl) (tys := tysE E) (ws := wld E S) (A := baseA E) (H0 := H) C.1 C.2.1 C.2.2.2.1 (C.2.2.2.2.1 _ (hw _ (by simp))) hao C.2.2.2.2.2.2.1.1 h1.2.1 (wld_D E S) (va_Sn h5) (fun z hz => ?_) k1 k2 (by omega) (Nat.le_trans hg1 C.2.2.2.2.2.2.2.2.2.1) (Nat.le_trans hg2 C.2.2.2.2.2.2.2.2.2.2.1) hd (fun z cA H1 hK hP hD hS => ?_)
  · have := h1.1
    show E.2.2.1 ≤ z
    omega
  · have hcA : cA = E.2.1 (rfk j) := cls_one (k := rfk j) hK hty
    subst hcA
    exact s_newed hfc hi rfl (fun t => by rw [mk_tl (fun z => absurd z hj31)]; exact h1.2.2.2.2.1 t) (mk_tl (fun z => absurd z hj31)) (fun a ha k => mk_iv (fun z => by
        have := idLt S.2.2.2.2
        rw [hi] at this
        dsimp only at this
        omega)) (fun k hk => mk_el (fun z => by
        have := idInj (z.trans hi.symm)
        omega) (by have := idLt k; omega)) hel (fun a b k hk => mk_nn hk) (fun a b _ => mk_al (fun z => absurd z hj31) (Or.inr (fun z => absurd z hj31))) h1 h2 h3 (lvt h4) h6 hg1 hg2 h9 hP hD (va_Str h5 hS) h
end SNH
end
section
/-! SOUNDNESS, on: calls -/
/-- what a method leaves -/
def QcT (E : Env0) (S : St) (K : KT) : State → Outcome → State → Prop := fun st o t =>
  (∃ (v : Option AV) (S' : St), K v S' ∧ o = .returned (v.map (cv E)) ∧ Rep E S' t.heap ∧ (∀ u, v = some u → lvA S' u) ∧ S.2.2.2.2 ≤ S'.2.2.2.2) ∧ va_F (baseA E) st t
def rmOf (d : Nat) (Z : MT) : Room := { frames := d + 8, cells := Z.1.2.2.1, slots := Z.1.2.2.2.1, locals := 64 * d + 600 }
def wsM (Z : MT) : List Cond := wC Z :: ALLW
def PcT (E : Env0) (X : State → Prop) (as : List AV) (S : St) : Array Value → State → Prop := va_Pc (as.map (cv E)) (fun U => Rep E S U.heap ∧ Stt E X U ∧ ∀ v ∈ as, lvA S v)
def MetC (E : Env0) (X : State → Prop) (l : Launch) (d : Nat) (Z : MT) (as : List AV) (S : St) (K : KT) : Prop :=
  Met l Z.2.1 (wsM Z) (rmOf d Z) (PcT E X as S) (fun _ st o t => QcT E S K st o t) Z.1.2.2.1 Z.1.2.2.2.1 (baseA E)
/-- what the extra word must bear -/
def Xok (E : Env0) (X : State → Prop) : Prop := ∀ s U : State, s.WarmedH U.vm → s.heap.size ≤ U.heap.size → (∀ q : Nat, q < s.heap.size → ¬ baseA E q → U.heap[q]? = s.heap[q]?) → X s → X U
theorem Stt.moved {E : Env0} {X : State → Prop} (hX : Xok E X) {s U : State} (hW : s.WarmedH U.vm) (hz : s.heap.size ≤ U.heap.size) (hq : ∀ q : Nat, q < s.heap.size → ¬ baseA E q → U.heap[q]? = s.heap[q]?) (h : Stt E X s) : Stt E X U := by
  obtain ⟨h1, h2, h3, h4, h5, h6, h7, h8, h9, h10, h11, h12, h13, h14, h15, h16⟩ := h
  exact ⟨h1.moved hW.alike, fun j a b => ((h2 j a b).kept hq).moved hW.alike, fun j a b => ((h3 j a b).kept hq).moved hW.alike, h4.warmF hW, h5.warmF hW, h6.warmF hW, h7.warmM hW, h8.warmM hW, h9.warmM hW, trivial, h11.moved hW.alike, h12.moved hW.alike, h13.moved hW.alike, trivial, h15, hX s U hW hz hq h16⟩
theorem PcT.blind {E : Env0} {X : State → Prop} (hX : Xok E X) {as : List AV} {S : St} : FrameBlind (PcT E X as S) := by
  intro a U g mk h
  obtain ⟨h1, h2, h3, h4⟩ := h
  exact ⟨h1, h2, Stt.moved hX (U := U.calling g mk a) (State.WarmedH.refl U) (Nat.le_refl _) (fun _ _ _ => rfl) h3, h4⟩
section SNI
variable {E : Env0} {X : State → Prop} {Y : MT} {d n0 : Nat} {p : Program} {l : Launch} {e : Env} {R : Room} {s : State} {m : MethodId} {args : Array Value} {below : List Frame} {meth : Method} {c : Code} {Q : State → Prop}
variable {pc t fc fs : Nat} {L : List (Option AV)} {st : List AV} {S : St}
theorem W_run {mc ms : Nat} {H : Heap} {locs : List Loc} {ls : Array Slot} {st0 rest : List Value} {K : KT} (hr : va_Run p l e R s m args below meth c H locs fc fs mc ms (F0 m pc ls st0) rest (QcT E S K) (baseA E)) (hS : va_S (baseA E) s.heap H locs)
    (kk : ∀ (v : Option AV) (S' : St) (H1 : Heap) (locs1 : List Loc), K v S' → Rep E S' H1 → (∀ u, v = some u → lvA S' u) → S.2.2.2.2 ≤ S'.2.2.2.2 → va_S (baseA E) s.heap H1 locs1 → W p l e R s m args below meth c H1 locs1 (fc + mc) (fs + ms) Q (F0 m (pc + 3) ls ((v.map (cv E)).toList ++ rest))) : W p l e R s m args below meth c H locs fc fs Q (F0 m pc ls st0) := by
  intro T hT Z
  obtain ⟨v, st₀, t, T', L, h0, X', hL, e1, e2, ⟨⟨v', S', hK, hv, hR, hlv, hle⟩, hz, hk⟩, stp⟩ := hr T hT Z
  rw [h0] at hz hk
  cases hv
  have hS1 : va_S (baseA E) s.heap T'.heap (locs ++ L) := ⟨Nat.le_trans hS.1 (by rw [e1]; exact hz), fun q h1 h2 => by rw [e1, hk q (Nat.lt_of_lt_of_le h1 hS.1) h2]; exact hS.2.1 q h1 h2, fun q hq => by
      rcases List.mem_append.mp hq with h | h
      · exact hS.2.2 q h
      · exact hL q h⟩
  obtain ⟨t2, a1, b1⟩ := kk v' S' T'.heap (locs ++ L) hK (by rw [e1]; exact hR) hlv hle hS1 T' rfl X'
  exact ⟨t2, stp t2 a1, b1⟩
theorem popN_of : ∀ (n : Nat) (st acc as rest : List AV), popN n st acc = some (as, rest) → ∃ tk, st = tk ++ rest ∧ as = tk.reverse ++ acc ∧ tk.length = n
  | 0, st, acc, as, rest, h => by
    simp only [popN, Option.some.injEq, Prod.mk.injEq] at h
    obtain ⟨rfl, rfl⟩ := h
    exact ⟨[], rfl, rfl, rfl⟩
  | n + 1, [], acc, as, rest, h => by simp [popN] at h
  | n + 1, v :: st, acc, as, rest, h => by
    obtain ⟨tk, h1, h2, h3⟩ := popN_of n st (v :: acc) as rest h
    exact ⟨v :: tk, by rw [h1]; rfl, by rw [h2]; simp, by simp [h3]⟩
theorem catS_sum (r : List AV) : ((r.map (cv E)).map fun v => v.category).sum = catS r := by
  induction r with
  | nil => rfl
  | cons v r ih =>
    simp only [List.map_cons, List.sum_cons, ih, catS]
    rcases v with x | x | x | x <;> rfl
/-- what a link of a method gives -/
theorem lnkC {own idx : Nat} {f : LK} (h : lnk own idx = some f) : ckL own f = true ∧ ∀ w ∈ lwords own idx f, w ∈ ALLW := by
  refine ⟨?_, ALLW_of (lwW h)⟩
  unfold lnk at h
  split at h
  · cases h
  · rename_i l hl
    have a := enum_nth lnkT 0 own l hl
    have b := List.all_eq_true.mp ckL_ok _ a
    have c := List.all_eq_true.mp b (idx, f) (lkp_mem l idx f h)
    simpa using c
theorem wsM_good {Z : MT} {big : List Cond} (h1 : wC Z ∈ big) (h2 : ∀ w ∈ ALLW, w ∈ big) : GoodIn big (wsM Z) := by
  intro w hw
  rcases List.mem_cons.mp hw with rfl | hw
  · exact ⟨h1, Or.inl rfl⟩
  · exact ⟨h2 w hw, good_of_word (List.mem_filter.mp hw).2⟩
/-- on, behind a call -/
theorem s_goX {mc ms : Nat} {rest : List AV} {K' : KT} (hrun : ∀ (H : Heap) (locs : List Loc) (ls : Array Slot), Rep E S H → LokL E ls Y.2.2.2.1 L → (∀ v ∈ st, lvA S v) → va_S (baseA E) s.heap H locs → fc + mc ≤ Y.1.2.2.1 → fs + ms ≤ Y.1.2.2.2.1 → va_Run p l e R s m args below meth c H locs fc fs mc ms (F0 m pc ls (st.map (cv E))) (rest.map (cv E)) (QcT E S K') (baseA E)) (hsub : ∀ v ∈ rest, v ∈ st) (hf : fc ≤ Y.1.2.2.1 → fc + mc ≤ Y.1.2.2.1) (hs : fs ≤ Y.1.2.2.2.1 → fs + ms ≤ Y.1.2.2.2.1)
    (h : ∀ v S', K' v S' → (mc ≠ 0 → fc + mc < 1000 → S'.2.2.2.2 = S.2.2.2.2 + mc) ∧ PS E Y n0 p l e R s m args below meth c Q (pc + 3) L (v.toList ++ rest) S' (fc + mc) (fs + ms)) : PS E Y n0 p l e R s m args below meth c Q pc L st S fc fs := by
  intro H locs ls h1 h2 h3 h4 h5 h6 h7 h8 h9
  refine W_run (hrun H locs ls h1 h2 h4 h5 (hf h7) (hs h8)) h5 (fun v S' H1 locs1 hK hR hv hle hS => ?_)
  obtain ⟨g1, g2⟩ := h v S' hK
  refine W_sized fun hz => ?_
  have hst : (v.map (cv E)).toList ++ rest.map (cv E) = (v.toList ++ rest).map (cv E) := by cases v <;> rfl
  rw [hst]
  refine g2 H1 locs1 ls hR h2 (fun i u hu => (h3 i u hu).up hle) (fun u hu => ?_) hS (Nat.le_trans h6 hle) (hf h7) (hs h8) (fun hlt => ?_)
  · rcases List.mem_append.mp hu with z | z
    · exact hv u (by cases v <;> simp_all)
    · exact (h4 u (hsub u z)).up hle
  · have x1 := h9 (by omega)
    by_cases hm : mc = 0
    · subst hm
      have := hR.1
      omega
    · rw [g1 hm hlt]
      omega
theorem fixC (C : Ctx E X Y d p R s m args meth c) : CallFix p m c Y.2.2.1 Y.2.2.2.1 s args ALLW (own8 Y.1.2.1) := ⟨C.1, C.2.1, C.2.2.1, C.2.2.2.1, C.2.2.2.2.1⟩
theorem preC (hX : Xok E X) (C : Ctx E X Y d p R s m args meth c) {H : Heap} {as : List AV} {locs : List Loc} (hR : Rep E S H) (hS : va_S (baseA E) s.heap H locs) (hlv : ∀ v ∈ as, lvA S v) : ∀ U : State, U.heap = H → s.WarmedH U.vm → PcT E X as S (as.map (cv E)).toArray U := fun U hU hW =>
  ⟨rfl, by rw [hU]; exact hR, Stt.moved hX hW (by rw [hU]; exact hS.1) (fun q h1 h2 => by rw [hU]; exact hS.2.1 q h1 h2) C.2.2.2.2.2.2.1, hlv⟩
set_option maxRecDepth 100000 in
theorem roomC (C : Ctx E X Y d p R s m args meth c) {Z : MT} (h : ckN Z = true) : (rmOf d Z).frames + 1 ≤ R.frames ∧ 8 + (Z.2.2.2.1 + 11) + (rmOf d Z).locals ≤ R.locals := by
  simp only [ckN, Bool.and_eq_true] at h
  have h40 := Nat.le_of_ble_eq_true h.2
  have f1 := C.2.2.2.2.2.2.2.1
  have f2 := C.2.2.2.2.2.2.2.2.1
  refine ⟨?_, ?_⟩
  · simp only [rmOf]
    omega
  · simp only [rmOf]
    omega
theorem ckN_of {Z : MT} (h : ckN Z = true) : Z.2.1.cls = own8 Z.1.2.1 ∧ plainName Z.2.1.cls = true ∧ Z.2.1.cls ≠ "java/lang/invoke/MethodHandle" ∧ Z.2.1.cls ≠ "java/lang/invoke/VarHandle" ∧ rkOf Z.2.2.2.2 = Z.1.2.2.2.2 ∧ Z.2.2.2.1 ≤ 40 := by
  simp only [ckN, Bool.and_eq_true, decide_eq_true_eq] at h
  exact ⟨h.1.1.1.1.1, h.1.1.1.1.2, h.1.1.1.2, h.1.1.2, h.1.2, Nat.le_of_ble_eq_true h.2⟩
theorem rcv_of {Z : MT} {as rest : List AV} (h : rcv Z (some (as, rest)) = true) : ∃ (j g : Nat) (As : List AV), as = aR j g :: As ∧ clsP j = Z.1.2.1 ∧ clsP j < 7 := by
  unfold rcv at h
  split at h
  · rename_i r q rst heq
    simp only [Option.some.injEq, Prod.mk.injEq] at heq
    simp only [Bool.and_eq_true] at h
    exact ⟨r.1, r.2, q, heq.1, Nat.eq_of_beq_eq_true h.2, Nat.lt_succ_of_le (Nat.le_of_ble_eq_true h.1)⟩
  · cases h
theorem cls6 {j : Nat} (h : clsP j < 7) : clsP j < 6 := by
  have key : clsP j < 6 ∨ clsP j = 9 := by
    unfold clsP
    split <;> first | (left; decide) | (right; rfl)
  omega
/-- the receiver is an object of the class -/
theorem rcvr_of (C : Ctx E X Y d p R s m args meth c) {H : Heap} (hR : Rep E S H) {j g : Nat} (hl : lvP S j g) (hc : clsP j < 7) : cv E (aR j g) = .ref (E.2.2.1 + numP j g) ∧ ∃ cellB : Cell, H[E.2.2.1 + numP j g]? = some cellB ∧ cellB.vm.isStatics = false ∧ s.vm.findClass (own8 (clsP j)) = some cellB.cls := by
  have hj := cls_lt hc
  obtain ⟨a1, a2⟩ := hl.in hj
  have hg := wld_get (E := E) a1 a2
  rw [el_obj hc] at hg
  obtain ⟨q, hq⟩ := nth_some vwCl (clsP j) (cls6 hc)
  obtain ⟨c1, -, -, -, c5, -⟩ := clsF hq
  have := va_recv (D := E.1) (cl := vwCl) (tys := tysE E) C.2.2.2.2.2.2.1.1 hR.2.1 c1 hg
  rw [c5] at this
  exact ⟨by simp [cv, adr, hj], this⟩
theorem lv_as {S : St} {st tk rest as : List AV} (e1 : st = tk ++ rest) (e2 : as = tk.reverse ++ []) (h4 : ∀ v ∈ st, lvA S v) : ∀ v ∈ as, lvA S v := fun v hv => h4 v (by
  rw [e1]
  rw [e2] at hv
  exact List.mem_append_left _ (by simpa using hv))
theorem in_sub {st tk rest : List AV} (h : st = tk ++ rest) : ∀ v ∈ rest, v ∈ st := fun v hv => by rw [h]; exact List.mem_append_right _ hv
theorem s_goV (C : Ctx E X Y d p R s m args meth c) (hX : Xok E X) {ix na : Nat} {Z : MT} {as rest : List AV} (hd : decode Y.2.2.1 pc = .ok (.invokevirtual ix, 3)) (hl : lnk Y.1.2.1 ix = some (0, Z, na)) (hp : popN (na + 1) st [] = some (as, rest)) (hrc : rcv Z (some (as, rest)) = true) (hcat : catS rest ≤ 8) (hf : fc ≤ Y.1.2.2.1 → fc + Z.1.2.2.1 ≤ Y.1.2.2.1) (hs : fs ≤ Y.1.2.2.2.1 → fs + Z.1.2.2.2.1 ≤ Y.1.2.2.2.1) {K' : KT} (hM : MetC E X l d Z as S K')
    (h : ∀ v S', K' v S' → (Z.1.2.2.1 ≠ 0 → fc + Z.1.2.2.1 < 1000 → S'.2.2.2.2 = S.2.2.2.2 + Z.1.2.2.1) ∧ PS E Y n0 p l e R s m args below meth c Q (pc + 3) L (v.toList ++ rest) S' (fc + Z.1.2.2.1) (fs + Z.1.2.2.2.1)) : PS E Y n0 p l e R s m args below meth c Q pc L st S fc fs := by
  obtain ⟨tk, e1, e2, e3⟩ := popN_of _ _ _ _ _ hp
  obtain ⟨j, g, As, e4, e5, e6⟩ := rcv_of hrc
  obtain ⟨k1, k2⟩ := lnkC hl
  simp only [ckL, Bool.and_eq_true, decide_eq_true_eq] at k1
  obtain ⟨n1, n2, n3, n4, n5, n6⟩ := ckN_of k1.1
  refine s_goX (fun H locs ls h1 h2 h4 hS hf hs => ?_) (in_sub e1) hf hs h
  have hlv : lvP S j g := h4 (aR j g) (by
    rw [e1]
    refine List.mem_append_left _ ?_
    have : aR j g ∈ tk.reverse ++ [] := by rw [← e2, e4]; exact List.mem_cons_self
    simpa using this)
  obtain ⟨r1, r2⟩ := rcvr_of C h1 hlv e6
  have hst : st.map (cv E) = (As.map (cv E)).reverse ++ Value.ref (E.2.2.1 + numP j g) :: rest.map (cv E) := by
    have htk : tk = (aR j g :: As).reverse := by rw [← e4, e2]; simp
    rw [e1, htk, ← r1]
    simp
  have hw := k2
  simp only [lwords] at hw
  have hG : GoodIn ALLW (wsV (own8 Y.1.2.1) ix Z.2.1.cls Z.2.1 (wsM Z)) := by
    intro w hw'
    rcases List.mem_append.mp hw' with z | z
    · simp only [List.mem_cons, List.not_mem_nil, or_false] at z
      rcases z with rfl | rfl | rfl | rfl
      · exact ⟨hw _ (by simp), Or.inl rfl⟩
      · exact ⟨hw _ (by simp), Or.inl rfl⟩
      · exact ⟨hw _ (by simp), Or.inl rfl⟩
      · exact ⟨hw _ (by simp), Or.inl rfl⟩
    · exact wsM_good (hw _ (by simp)) (fun _ z => z) w z
  have hn : As.length = na := by
    have : as.length = na + 1 := by rw [e2]; simp [e3]
    rw [e4] at this
    simpa using this
  have hrun := va_runV (H := H) (locs := locs) (cells := fc) (slots := fs) (below := below) (meth := meth) (p := p) (l := l) (e := e) (R := R) (b := E.2.2.1 + numP j g) (As := As.map (cv E)) (rest := rest.map (cv E)) (g := F0 m pc ls (st.map (cv E))) (fixC C) hM
    (cwV (C := Z.2.1.cls) na C.2.2.2.2.1 hG rfl rfl rfl ⟨rfl, n3, n4, k1.2⟩ (roomC C k1.1))
    ⟨PcT.blind hX, by rw [n1, ← e5]; exact r2, fun U hU hW => by
      have := preC hX C (as := as) h1 hS (lv_as e1 e2 h4) U hU hW
      rw [e4, List.map_cons, r1] at this
      rw [e4]
      exact this⟩
    rfl (by simp [hn]) h2.1.1 hst (by
      have := catS_sum (E := E) rest
      show 2 * 0 + _ ≤ 8
      omega) hd ⟨Nat.le_trans hf C.2.2.2.2.2.2.2.2.2.1, Nat.le_trans hs C.2.2.2.2.2.2.2.2.2.2.1⟩
  exact hrun
end SNI
end
section
/-! SOUNDNESS, on: static calls, constructors, the library's own -/
section SNJ
variable {E : Env0} {X : State → Prop} {Y : MT} {d n0 : Nat} {p : Program} {l : Launch} {e : Env} {R : Room} {s : State} {m : MethodId} {args : Array Value} {below : List Frame} {meth : Method} {c : Code} {Q : State → Prop}
variable {pc t fc fs : Nat} {L : List (Option AV)} {st : List AV} {S : St}
theorem catW {pc : Nat} {ls : Array Slot} {rest : List AV} {st0 : List Value} (hcat : catS rest ≤ 8) : 2 * (F0 m pc ls st0).monitorRoom + ((rest.map (cv E)).map fun v => v.category).sum ≤ 8 := by
  have := catS_sum (E := E) rest
  show 2 * 0 + _ ≤ 8
  omega
theorem s_goS (C : Ctx E X Y d p R s m args meth c) (hX : Xok E X) {ix na : Nat} {Z : MT} {as rest : List AV} (hd : decode Y.2.2.1 pc = .ok (.invokestatic ix, 3)) (hl : lnk Y.1.2.1 ix = some (1, Z, na)) (hp : popN na st [] = some (as, rest)) (hcat : catS rest ≤ 8) (hf : fc ≤ Y.1.2.2.1 → fc + Z.1.2.2.1 ≤ Y.1.2.2.1) (hs : fs ≤ Y.1.2.2.2.1 → fs + Z.1.2.2.2.1 ≤ Y.1.2.2.2.1) {K' : KT} (hM : MetC E X l d Z as S K')
    (h : ∀ v S', K' v S' → (Z.1.2.2.1 ≠ 0 → fc + Z.1.2.2.1 < 1000 → S'.2.2.2.2 = S.2.2.2.2 + Z.1.2.2.1) ∧ PS E Y n0 p l e R s m args below meth c Q (pc + 3) L (v.toList ++ rest) S' (fc + Z.1.2.2.1) (fs + Z.1.2.2.2.1)) : PS E Y n0 p l e R s m args below meth c Q pc L st S fc fs := by
  obtain ⟨tk, e1, e2, e3⟩ := popN_of _ _ _ _ _ hp
  obtain ⟨k1, k2⟩ := lnkC hl
  simp only [ckL, Bool.and_eq_true, decide_eq_true_eq] at k1
  obtain ⟨n1, n2, n3, n4, n5, n6⟩ := ckN_of k1.1
  refine s_goX (fun H locs ls h1 h2 h4 hS hf hs => ?_) (in_sub e1) hf hs h
  have hst : st.map (cv E) = (as.map (cv E)).reverse ++ rest.map (cv E) := by
    rw [e1, e2]
    simp
  have hw := k2
  simp only [lwords] at hw
  have hG : GoodIn ALLW (va_wsS (own8 Y.1.2.1) ix Z.2.1 (wsM Z)) := by
    intro w hw'
    rcases List.mem_append.mp hw' with z | z
    · simp only [List.mem_cons, List.not_mem_nil, or_false] at z
      rcases z with rfl | rfl | rfl
      · exact ⟨hw _ (by simp), Or.inl rfl⟩
      · exact ⟨hw _ (by simp), Or.inl rfl⟩
      · exact ⟨hw _ (by simp), Or.inl rfl⟩
    · exact wsM_good (hw _ (by simp)) (fun _ z => z) w z
  exact va_runS (H := H) (locs := locs) (cells := fc) (slots := fs) (below := below) (meth := meth) (p := p) (l := l) (e := e) (R := R) (As := as.map (cv E)) (rest := rest.map (cv E)) (g := F0 m pc ls (st.map (cv E))) (fixC C) hM
    (va_cwS na C.2.2.2.2.1 hG rfl rfl rfl ⟨n3, n4, k1.2⟩ (roomC C k1.1))
    ⟨PcT.blind hX, preC hX C h1 hS (lv_as e1 e2 h4)⟩
    rfl (by rw [e2]; simp [e3]) h2.1.1 hst (catW hcat) hd ⟨Nat.le_trans hf C.2.2.2.2.2.2.2.2.2.1, Nat.le_trans hs C.2.2.2.2.2.2.2.2.2.2.1⟩
theorem lnk11 {own ix na : Nat} {Z : MT} (hl : lnk own ix = some (11, Z, na)) : own = 0 ∧ ix = 72 ∧ Z.2.1 = yX5_within := by
  obtain ⟨k1, -⟩ := lnkC hl
  simp only [ckL, Bool.and_eq_true, decide_eq_true_eq] at k1
  have ho := Nat.eq_of_beq_eq_true k1.2
  subst ho
  refine ⟨rfl, ?_, k1.1.2⟩
  have hm := lkp_mem lnk_0 ix (11, Z, na) hl
  have := List.all_eq_true.mp ckNest.1 _ hm
  exact Nat.eq_of_beq_eq_true (by simpa using this)
theorem lnk12 {own ix na : Nat} {Z : MT} (hl : lnk own ix = some (12, Z, na)) : own = 5 ∧ ((ix = 34 ∧ Z.2.1 = yX1_init) ∨ (ix = 41 ∧ Z.2.1 = yX3_init)) := by
  obtain ⟨k1, -⟩ := lnkC hl
  simp only [ckL, Bool.and_eq_true, decide_eq_true_eq] at k1
  have ho := Nat.eq_of_beq_eq_true k1.2
  subst ho
  refine ⟨rfl, ?_⟩
  have hm := lkp_mem lnk_5 ix (12, Z, na) hl
  have := List.all_eq_true.mp ckNest.2 _ hm
  have h2 : (Nat.beq ix 34 && decide (Z.2.1 = yX1_init) || Nat.beq ix 41 && decide (Z.2.1 = yX3_init)) = true := this
  simp only [Bool.or_eq_true, Bool.and_eq_true, decide_eq_true_eq] at h2
  rcases h2 with ⟨a, b⟩ | ⟨a, b⟩
  · exact Or.inl ⟨Nat.eq_of_beq_eq_true a, b⟩
  · exact Or.inr ⟨Nat.eq_of_beq_eq_true a, b⟩
theorem s_goN (C : Ctx E X Y d p R s m args meth c) (hX : Xok E X) {ix na : Nat} {Z : MT} {as rest : List AV} (hd : decode Y.2.2.1 pc = .ok (.invokestatic ix, 3)) (hl : lnk Y.1.2.1 ix = some (11, Z, na)) (hp : popN na st [] = some (as, rest)) (hcat : catS rest ≤ 8) (hf : fc ≤ Y.1.2.2.1 → fc + Z.1.2.2.1 ≤ Y.1.2.2.1) (hs : fs ≤ Y.1.2.2.2.1 → fs + Z.1.2.2.2.1 ≤ Y.1.2.2.2.1) {K' : KT} (hM : MetC E X l d Z as S K')
    (h : ∀ v S', K' v S' → (Z.1.2.2.1 ≠ 0 → fc + Z.1.2.2.1 < 1000 → S'.2.2.2.2 = S.2.2.2.2 + Z.1.2.2.1) ∧ PS E Y n0 p l e R s m args below meth c Q (pc + 3) L (v.toList ++ rest) S' (fc + Z.1.2.2.1) (fs + Z.1.2.2.2.1)) : PS E Y n0 p l e R s m args below meth c Q pc L st S fc fs := by
  obtain ⟨tk, e1, e2, e3⟩ := popN_of _ _ _ _ _ hp
  obtain ⟨k1, k2⟩ := lnkC hl
  obtain ⟨o1, o2, o3⟩ := lnk11 hl
  simp only [ckL, Bool.and_eq_true, decide_eq_true_eq] at k1
  obtain ⟨n1, n2, n3, n4, n5, n6⟩ := ckN_of k1.1.1.1
  refine s_goX (fun H locs ls h1 h2 h4 hS hf hs => ?_) (in_sub e1) hf hs h
  have hst : st.map (cv E) = (as.map (cv E)).reverse ++ rest.map (cv E) := by
    rw [e1, e2]
    simp
  have hw := k2
  simp only [lwords] at hw
  have hown : own8 Y.1.2.1 = RX0 := by rw [o1]; rfl
  have hNw : va_Nw (.methodLinkNest (own8 Y.1.2.1) ix Z.2.1 RX5) s := by
    rw [hown, o2, o3]
    exact C.2.2.2.2.2.2.1.2.2.2.2.2.2.2.2.1
  exact va_runSN (H := H) (locs := locs) (cells := fc) (slots := fs) (below := below) (meth := meth) (p := p) (l := l) (e := e) (R := R) (As := as.map (cv E)) (rest := rest.map (cv E)) (g := F0 m pc ls (st.map (cv E))) (fixC C) hM
    ⟨va_cnB na C.2.2.2.2.1 (wsM_good (hw _ (by simp)) (fun _ z => z)) rfl rfl rfl hNw (C.2.2.2.2.1 _ (hw _ (by simp))) ⟨n3, n4, k1.1.1.2⟩ (roomC C k1.1.1.1), C.2.2.2.2.1 _ (hw _ (by simp)), trivial⟩
    ⟨PcT.blind hX, preC hX C h1 hS (lv_as e1 e2 h4)⟩
    rfl (by rw [e2]; simp [e3]) h2.1.1 hst (catW hcat) hd ⟨Nat.le_trans hf C.2.2.2.2.2.2.2.2.2.1, Nat.le_trans hs C.2.2.2.2.2.2.2.2.2.2.1⟩
theorem s_goI (C : Ctx E X Y d p R s m args meth c) (hX : Xok E X) {ix na kd : Nat} {Z : MT} {as rest : List AV} (hkd : kd = 2 ∨ kd = 12) (hd : decode Y.2.2.1 pc = .ok (.invokespecial ix, 3)) (hl : lnk Y.1.2.1 ix = some (kd, Z, na)) (hp : popN (na + 1) st [] = some (as, rest)) (hrc : rcv Z (some (as, rest)) = true) (hcat : catS rest ≤ 8) (hf : fc ≤ Y.1.2.2.1 → fc + Z.1.2.2.1 ≤ Y.1.2.2.1) (hs : fs ≤ Y.1.2.2.2.1 → fs + Z.1.2.2.2.1 ≤ Y.1.2.2.2.1) {K' : KT} (hM : MetC E X l d Z as S K')
    (h : ∀ v S', K' v S' → (Z.1.2.2.1 ≠ 0 → fc + Z.1.2.2.1 < 1000 → S'.2.2.2.2 = S.2.2.2.2 + Z.1.2.2.1) ∧ PS E Y n0 p l e R s m args below meth c Q (pc + 3) L (v.toList ++ rest) S' (fc + Z.1.2.2.1) (fs + Z.1.2.2.2.1)) : PS E Y n0 p l e R s m args below meth c Q pc L st S fc fs := by
  obtain ⟨tk, e1, e2, e3⟩ := popN_of _ _ _ _ _ hp
  obtain ⟨j, g, As, e4, e5, e6⟩ := rcv_of hrc
  obtain ⟨k1, k2⟩ := lnkC hl
  have k1' : ckN Z = true ∧ (parseMethodDescriptor Z.2.1.desc).map (fun d => d.parameters.length) = some na ∧ Z.2.1.name = "<init>" ∧ Z.2.2.2.2 = none ∧ Jvm.Cond.instanceMethod Z.2.1 ∈ ALLW ∧ Jvm.Cond.initialized Z.2.1.cls ∈ ALLW ∧ wC Z ∈ ALLW := by
    rcases hkd with rfl | rfl
    · simp only [ckL, Bool.and_eq_true, decide_eq_true_eq] at k1
      simp only [lwords] at k2
      exact ⟨k1.1.1.1, k1.1.1.2, k1.1.2, k1.2, k2 _ (by simp), k2 _ (by simp), k2 _ (by simp)⟩
    · simp only [ckL, Bool.and_eq_true, decide_eq_true_eq] at k1
      simp only [lwords] at k2
      exact ⟨k1.1.1.1.1, k1.1.1.1.2, k1.1.1.2, k1.1.2, k2 _ (by simp), k2 _ (by simp), k2 _ (by simp)⟩
  obtain ⟨q1, q2, q3, q4, q5, q6, q7⟩ := k1'
  obtain ⟨n1, n2, n3, n4, n5, n6⟩ := ckN_of q1
  refine s_goX (fun H locs ls h1 h2 h4 hS hf hs => ?_) (in_sub e1) hf hs h
  have hlv : lvP S j g := h4 (aR j g) (by
    rw [e1]
    refine List.mem_append_left _ ?_
    have : aR j g ∈ tk.reverse ++ [] := by rw [← e2, e4]; exact List.mem_cons_self
    simpa using this)
  obtain ⟨r1, r2⟩ := rcvr_of C h1 hlv e6
  have hst : st.map (cv E) = (As.map (cv E)).reverse ++ Value.ref (E.2.2.1 + numP j g) :: rest.map (cv E) := by
    have htk : tk = (aR j g :: As).reverse := by rw [← e4, e2]; simp
    rw [e1, htk, ← r1]
    simp
  have hn : As.length = na := by
    have : as.length = na + 1 := by rw [e2]; simp [e3]
    rw [e4] at this
    simpa using this
  have hpre : PreS s H (PcT E X as S) (Value.ref (E.2.2.1 + numP j g) :: As.map (cv E)) := ⟨PcT.blind hX, fun U hU hW => by
      have := preC hX C (as := as) h1 hS (lv_as e1 e2 h4) U hU hW
      rw [e4, List.map_cons, r1] at this
      rw [e4]
      exact this⟩
  have hwc : wC Z = Cond.code Z.2.1 Z.2.2.1 Z.2.2.2.1 none := by rw [wC, q4]
  rcases hkd with rfl | rfl
  · simp only [lwords] at k2
    exact va_runI (H := H) (locs := locs) (cells := fc) (slots := fs) (below := below) (meth := meth) (p := p) (l := l) (e := e) (R := R) (b := E.2.2.1 + numP j g) (As := As.map (cv E)) (rest := rest.map (cv E)) (g := F0 m pc ls (st.map (cv E))) (fixC C) hM
      (cwI na C.2.2.2.2.1 (wsM_good q7 (fun _ z => z)) (by rw [wsM, hwc]) rfl rfl (C.2.2.2.2.1 _ q6) (C.2.2.2.2.1 _ (k2 _ (by simp))) (C.2.2.2.2.1 _ q5) q3 ⟨n3, n4, q2⟩ (roomC C q1))
      hpre rfl (by simp [hn]) h2.1.1 hst (catW hcat) hd ⟨Nat.le_trans hf C.2.2.2.2.2.2.2.2.2.1, Nat.le_trans hs C.2.2.2.2.2.2.2.2.2.2.1⟩
  · obtain ⟨o1, o2⟩ := lnk12 hl
    have hown : own8 Y.1.2.1 = RX5 := by rw [o1]; rfl
    have hNw : va_Nw (.methodLinkNest (own8 Y.1.2.1) ix Z.2.1 RX5) s := by
      have hst := C.2.2.2.2.2.2.1
      rcases o2 with ⟨rfl, z⟩ | ⟨rfl, z⟩
      · rw [hown, z]
        exact hst.2.2.2.2.2.2.1
      · rw [hown, z]
        exact hst.2.2.2.2.2.2.2.1
    exact va_runIN (H := H) (locs := locs) (cells := fc) (slots := fs) (below := below) (meth := meth) (p := p) (l := l) (e := e) (R := R) (b := E.2.2.1 + numP j g) (As := As.map (cv E)) (rest := rest.map (cv E)) (g := F0 m pc ls (st.map (cv E))) (fixC C) hM
      ⟨va_cnB na C.2.2.2.2.1 (wsM_good q7 (fun _ z => z)) (by rw [wsM, hwc]) rfl rfl hNw (C.2.2.2.2.1 _ q6) ⟨n3, n4, q2⟩ (roomC C q1), q3, C.2.2.2.2.1 _ q5⟩
      hpre rfl (by simp [hn]) h2.1.1 hst (catW hcat) hd ⟨Nat.le_trans hf C.2.2.2.2.2.2.2.2.2.1, Nat.le_trans hs C.2.2.2.2.2.2.2.2.2.2.1⟩
/-- Object.<init>, min, max -/
theorem s_obj (C : Ctx E X Y d p R s m args meth c) {ix na : Nat} {Z : MT} {j g : Nat} {r : List AV} (hd : decode Y.2.2.1 pc = .ok (.invokespecial ix, 3)) (hl : lnk Y.1.2.1 ix = some (3, Z, na)) (hcat : catS r ≤ 8) (h : PS E Y n0 p l e R s m args below meth c Q (pc + 3) L r S fc fs) : PS E Y n0 p l e R s m args below meth c Q pc L (aR j g :: r) S fc fs := by
  obtain ⟨-, k2⟩ := lnkC hl
  simp only [lwords] at k2
  intro H locs ls h1 h2 h3 h4 h5 h6 h7 h8 h9
  have f1 := C.2.2.2.2.2.2.2.1
  have f2 := C.2.2.2.2.2.2.2.2.1
  have := catS_sum (E := E) r
  refine W.objInit C.1 C.2.1 C.2.2.2.1 (C.2.2.2.2.1 _ (k2 (.methodLink (own8 Y.1.2.1) ix objectInit) (by simp))) (C.2.2.2.2.1 _ (k2 (.instanceMethod objectInit) (by simp))) (C.2.2.2.2.1 _ (k2 (.code objectInit ⟨#[0xb1]⟩ 1 none) (by simp))) rfl (by rw [C.2.2.1]; exact h2.1.1) rfl hd (by omega) ?_ ?_
  · show 2 * 0 + _ + _ ≤ _
    omega
  · exact W.eq rfl (h H locs ls h1 h2 h3 (lvt h4) h5 h6 h7 h8 h9)
theorem s_min (C : Ctx E X Y d p R s m args meth c) {ix na : Nat} {Z : MT} {x y : Int32} {r : List AV} (hd : decode Y.2.2.1 pc = .ok (.invokestatic ix, 3)) (hl : lnk Y.1.2.1 ix = some (4, Z, na)) (hcat : catS r ≤ 8) (h : PS E Y n0 p l e R s m args below meth c Q (pc + 3) L (aI (if y < x then y else x) :: r) S fc fs) : PS E Y n0 p l e R s m args below meth c Q pc L (aI y :: aI x :: r) S fc fs := by
  obtain ⟨-, k2⟩ := lnkC hl
  simp only [lwords] at k2
  intro H locs ls h1 h2 h3 h4 h5 h6 h7 h8 h9
  have f1 := C.2.2.2.2.2.2.2.1
  have f2 := C.2.2.2.2.2.2.2.2.1
  have := catS_sum (E := E) r
  exact va_mmin C.1 C.2.1 (by rw [C.2.2.1]; exact h2.1.1.symm) C.2.2.2.1 (C.2.2.2.2.1 _ (k2 _ (by simp))) (C.2.2.2.2.1 _ (k2 _ (by simp))) (C.2.2.2.2.1 _ (k2 _ (by simp))) (C.2.2.2.2.1 _ (k2 _ (by simp))) (by omega) (by omega) (Nat.le_trans h7 C.2.2.2.2.2.2.2.2.2.1) (Nat.le_trans h8 C.2.2.2.2.2.2.2.2.2.2.1) hd (h H locs ls h1 h2 h3 (lv1 (v := aI (if y < x then y else x)) trivial (lvt (lvt h4))) h5 h6 h7 h8 h9)
theorem s_max (C : Ctx E X Y d p R s m args meth c) {ix na : Nat} {Z : MT} {x y : Int32} {r : List AV} (hd : decode Y.2.2.1 pc = .ok (.invokestatic ix, 3)) (hl : lnk Y.1.2.1 ix = some (5, Z, na)) (hcat : catS r ≤ 8) (h : PS E Y n0 p l e R s m args below meth c Q (pc + 3) L (aI (if x < y then y else x) :: r) S fc fs) : PS E Y n0 p l e R s m args below meth c Q pc L (aI y :: aI x :: r) S fc fs := by
  obtain ⟨-, k2⟩ := lnkC hl
  simp only [lwords] at k2
  intro H locs ls h1 h2 h3 h4 h5 h6 h7 h8 h9
  have f1 := C.2.2.2.2.2.2.2.1
  have f2 := C.2.2.2.2.2.2.2.2.1
  have := catS_sum (E := E) r
  exact va_mmax C.1 C.2.1 (by rw [C.2.2.1]; exact h2.1.1.symm) C.2.2.2.1 (C.2.2.2.2.1 _ (k2 _ (by simp))) (C.2.2.2.2.1 _ (k2 _ (by simp))) (C.2.2.2.2.1 _ (k2 _ (by simp))) (C.2.2.2.2.1 _ (k2 _ (by simp))) (by omega) (by omega) (Nat.le_trans h7 C.2.2.2.2.2.2.2.2.2.1) (Nat.le_trans h8 C.2.2.2.2.2.2.2.2.2.2.1) hd (h H locs ls h1 h2 h3 (lv1 (v := aI (if x < y then y else x)) trivial (lvt (lvt h4))) h5 h6 h7 h8 h9)
/-- arraycopy of ints -/
theorem s_copy (C : Ctx E X Y d p R s m args meth c) {ix na : Nat} {Z : MT} {j g a b ks kd kn : Nat} {r : List AV} (hfc : fc < 1000) (hd : decode Y.2.2.1 pc = .ok (.invokestatic ix, 3)) (hl : lnk Y.1.2.1 ix = some (6, Z, na)) (hcat : catS r ≤ 8) (hj : iak j = 1) (ha : iak a = 1) (hb1 : ks + kn ≤ aln S.2.2.2.1 j g) (hb2 : kd + kn ≤ aln S.2.2.2.1 a b) (hkn : kn ≤ 1000)
    (h : PS E Y n0 p l e R s m args below meth c Q (pc + 3) L r ((fun x y k => if x = a ∧ y = b ∧ kd ≤ k ∧ k < kd + kn then S.1 j g (ks + (k - kd)) else S.1 x y k), S.2) fc fs) : PS E Y n0 p l e R s m args below meth c Q pc L (aI (nI kn) :: aI (nI kd) :: aR a b :: aI (nI ks) :: aR j g :: r) S fc fs := by
  obtain ⟨-, k2⟩ := lnkC hl
  simp only [lwords] at k2
  intro H locs ls h1 h2 h3 h4 h5 h6 h7 h8 h9
  have f1 := C.2.2.2.2.2.2.2.1
  have f2 := C.2.2.2.2.2.2.2.2.1
  have hsum := catS_sum (E := E) r
  have l1 := aln_lt h1.2.2.2.2.1 j g
  have l2 := aln_lt h1.2.2.2.2.1 a b
  have hlj : lvP S j g := lvh (lvt (lvt (lvt (lvt h4))))
  have hla : lvP S a b := lvh (lvt (lvt h4))
  have hj6 := iak_lt (Or.inl hj)
  have ha6 := iak_lt (Or.inl ha)
  obtain ⟨a1, a2⟩ := hlj.in hj6
  obtain ⟨b1, b2⟩ := hla.in ha6
  have hgj := wld_get (E := E) a1 a2
  have hga := wld_get (E := E) b1 b2
  rw [el_int hj] at hgj
  rw [el_int ha] at hga
  have haj : cv E (aR j g) = .ref (E.2.2.1 + numP j g) := by simp [cv, adr, hj6]
  have haa : cv E (aR a b) = .ref (E.2.2.1 + numP a b) := by simp [cv, adr, ha6]
  rw [List.map_cons, List.map_cons, List.map_cons, List.map_cons, List.map_cons, haj, haa]
  obtain ⟨s1, s2⟩ := nI_nn (k := ks) (by omega)
  obtain ⟨d1, d2⟩ := nI_nn (k := kd) (by omega)
  obtain ⟨n1, n2⟩ := nI_nn (k := kn) (by omega)
  have hnw : nativeFrameWords "java/lang/System" "arraycopy" 5 + 11 ≤ 100 := by decide +kernel
  refine va_copyi (D := E.1) (cl := vwCl) (tys := tysE E) (ws := wld E S) (A := baseA E) (H0 := s.heap) (ty := .int) C.1 C.2.1 (by rw [C.2.2.1]; exact h2.1.1.symm) C.2.2.2.1 (C.2.2.2.2.1 _ (k2 _ (by simp))) (C.2.2.2.2.1 _ (k2 _ (by simp))) (C.2.2.2.2.1 _ (k2 _ (by simp))) (C.2.2.2.2.1 _ (k2 _ (by simp))) C.2.2.2.2.2.2.1.1 h1.2.1 (wld_D E S) h5 (numP j g) (numP a b) 0 0 hgj hga rfl rfl rfl s1 d1 n1 (by rw [s2, n2]; exact hb1) (by rw [d2, n2]; exact hb2) (fun i _ => rfl) (by omega) (by omega) hd (fun H1 locs1 hP _ hS => ?_)
  rw [s2, d2, n2] at hP
  generalize hS1 : (((fun x y k => if x = a ∧ y = b ∧ kd ≤ k ∧ k < kd + kn then S.1 j g (ks + (k - kd)) else S.1 x y k), S.2) : St) = S1 at h
  have hrow : S1.1 a b = va_cpy (S.1 j g) (S.1 a b) ks kd kn := by
    rw [← hS1]
    funext k
    simp [va_cpy]
  refine s_arr (S := S) (S' := S1) (j := a) (g := b) ha6 (by rw [← hS1]) (by rw [← hS1]) (fun z hz k => by
      rw [← hS1]
      dsimp only
      rw [if_neg (fun y => by omega)]) (fun q hq => ?_) hfc h1 h2 h3 hla (lvt (lvt (lvt (lvt (lvt h4))))) h6 h7 h8 h9 (fun x y z hz => Or.inl (by rw [← hS1] at hz; exact hz)) ?_ hS h
  · have hne : ¬ (q.1 = a ∧ q.2 = b) := fun z => hq (Prod.ext z.1 z.2)
    have e1 : S1.1 q.1 q.2 = S.1 q.1 q.2 := by
      rw [← hS1]
      funext k
      dsimp only
      rw [if_neg (fun y => hne ⟨y.1, y.2.1⟩)]
    have e0 : S1.2 = S.2 := by rw [← hS1]
    have e3 : fvl E S1 q.1 q.2 = fvl E S q.1 q.2 := funext fun z => by
      unfold fvl
      rw [e0, e1]
    unfold el
    rw [e0, e1, e3]
  · rw [el_int ha, hrow]
    have e0 : S1.2 = S.2 := by rw [← hS1]
    rw [e0]
    exact hP
end SNJ
end
section
/-! SOUNDNESS: one step of AM, whatever the instruction -/
def retI (i : Instr) (rk : Nat) (v : Option AV) : Prop :=
  (i = .ireturn ∧ ∃ x, v = some (aI x) ∧ (rk = 1 ∨ (rk = 4 ∧ (x = 0 ∨ x = 1)))) ∨ (i = .lreturn ∧ rk = 2 ∧ ∃ x, v = some (aL x)) ∨ (i = .areturn ∧ rk = 3 ∧ ∃ q, v = some (Sum.inr (Sum.inr q))) ∨ (i = .return_ ∧ rk = 0 ∧ v = none)
def HRet (E : Env0) (Y : MT) (n0 : Nat) (p : Program) (l : Launch) (e : Env) (R : Room) (s : State) (m : MethodId) (args : Array Value) (below : List Frame) (meth : Method) (c : Code) (Q : State → Prop) (K : KT) : Prop :=
  ∀ (pc fc fs : Nat) (S : St) (H : Heap) (locs : List Loc) (ls : Array Slot) (i : Instr) (v : Option AV), decode Y.2.2.1 pc = .ok (i, 1) → retI i Y.1.2.2.2.2 v → K v S → Rep E S H → (∀ u, v = some u → lvA S u) → va_S (baseA E) s.heap H locs → n0 ≤ S.2.2.2.2 → fc ≤ Y.1.2.2.1 → fs ≤ Y.1.2.2.2.1 → W p l e R s m args below meth c H locs fc fs Q (F0 m pc ls (v.toList.map (cv E)))
theorem dec_of {Y : MT} {pc n k : Nat} {i : Instr} (hd : decode Y.2.2.1 pc = .ok (i, n - pc)) (hl : lenI i = 0 ∨ n = pc + lenI i) (hk : lenI i = k) (h0 : 0 < k) : decode Y.2.2.1 pc = .ok (i, k) ∧ n = pc + k := by
  rcases hl with z | z
  · omega
  · rw [hk] at z
    subst z
    rw [Nat.add_sub_cancel_left] at hd
    exact ⟨hd, rfl⟩
theorem few_of {fc : Nat} {h : Prop} (z : few fc h) : fc < 1000 ∧ h := by
  unfold few at z
  by_cases hb : Nat.blt fc 1000 = true
  · rw [hb] at z
    exact ⟨by simpa [Nat.blt_eq] using hb, z⟩
  · rw [Bool.not_eq_true] at hb
    rw [hb] at z
    exact z.elim
theorem cond_of {b : Bool} {h : Prop} (z : cond b h False) : b = true ∧ h := by
  cases b with
  | true => exact ⟨rfl, z⟩
  | false => exact z.elim
theorem long6 {ci k : Nat} (h : fty ci k = 1) : ci = 6 := by
  unfold fty at h
  match ci, h with
  | 0, h =>
    simp only [ftT, nth] at h
    unfold tyX0 at h
    split at h <;> simp [tcd] at h
  | 1, h =>
    simp only [ftT, nth] at h
    unfold tyX1 at h
    split at h <;> simp [tcd] at h
  | 2, h =>
    simp only [ftT, nth] at h
    unfold tyX2 at h
    split at h <;> simp [tcd] at h
  | 3, h =>
    simp only [ftT, nth] at h
    unfold tyX3 at h
    split at h <;> simp [tcd] at h
  | 4, h =>
    simp only [ftT, nth] at h
    unfold tyX4 at h
    split at h <;> simp [tcd] at h
  | 5, h =>
    simp only [ftT, nth] at h
    unfold tyX5 at h
    split at h <;> simp [tcd] at h
  | n + 6, h => simp [ftT, nth] at h
section SNK
variable {E : Env0} {X : State → Prop} {Y : MT} {d n0 : Nat} {p : Program} {l : Launch} {e : Env} {R : Room} {s : State} {m : MethodId} {args : Array Value} {below : List Frame} {meth : Method} {c : Code} {Q : State → Prop}
variable {pc t fc fs : Nat} {L : List (Option AV)} {st : List AV} {S : St}
theorem s_put0 (C : Ctx E X Y d p R s m args meth c) {ix ci k ty : Nat} {fin : Bool} (hty : ty = 0 ∨ ty = 3) (hd : decode Y.2.2.1 pc = .ok (.putfield ix, 3)) (hin : fin = true → Y.2.1.name = "<init>" ∧ ci = Y.1.2.1) (hf : fld Y.1.2.1 ix = some (ci, k, ty, fin)) {j g : Nat} {x : Int32} {r : List AV} (hx : ty = 3 → x = 0 ∨ x = 1) (hj : clsP j = ci) (hfc : fc < 1000)
    (h : PS E Y n0 p l e R s m args below meth c Q (pc + 3) L r (ivSet S j g k x) fc fs) : PS E Y n0 p l e R s m args below meth c Q pc L (aI x :: aR j g :: r) S fc fs := by
  have hci : ci < 7 := by
    obtain ⟨q, hq, -⟩ := fldQ hf
    exact (clsF hq).2.2.2.2.2.1
  have hj6 : j < 60 := cls_lt (by rw [hj]; exact hci)
  refine s_putf C hd hin hf hj (v := aI x) (S' := ivSet S j g k x) (fun ty0 h0 => ?_) rfl rfl (iv_st hj6) (fun _ k' hk' _ => el_iv (fun z => hk' (by rw [← numId k', z]))) (fun hft z => ?_) (fun _ _ a b z hz => Or.inl hz) hfc h
  · rcases hty with rfl | rfl
    · cases ty0 <;> first | exact ⟨rfl, rfl⟩ | (simp [tcd] at h0; done)
    · have hx := hx rfl
      have hb : ty0 = .boolean := by cases ty0 <;> simp [tcd] at h0 ⊢
      subst hb
      rcases hx with rfl | rfl
      · exact ⟨show narrow .boolean (.int 0) = .int 0 by decide, show fits .boolean (.int 0) = true by decide⟩
      · exact ⟨show narrow .boolean (.int 1) = .int 1 by decide, show fits .boolean (.int 1) = true by decide⟩
  · subst hj
    by_cases hz : z = k
    · subst hz
      rw [if_pos rfl]
      unfold fvl
      split
      · rename_i y; omega
      · rename_i y; omega
      · simp [ivSet, up3, cv]
    · rw [if_neg hz]
      unfold fvl
      split
      · rfl
      · rfl
      · simp [ivSet, up3, hz]
theorem s_put2 (C : Ctx E X Y d p R s m args meth c) {ix ci k : Nat} {fin : Bool} (hd : decode Y.2.2.1 pc = .ok (.putfield ix, 3)) (hin : fin = true → Y.2.1.name = "<init>" ∧ ci = Y.1.2.1) (hf : fld Y.1.2.1 ix = some (ci, k, 2, fin)) {j g a b : Nat} {r : List AV} (hj : clsP j = ci) (hfr : frf j g k = (a, b)) (hfc : fc < 1000)
    (h : PS E Y n0 p l e R s m args below meth c Q (pc + 3) L r (nnSet S j g k) fc fs) : PS E Y n0 p l e R s m args below meth c Q pc L (aR a b :: aR j g :: r) S fc fs := by
  refine s_putf C hd hin hf hj (v := aR a b) (S' := nnSet S j g k) (fun ty0 h0 => ?_) rfl rfl (fun _ _ _ => rfl) (fun _ k' hk' _ => el_nn (fun z => hk' (by rw [← numId k', z]))) (fun hft z => ?_) (fun hlv hft a' b' z hz => ?_) hfc h
  · cases ty0 <;> first | exact ⟨rfl, rfl⟩ | (simp [tcd] at h0; done)
  · subst hj
    by_cases hz : z = k
    · subst hz
      rw [if_pos rfl]
      unfold fvl
      rw [hft]
      simp [nnSet, up3, cv, hfr]
    · rw [if_neg hz]
      unfold fvl
      split
      · rfl
      · simp [nnSet, up3, hz]
      · rfl
  · simp only [nnSet, up3] at hz
    split at hz
    · rename_i hy
      obtain ⟨rfl, rfl, rfl⟩ := hy
      refine Or.inr ⟨rfl, rfl, fun _ _ => by rw [hfr]; exact hlv, fun hr => ?_⟩
      obtain ⟨q, hq, -⟩ := fldQ hf
      exact absurd (by rw [hj]; exact (clsF hq).2.2.2.2.2.1) (rfk_cls hr).1
    · exact Or.inl hz
theorem sflW {own idx j : Nat} (h : sfl own idx = some j) : ckS own idx j = true ∧ ∀ w ∈ sfwords own idx j, w ∈ ALLW := by
  unfold sfl at h
  split at h
  · cases h
  · rename_i l hl
    exact ⟨enum_all (f := ckS) ckS_ok hl h, ALLW_of (fun w hw => sfW_ok w (allT_in (f := sfwords) hl h hw))⟩
theorem s_gets (C : Ctx E X Y d p R s m args meth c) {ix j : Nat} (hd : decode Y.2.2.1 pc = .ok (.getstatic ix, 3)) (hf : sfl Y.1.2.1 ix = some j) (h : PS E Y n0 p l e R s m args below meth c Q (pc + 3) L (aR j 0 :: st) S fc fs) : PS E Y n0 p l e R s m args below meth c Q pc L st S fc fs := by
  obtain ⟨h1, h2⟩ := sflW hf
  simp only [ckS, Bool.and_eq_true, Bool.or_eq_true] at h1
  obtain ⟨⟨b1, b2⟩, b3⟩ := h1
  have b1 := Nat.le_of_ble_eq_true b1
  have b2 := Nat.le_of_ble_eq_true b2
  have hst := C.2.2.2.2.2.2.1
  have hZ := hst.2.1 j b1 b2
  have ha : cv E (aR j 0) = .ref (E.2.2.2.1 j 0) := by simp [cv, adr, show ¬ j < 60 by omega]
  have hlv : lvA S (aR j 0) := Or.inr (Or.inl ⟨by omega, by omega, rfl⟩)
  intro H locs ls h1 h2' h3 h4 h5 h6 h7 h8 h9
  have hr := h H locs ls h1 h2' h3 (lv1 hlv h4) h5 h6 h7 h8 h9
  rw [List.map_cons, ha] at hr
  rcases b3 with b3 | ⟨b3, b4⟩
  · have ho := Nat.eq_of_beq_eq_true b3
    have hw := h2
    simp only [sfwords, ho, if_true] at hw
    exact va_gets (C := RX5) (ref := RX5) C.1 C.2.1 hZ h5 C.2.2.2.1 (by rw [ho]; exact C.2.2.2.2.1 _ (hw _ (List.mem_singleton.mpr rfl))) (fun _ hx => hx) hd hr
  · have ho := Nat.eq_of_beq_eq_true b3
    have hown : s.vm.findClass RX0 = some m.cls := by
      have := C.2.2.2.1
      rw [ho] at this
      exact this
    rcases b4 with (⟨c1, c2⟩ | ⟨c1, c2⟩) | ⟨c1, c2⟩
    · have e1 := Nat.eq_of_beq_eq_true c1
      have e2 := Nat.eq_of_beq_eq_true c2
      subst e1; subst e2
      exact va_getsN (C := RX5) (ref := RX5) (host := RX5) C.1 C.2.1 hZ h5 hown (va_Nw.use rfl hst.2.2.2.1) (fun _ hx => hx) hd hr
    · have e1 := Nat.eq_of_beq_eq_true c1
      have e2 := Nat.eq_of_beq_eq_true c2
      subst e1; subst e2
      exact va_getsN (C := RX5) (ref := RX5) (host := RX5) C.1 C.2.1 hZ h5 hown (va_Nw.use rfl hst.2.2.2.2.1) (fun _ hx => hx) hd hr
    · have e1 := Nat.eq_of_beq_eq_true c1
      have e2 := Nat.eq_of_beq_eq_true c2
      subst e1; subst e2
      exact va_getsN (C := RX5) (ref := RX5) (host := RX5) C.1 C.2.1 hZ h5 hown (va_Nw.use rfl hst.2.2.2.2.2.1) (fun _ hx => hx) hd hr
end SNK
end
section
/-! SOUNDNESS: the step -/
theorem ftyLe {ci k : Nat} : fty ci k = 0 ∨ fty ci k = 1 ∨ fty ci k = 2 ∨ fty ci k = 3 ∨ fty ci k = 9 := by
  unfold fty
  split
  · exact Or.inl rfl
  · unfold tcd
    split <;> simp
theorem ckFld9 : ((enum fldT 0).all fun q => q.2.all fun e => Nat.ble e.2.2.2.1 8) = true := by decide +kernel
theorem fld9 {own idx ci k ty : Nat} {fin : Bool} (h : fld own idx = some (ci, k, ty, fin)) : ty ≤ 8 := by
  unfold fld at h
  split at h
  · cases h
  · rename_i l hl
    exact Nat.le_of_ble_eq_true (enum_all (f := fun _ _ e => Nat.ble e.2.2.1 8) ckFld9 hl h)
theorem goC_of {Y Z : MT} {call : CT} {P : PT} {n fc fs : Nat} {L : List (Option AV)} {S : St} {as rest : List AV} (h : goC Y call P n L S fc fs Z (some (as, rest))) : catS rest ≤ 8 ∧ (fc ≤ Y.1.2.2.1 → fc + Z.1.2.2.1 ≤ Y.1.2.2.1) ∧ (fs ≤ Y.1.2.2.2.1 → fs + Z.1.2.2.2.1 ≤ Y.1.2.2.2.1) ∧ catS as ≤ Z.2.2.2.1 ∧ ∃ K' : KT, call Z as S K' ∧ ∀ v S', K' v S' → (Z.1.2.2.1 ≠ 0 → fc + Z.1.2.2.1 < 1000 → S'.2.2.2.2 = S.2.2.2.2 + Z.1.2.2.1) ∧ P n L (v.toList ++ rest) S' (fc + Z.1.2.2.1) (fs + Z.1.2.2.2.1) := by
  unfold goC at h
  dsimp only at h
  obtain ⟨hb, h_1⟩ := cond_of h
  simp only [Bool.and_eq_true] at hb
  by_cases hz : (Nat.beq Z.1.2.2.1 0 && Nat.beq Z.1.2.2.2.1 0) = true
  · rw [hz] at h_1
    simp only [Bool.and_eq_true] at hz
    have z1 := Nat.eq_of_beq_eq_true hz.1
    have z2 := Nat.eq_of_beq_eq_true hz.2
    refine ⟨Nat.le_of_ble_eq_true hb.1, fun _ => by omega, fun _ => by omega, Nat.le_of_ble_eq_true hb.2, _, h_1, fun v S' hk => ⟨fun z => absurd z1 z, ?_⟩⟩
    rw [z1, z2]
    exact hk
  · rw [Bool.not_eq_true] at hz
    rw [hz] at h_1
    obtain ⟨g1, g2, h_1⟩ := h_1
    refine ⟨Nat.le_of_ble_eq_true hb.1, fun _ => g1, fun _ => g2, Nat.le_of_ble_eq_true hb.2, _, h_1, fun v S' hk => ⟨fun _ hlt => hk.1 (by omega), hk.2⟩⟩
theorem ckP_none : ckP m_none := fun pc h => absurd h (by
  show ¬ pc < 16 * 0
  omega)
theorem lkP_0 : ∀ q ∈ lnk_0, ckP q.2.2.1 := List.forall_mem_cons.mpr ⟨ckP_none, List.forall_mem_cons.mpr ⟨ckP_none, List.forall_mem_cons.mpr ⟨ck_X0_owes, List.forall_mem_cons.mpr ⟨ck_X0_owedTo, List.forall_mem_cons.mpr ⟨ck_X2_value, List.forall_mem_cons.mpr ⟨ck_X0_value, List.forall_mem_cons.mpr ⟨ck_X0_owing, List.forall_mem_cons.mpr ⟨ck_X0_will, List.forall_mem_cons.mpr ⟨ck_X0_breath, List.forall_mem_cons.mpr ⟨ck_X0_pays, List.forall_mem_cons.mpr ⟨ck_X0_settle, List.forall_mem_cons.mpr ⟨ck_X0_lessen, List.forall_mem_cons.mpr ⟨ckP_none, List.forall_mem_cons.mpr ⟨ck_X0_may, List.forall_mem_cons.mpr ⟨ck_X0_step, List.forall_mem_cons.mpr ⟨ck_X0_danceRound, List.forall_mem_cons.mpr ⟨ckP_none, List.forall_mem_cons.mpr ⟨ck_X0_longest, List.forall_mem_cons.mpr ⟨ck_X0_mayAll, List.forall_mem_cons.mpr ⟨ck_X0_paidBy, List.forall_mem_cons.mpr ⟨ck_X0_firstOtherwise, List.forall_mem_cons.mpr ⟨ck_X5_within, fun _ h => absurd h List.not_mem_nil⟩⟩⟩⟩⟩⟩⟩⟩⟩⟩⟩⟩⟩⟩⟩⟩⟩⟩⟩⟩⟩⟩
theorem lkP_1 : ∀ q ∈ lnk_1, ckP q.2.2.1 := List.forall_mem_cons.mpr ⟨ckP_none, fun _ h => absurd h List.not_mem_nil⟩
theorem lkP_2 : ∀ q ∈ lnk_2, ckP q.2.2.1 := List.forall_mem_cons.mpr ⟨ckP_none, List.forall_mem_cons.mpr ⟨ck_X4_init, fun _ h => absurd h List.not_mem_nil⟩⟩
theorem lkP_3 : ∀ q ∈ lnk_3, ckP q.2.2.1 := List.forall_mem_cons.mpr ⟨ckP_none, fun _ h => absurd h List.not_mem_nil⟩
theorem lkP_4 : ∀ q ∈ lnk_4, ckP q.2.2.1 := List.forall_mem_cons.mpr ⟨ckP_none, fun _ h => absurd h List.not_mem_nil⟩
theorem lkP_5 : ∀ q ∈ lnk_5, ckP q.2.2.1 := List.forall_mem_cons.mpr ⟨ckP_none, List.forall_mem_cons.mpr ⟨ck_X2_init, List.forall_mem_cons.mpr ⟨ck_X0_init, List.forall_mem_cons.mpr ⟨ck_X5_told, List.forall_mem_cons.mpr ⟨ck_X5_debtPlace, List.forall_mem_cons.mpr ⟨ck_X0_join, List.forall_mem_cons.mpr ⟨ck_X5_isDancer, List.forall_mem_cons.mpr ⟨ck_X0_breath, List.forall_mem_cons.mpr ⟨ck_X0_owes, List.forall_mem_cons.mpr ⟨ck_X0_owedTo, List.forall_mem_cons.mpr ⟨ck_X5_isTwo, List.forall_mem_cons.mpr ⟨ck_X0_owing, List.forall_mem_cons.mpr ⟨ck_X0_pays, List.forall_mem_cons.mpr ⟨ck_X0_will, List.forall_mem_cons.mpr ⟨ck_X0_may, List.forall_mem_cons.mpr ⟨ck_X0_danceRound, List.forall_mem_cons.mpr ⟨ck_X0_endNight, List.forall_mem_cons.mpr ⟨ck_X5_readRing, List.forall_mem_cons.mpr ⟨ckP_none, List.forall_mem_cons.mpr ⟨ck_X0_lessen, List.forall_mem_cons.mpr ⟨ck_X5_think, List.forall_mem_cons.mpr ⟨ck_X0_all, List.forall_mem_cons.mpr ⟨ck_X0_stillOwed, List.forall_mem_cons.mpr ⟨ck_X0_takeFrom, List.forall_mem_cons.mpr ⟨ck_X0_weigh, List.forall_mem_cons.mpr ⟨ck_X0_bestSet, List.forall_mem_cons.mpr ⟨ck_X0_paidBy, List.forall_mem_cons.mpr ⟨ck_X5_sitters, List.forall_mem_cons.mpr ⟨ck_X5_soonest, List.forall_mem_cons.mpr ⟨ck_X0_least, List.forall_mem_cons.mpr ⟨ck_X0_ring, List.forall_mem_cons.mpr ⟨ck_X0_ends, List.forall_mem_cons.mpr ⟨ck_X0_keeps, List.forall_mem_cons.mpr ⟨ck_X5_lowest, List.forall_mem_cons.mpr ⟨ck_X5_clears, List.forall_mem_cons.mpr ⟨ck_X0_mostToMeet, List.forall_mem_cons.mpr ⟨ck_X0_mayAll, List.forall_mem_cons.mpr ⟨ck_X0_danceSet, List.forall_mem_cons.mpr ⟨ck_X5_isSheet, List.forall_mem_cons.mpr ⟨ck_X0_firstOtherwise, List.forall_mem_cons.mpr ⟨ck_X5_kindsTold, List.forall_mem_cons.mpr ⟨ck_X5_numbersTold, List.forall_mem_cons.mpr ⟨ck_X5_roundsTold, List.forall_mem_cons.mpr ⟨ck_X5_donesTold, List.forall_mem_cons.mpr ⟨ck_X5_textsTold, List.forall_mem_cons.mpr ⟨ck_X5_dancersTold, List.forall_mem_cons.mpr ⟨ck_X0_paysAs, List.forall_mem_cons.mpr ⟨ck_X3_become, List.forall_mem_cons.mpr ⟨ck_X3_put, List.forall_mem_cons.mpr ⟨ck_X1_init, List.forall_mem_cons.mpr ⟨ck_X3_init, fun _ h => absurd h List.not_mem_nil⟩⟩⟩⟩⟩⟩⟩⟩⟩⟩⟩⟩⟩⟩⟩⟩⟩⟩⟩⟩⟩⟩⟩⟩⟩⟩⟩⟩⟩⟩⟩⟩⟩⟩⟩⟩⟩⟩⟩⟩⟩⟩⟩⟩⟩⟩⟩⟩⟩⟩⟩
theorem lkP_6 : ∀ q ∈ lnk_6, ckP q.2.2.1 := fun _ h => absurd h List.not_mem_nil
theorem lkP_7 : ∀ q ∈ lnk_7, ckP q.2.2.1 := List.forall_mem_cons.mpr ⟨ck_L_cell, List.forall_mem_cons.mpr ⟨ck_X5_init, List.forall_mem_cons.mpr ⟨ck_L_some, List.forall_mem_cons.mpr ⟨ck_X5_dancer, List.forall_mem_cons.mpr ⟨ck_X5_told, List.forall_mem_cons.mpr ⟨ck_X5_set, List.forall_mem_cons.mpr ⟨ck_X5_count, List.forall_mem_cons.mpr ⟨ck_X5_best, List.forall_mem_cons.mpr ⟨ck_X5_asks, List.forall_mem_cons.mpr ⟨ck_X5_share, List.forall_mem_cons.mpr ⟨ck_X5_image, List.forall_mem_cons.mpr ⟨ck_X5_strike, List.forall_mem_cons.mpr ⟨ck_X5_back, List.forall_mem_cons.mpr ⟨ck_J6_bitCount_0f7a4, List.forall_mem_cons.mpr ⟨ckP_none, List.forall_mem_cons.mpr ⟨ck_X5_run, List.forall_mem_cons.mpr ⟨ck_X5_round, List.forall_mem_cons.mpr ⟨ck_X5_night, List.forall_mem_cons.mpr ⟨ck_X5_film, List.forall_mem_cons.mpr ⟨ck_X5_tells, fun _ h => absurd h List.not_mem_nil⟩⟩⟩⟩⟩⟩⟩⟩⟩⟩⟩⟩⟩⟩⟩⟩⟩⟩⟩⟩
theorem lkP {own idx kd na : Nat} {Z : MT} (h : lnk own idx = some (kd, Z, na)) : ckP Z := by
  unfold lnk at h
  split at h
  · cases h
  · rename_i l hl
    have hm := lkp_mem l idx _ h
    match own, hl with
    | 0, hl => cases hl; exact lkP_0 _ hm
    | 1, hl => cases hl; exact lkP_1 _ hm
    | 2, hl => cases hl; exact lkP_2 _ hm
    | 3, hl => cases hl; exact lkP_3 _ hm
    | 4, hl => cases hl; exact lkP_4 _ hm
    | 5, hl => cases hl; exact lkP_5 _ hm
    | 6, hl => cases hl; exact lkP_6 _ hm
    | 7, hl => cases hl; exact lkP_7 _ hm
    | n + 8, hl => simp [lnkT, nth] at hl
theorem ckN0 {own idx kd na : Nat} {Z : MT} (h : lnk own idx = some (kd, Z, na)) (hk : kd = 0 ∨ kd = 1 ∨ kd = 2 ∨ kd = 11 ∨ kd = 12) : ckN Z = true := by
  obtain ⟨k1, -⟩ := lnkC h
  rcases hk with rfl | rfl | rfl | rfl | rfl
  · simp only [ckL, Bool.and_eq_true] at k1
    exact k1.1
  · simp only [ckL, Bool.and_eq_true] at k1
    exact k1.1
  · simp only [ckL, Bool.and_eq_true] at k1
    exact k1.1.1.1
  · simp only [ckL, Bool.and_eq_true] at k1
    exact k1.1.1.1
  · simp only [ckL, Bool.and_eq_true] at k1
    exact k1.1.1.1.1
section SNL
variable {E : Env0} {X : State → Prop} {Y : MT} {d n0 : Nat} {p : Program} {l : Launch} {e : Env} {R : Room} {s : State} {m : MethodId} {args : Array Value} {below : List Frame} {meth : Method} {c : Code} {Q : State → Prop}
variable {pc t fc fs : Nat} {L : List (Option AV)} {st : List AV} {S : St}
theorem s_ret {K : KT} (hR : HRet E Y n0 p l e R s m args below meth c Q K) {i : Instr} (hd : decode Y.2.2.1 pc = .ok (i, 1)) {v : Option AV} (hr : retI i Y.1.2.2.2.2 v) (h : K v S) : PS E Y n0 p l e R s m args below meth c Q pc L v.toList S fc fs :=
  fun H locs ls h1 _ _ h4 h5 h6 h7 h8 _ => hR pc fc fs S H locs ls i v hd hr h h1 (fun u hu => h4 u (by rw [hu]; simp)) h5 h6 h7 h8
def alg (pc : Nat) : List (Int × Int) → List (Int32 × Nat) → Prop
  | [], [] => True
  | a :: l, b :: k => b.1.toInt = a.1 ∧ (pc : Int) + a.2 = (b.2 : Int) ∧ alg pc l k
  | _, _ => False
theorem alg_of {pc : Nat} : ∀ (l : List (Int × Int)) (sw : List (Int32 × Nat)), l.length = sw.length → (∀ (k : Nat) (q : Int32 × Nat) (o : Int × Int), nth sw k = some q → l[k]? = some o → q.1.toInt = o.1 ∧ (pc : Int) + o.2 = (q.2 : Int)) → alg pc l sw
  | [], [], _, _ => trivial
  | [], b :: k, h, _ => by simp at h
  | a :: l, [], h, _ => by simp at h
  | a :: l, b :: k, h, hf => ⟨(hf 0 b a rfl rfl).1, (hf 0 b a rfl rfl).2, alg_of l k (by simpa using h) (fun n q o h1 h2 => hf (n + 1) q o h1 (by simpa using h2))⟩
theorem look_go {pc t : Nat} {x : Int32} {df : Int} {P : Nat → Prop} (ht : (pc : Int) + df = (t : Int)) : ∀ (l : List (Int × Int)) (sw : List (Int32 × Nat)), alg pc l sw → swP x P sw t → ∃ tg : Nat, (pc : Int) + Op.lookupswitch.offset l df x.toInt = (tg : Int) ∧ P tg
  | [], [], _, h => ⟨t, by rw [Op.lookupswitch.offset_nil]; exact ht, h⟩
  | [], b :: k, h, _ => h.elim
  | a :: l, [], h, _ => h.elim
  | a :: l, b :: k, ⟨h1, h2, h3⟩, h => by
    by_cases hx : x = b.1
    · refine ⟨b.2, ?_, h.1 hx⟩
      rw [Op.lookupswitch.offset_cons, if_pos (by rw [hx, h1])]
      exact h2
    · obtain ⟨tg, e1, e2⟩ := look_go ht l k h3 (h.2 hx)
      refine ⟨tg, ?_, e2⟩
      rw [Op.lookupswitch.offset_cons, if_neg (fun z => hx (Int32.toInt_inj.mp (by rw [h1]; exact z.symm)))]
      exact e1
theorem s_look (C : Ctx E X Y d p R s m args meth c) {df : Int} {ps : Array (Int × Int)} {len : Nat} {x0 : Int32} {sw : List (Int32 × Nat)} (hd : decode Y.2.2.1 pc = .ok (.lookupswitch df ps, len)) (hk : ckI (.lookupswitch df ps) pc t x0 sw = true) (h : popI st fun x r => swP x (fun d => PS E Y n0 p l e R s m args below meth c Q d L r S fc fs) sw t) : PS E Y n0 p l e R s m args below meth c Q pc L st S fc fs := by
  obtain ⟨x, r, rfl, h'⟩ := popI_of h
  simp only [ckI, Bool.and_eq_true, decide_eq_true_eq] at hk
  obtain ⟨⟨⟨k1, k2⟩, k3⟩, k4⟩ := hk
  have hal : alg pc ps.toList sw := alg_of _ _ k3 (fun k q o hq ho => by
    have h9 := List.all_eq_true.mp k4 k (List.mem_range.mpr (nth_lt sw k q hq))
    rw [hq, ho] at h9
    simp only [Bool.and_eq_true, decide_eq_true_eq] at h9
    refine ⟨?_, h9.1.1.2⟩
    rw [h9.1.1.1, ofInt_toInt h9.1.2 (by omega)])
  intro H locs ls h1 h2 h3 h4 h5 h6 h7 h8 h9
  obtain ⟨tg, e1, e2⟩ := look_go k1 ps.toList sw hal h'
  exact lv_lookup C.1 C.2.1 hd k2 rfl e1 (e2 H locs ls h1 h2 h3 (lvt h4) h5 h6 h7 h8 h9)
set_option maxHeartbeats 4000000 in
theorem step {call : CT} {K : KT} (C : Ctx E X Y d p R s m args meth c) (hX : Xok E X) (hR : HRet E Y n0 p l e R s m args below meth c Q K) (hC : ∀ {S : St} (Z : MT) (as : List AV) (K' : KT), ckP Z → ckN Z = true → catS as ≤ Z.2.2.2.1 → call Z as S K' → MetC E X l d Z as S K') :
    ∀ pc L st S fc fs, F Y call K (PS E Y n0 p l e R s m args below meth c Q) pc L st S fc fs → PS E Y n0 p l e R s m args below meth c Q pc L st S fc fs := by
  intro pc L st S fc fs h
  unfold F at h
  split at h
  · exact h.elim
  rename_i i n t x0 sw hc
  obtain ⟨hd, hle, hck, hlen, hloc, hpf⟩ := ckM_at C.2.2.2.2.2.1 hc
  cases i
  all_goals first | exact False.elim h | skip
  case iconst z =>
    obtain ⟨hd1, rfl⟩ := dec_of hd hlen rfl (Nat.succ_pos _)
    exact s_iconst C hd1 (of_decide_eq_true hck) h
  case bipush z =>
    obtain ⟨hd1, rfl⟩ := dec_of hd hlen rfl (Nat.succ_pos _)
    exact s_bipush C hd1 (of_decide_eq_true hck) h
  case sipush z =>
    obtain ⟨hd1, rfl⟩ := dec_of hd hlen rfl (Nat.succ_pos _)
    exact s_sipush C hd1 (of_decide_eq_true hck) h
  case lconst z =>
    obtain ⟨hd1, rfl⟩ := dec_of hd hlen rfl (Nat.succ_pos _)
    exact s_lconst C hd1 h
  case aconst_null =>
    obtain ⟨hd1, rfl⟩ := dec_of hd hlen rfl (Nat.succ_pos _)
    exact s_null C hd1 h
  case iload k =>
    obtain ⟨hd1, rfl⟩ := dec_of hd hlen rfl (Nat.succ_pos _)
    exact s_iload C hd1 h
  case iload_n k =>
    obtain ⟨hd1, rfl⟩ := dec_of hd hlen rfl (Nat.succ_pos _)
    exact s_iload_n C hd1 h
  case lload k =>
    obtain ⟨hd1, rfl⟩ := dec_of hd hlen rfl (Nat.succ_pos _)
    exact s_lload C hd1 h
  case lload_n k =>
    obtain ⟨hd1, rfl⟩ := dec_of hd hlen rfl (Nat.succ_pos _)
    exact s_lload_n C hd1 h
  case aload k =>
    obtain ⟨hd1, rfl⟩ := dec_of hd hlen rfl (Nat.succ_pos _)
    exact s_aload C hd1 h
  case aload_n k =>
    obtain ⟨hd1, rfl⟩ := dec_of hd hlen rfl (Nat.succ_pos _)
    exact s_aload_n C hd1 h
  case istore k =>
    obtain ⟨hd1, rfl⟩ := dec_of hd hlen rfl (Nat.succ_pos _)
    exact s_istore C hd1 (Nat.le_of_ble_eq_true hloc) h
  case istore_n k =>
    obtain ⟨hd1, rfl⟩ := dec_of hd hlen rfl (Nat.succ_pos _)
    exact s_istore_n C hd1 (Nat.le_of_ble_eq_true hloc) h
  case lstore k =>
    obtain ⟨hd1, rfl⟩ := dec_of hd hlen rfl (Nat.succ_pos _)
    exact s_lstore C hd1 (Nat.le_of_ble_eq_true hloc) h
  case lstore_n k =>
    obtain ⟨hd1, rfl⟩ := dec_of hd hlen rfl (Nat.succ_pos _)
    exact s_lstore_n C hd1 (Nat.le_of_ble_eq_true hloc) h
  case astore k =>
    obtain ⟨hd1, rfl⟩ := dec_of hd hlen rfl (Nat.succ_pos _)
    exact s_astore C hd1 (Nat.le_of_ble_eq_true hloc) h
  case iinc k z =>
    obtain ⟨hd1, rfl⟩ := dec_of hd hlen rfl (Nat.succ_pos _)
    exact s_iinc C hd1 (of_decide_eq_true hck) (Nat.le_of_ble_eq_true hloc) h
  case iadd =>
    obtain ⟨hd1, rfl⟩ := dec_of hd hlen rfl (Nat.succ_pos _)
    exact s_bin (f := fun x y => x + y) (fun k => lv_iadd C.1 C.2.1 hd1 k) h
  case isub =>
    obtain ⟨hd1, rfl⟩ := dec_of hd hlen rfl (Nat.succ_pos _)
    exact s_bin (f := fun x y => x - y) (fun k => lv_isub C.1 C.2.1 hd1 k) h
  case imul =>
    obtain ⟨hd1, rfl⟩ := dec_of hd hlen rfl (Nat.succ_pos _)
    exact s_bin (f := fun x y => x * y) (fun k => lv_imul C.1 C.2.1 hd1 k) h
  case iand =>
    obtain ⟨hd1, rfl⟩ := dec_of hd hlen rfl (Nat.succ_pos _)
    exact s_bin (f := fun x y => x &&& y) (fun k => lv_iand C.1 C.2.1 hd1 k) h
  case ior =>
    obtain ⟨hd1, rfl⟩ := dec_of hd hlen rfl (Nat.succ_pos _)
    exact s_bin (f := fun x y => x ||| y) (fun k => lv_ior C.1 C.2.1 hd1 k) h
  case ixor =>
    obtain ⟨hd1, rfl⟩ := dec_of hd hlen rfl (Nat.succ_pos _)
    exact s_bin (f := fun x y => x ^^^ y) (fun k => lv_ixor C.1 C.2.1 hd1 k) h
  case idiv =>
    obtain ⟨hd1, rfl⟩ := dec_of hd hlen rfl (Nat.succ_pos _)
    exact s_binG (f := fun x y => x / y) (fun z k => lv_idiv C.1 C.2.1 hd1 z k) h
  case irem =>
    obtain ⟨hd1, rfl⟩ := dec_of hd hlen rfl (Nat.succ_pos _)
    exact s_binG (f := fun x y => x - x / y * y) (fun z k => lv_irem C.1 C.2.1 hd1 z k) h
  case ishl =>
    obtain ⟨hd1, rfl⟩ := dec_of hd hlen rfl (Nat.succ_pos _)
    exact s_bin (f := fun x y => x <<< (y &&& 31)) (fun k => lv_ishl C.1 C.2.1 hd1 k) h
  case ishr =>
    obtain ⟨hd1, rfl⟩ := dec_of hd hlen rfl (Nat.succ_pos _)
    exact s_bin (f := fun x y => x >>> (y &&& 31)) (fun k => lv_ishr C.1 C.2.1 hd1 k) h
  case iushr =>
    obtain ⟨hd1, rfl⟩ := dec_of hd hlen rfl (Nat.succ_pos _)
    exact s_bin (f := fun x y => (x.toUInt32 >>> (y.toUInt32 &&& Int32.toUInt32 31)).toInt32) (fun k => lv_iushr C.1 C.2.1 hd1 rfl k) h
  case ineg =>
    obtain ⟨hd1, rfl⟩ := dec_of hd hlen rfl (Nat.succ_pos _)
    exact s_un (f := fun x => aI (-x)) (fun _ => trivial) (fun k => lv_ineg C.1 C.2.1 hd1 k) h
  case i2l =>
    obtain ⟨hd1, rfl⟩ := dec_of hd hlen rfl (Nat.succ_pos _)
    exact s_un (f := fun x => aL x.toInt64) (fun _ => trivial) (fun k => lv_i2l C.1 C.2.1 hd1 rfl k) h
  case l2i =>
    obtain ⟨hd1, rfl⟩ := dec_of hd hlen rfl (Nat.succ_pos _)
    exact s_l2i C hd1 h
  case i2b =>
    obtain ⟨hd1, rfl⟩ := dec_of hd hlen rfl (Nat.succ_pos _)
    exact s_un (f := fun x => aI x.toInt8.toInt32) (fun _ => trivial) (fun k => lv_i2b C.1 C.2.1 hd1 rfl k) h
  case i2s =>
    obtain ⟨hd1, rfl⟩ := dec_of hd hlen rfl (Nat.succ_pos _)
    exact s_un (f := fun x => aI x.toInt16.toInt32) (fun _ => trivial) (fun k => lv_i2s C.1 C.2.1 hd1 rfl k) h
  case i2c =>
    obtain ⟨hd1, rfl⟩ := dec_of hd hlen rfl (Nat.succ_pos _)
    exact s_un (f := fun x => aI (x.toUInt32 % 65536).toInt32) (fun _ => trivial) (fun k => lv_i2c C.1 C.2.1 hd1 rfl k) h
  case ladd =>
    obtain ⟨hd1, rfl⟩ := dec_of hd hlen rfl (Nat.succ_pos _)
    exact s_binL (f := fun x y => x + y) (fun k => lv_ladd C.1 C.2.1 hd1 k) h
  case lsub =>
    obtain ⟨hd1, rfl⟩ := dec_of hd hlen rfl (Nat.succ_pos _)
    exact s_binL (f := fun x y => x - y) (fun k => lv_lsub C.1 C.2.1 hd1 k) h
  case lmul =>
    obtain ⟨hd1, rfl⟩ := dec_of hd hlen rfl (Nat.succ_pos _)
    exact s_binL (f := fun x y => x * y) (fun k => lv_lmul C.1 C.2.1 hd1 k) h
  case ldiv =>
    obtain ⟨hd1, rfl⟩ := dec_of hd hlen rfl (Nat.succ_pos _)
    exact s_binLG (f := fun x y => x / y) (fun z k => lv_ldiv C.1 C.2.1 hd1 z k) h
  case lrem =>
    obtain ⟨hd1, rfl⟩ := dec_of hd hlen rfl (Nat.succ_pos _)
    exact s_binLG (f := fun x y => x - x / y * y) (fun z k => lv_lrem C.1 C.2.1 hd1 z k) h
  case lcmp =>
    obtain ⟨hd1, rfl⟩ := dec_of hd hlen rfl (Nat.succ_pos _)
    exact s_lcmp C hd1 h
  case dup =>
    obtain ⟨hd1, rfl⟩ := dec_of hd hlen rfl (Nat.succ_pos _)
    exact s_dup C hd1 h
  case dup2 =>
    obtain ⟨hd1, rfl⟩ := dec_of hd hlen rfl (Nat.succ_pos _)
    exact s_dup2 C hd1 h
  case pop =>
    obtain ⟨hd1, rfl⟩ := dec_of hd hlen rfl (Nat.succ_pos _)
    exact s_pop C hd1 h
  case goto o =>
    obtain ⟨hd1, rfl⟩ := dec_of hd hlen rfl (Nat.succ_pos _)
    exact s_goto C hd1 (of_decide_eq_true hck) h
  case ifCond cc o =>
    obtain ⟨hd1, rfl⟩ := dec_of hd hlen rfl (Nat.succ_pos _)
    cases cc
    case eq => exact s_br1 (u := fun x => x = 0) (w := fun x => ¬ x = 0) (fun a b => lv_if_eq C.1 C.2.1 hd1 (of_decide_eq_true hck) a b) h
    case ne => exact s_br1 (u := fun x => ¬ x = 0) (w := fun x => x = 0) (fun a b => lv_if_ne C.1 C.2.1 hd1 (of_decide_eq_true hck) a b) h
    case lt => exact s_br1 (u := fun x => x < 0) (w := fun x => ¬ x < 0) (fun a b => lv_if_lt C.1 C.2.1 hd1 (of_decide_eq_true hck) a b) h
    case ge => exact s_br1 (u := fun x => 0 ≤ x) (w := fun x => ¬ 0 ≤ x) (fun a b => lv_if_ge C.1 C.2.1 hd1 (of_decide_eq_true hck) a b) h
    case gt => exact s_br1 (u := fun x => 0 < x) (w := fun x => ¬ 0 < x) (fun a b => lv_if_gt C.1 C.2.1 hd1 (of_decide_eq_true hck) a b) h
    case le => exact s_br1 (u := fun x => x ≤ 0) (w := fun x => ¬ x ≤ 0) (fun a b => lv_if_le C.1 C.2.1 hd1 (of_decide_eq_true hck) a b) h
  case if_icmp cc o =>
    obtain ⟨hd1, rfl⟩ := dec_of hd hlen rfl (Nat.succ_pos _)
    cases cc
    case eq => exact s_br2 (u := fun x y => x = y) (w := fun x y => ¬ x = y) (fun a b => lv_icmp_eq C.1 C.2.1 hd1 (of_decide_eq_true hck) a b) h
    case ne => exact s_br2 (u := fun x y => ¬ x = y) (w := fun x y => x = y) (fun a b => lv_icmp_ne C.1 C.2.1 hd1 (of_decide_eq_true hck) a b) h
    case lt => exact s_br2 (u := fun x y => x < y) (w := fun x y => ¬ x < y) (fun a b => lv_icmp_lt C.1 C.2.1 hd1 (of_decide_eq_true hck) a b) h
    case ge => exact s_br2 (u := fun x y => y ≤ x) (w := fun x y => ¬ y ≤ x) (fun a b => lv_icmp_ge C.1 C.2.1 hd1 (of_decide_eq_true hck) a b) h
    case gt => exact s_br2 (u := fun x y => y < x) (w := fun x y => ¬ y < x) (fun a b => lv_icmp_gt C.1 C.2.1 hd1 (of_decide_eq_true hck) a b) h
    case le => exact s_br2 (u := fun x y => x ≤ y) (w := fun x y => ¬ x ≤ y) (fun a b => lv_icmp_le C.1 C.2.1 hd1 (of_decide_eq_true hck) a b) h
  case ldc_w ix =>
    obtain ⟨hd1, rfl⟩ := dec_of hd hlen rfl (Nat.succ_pos _)
    simp only [G] at h
    split at h
    · rename_i v hv
      exact s_ldcw C hd1 hv h
    · exact h.elim
  case ldc2_w ix =>
    obtain ⟨hd1, rfl⟩ := dec_of hd hlen rfl (Nat.succ_pos _)
    simp only [G] at h
    split at h
    · rename_i v hv
      exact s_ldc2 C hd1 hv h
    · exact h.elim
  case astore_n k =>
    obtain ⟨hd1, rfl⟩ := dec_of hd hlen rfl (Nat.succ_pos _)
    simp only [G] at h
    split at h
    · exact s_astore_n C hd1 (Nat.le_of_ble_eq_true hloc) h
    · exact h.elim
  case ifnonnull o =>
    obtain ⟨hd1, rfl⟩ := dec_of hd hlen rfl (Nat.succ_pos _)
    simp only [G] at h
    split at h
    · exact s_ifnnN C hd1 h
    · exact s_ifnn C hd1 (of_decide_eq_true hck) h
    · exact h.elim
  case tableswitch df lo hi offs => exact s_table C hd hck h
  case lookupswitch df ps => exact s_look C hd hck h
  case getfield ix =>
    obtain ⟨hd1, rfl⟩ := dec_of hd hlen rfl (Nat.succ_pos _)
    simp only [G] at h
    split at h
    · exact h.elim
    · rename_i ci k ty fin hf
      obtain ⟨j, g, r, rfl, h_1⟩ := popR_of h
      obtain ⟨hj, h_2⟩ := cond_of h_1
      have hj := Nat.eq_of_beq_eq_true hj
      split at h_2
      · exact s_getf C hd1 hf hj (v := aL S.2.1) (fun _ _ _ _ _ _ => trivial) (fun z => by rw [← hj] at z; simp [fvl, z, cv]) h_2
      · obtain ⟨hn, h_2⟩ := h_2
        refine s_getf C hd1 hf hj (v := Sum.inr (Sum.inr (some (frf j g k)))) (fun H h1 h2 h3 h4 h5 => ?_) (fun z => by rw [← hj] at z; exact cv_frf z hn) h_2
        subst hj
        have hc : clsP j < 7 := by
          obtain ⟨q, hq, -⟩ := fldQ hf
          exact (clsF hq).2.2.2.2.2.1
        exact h5.2.2.2.2.2.1 j g k h1 h2 hc h4 h3 hn
      · rename_i n1 n2
        exact s_getf C hd1 hf hj (v := aI (S.1 j g k)) (fun _ _ _ _ _ _ => trivial) (fun z => by
          rw [← hj] at z
          unfold fvl
          split
          · rename_i y; exact absurd (z.symm.trans y) n1
          · rename_i y; exact absurd (z.symm.trans y) n2
          · rfl) h_2
  case putfield ix =>
    obtain ⟨hd1, rfl⟩ := dec_of hd hlen rfl (Nat.succ_pos _)
    simp only [G] at h
    split at h
    · exact h.elim
    · rename_i ci k ty fin hf
      obtain ⟨hfc, h_1⟩ := few_of h
      have hin : fin = true → Y.2.1.name = "<init>" ∧ ci = Y.1.2.1 := by
        intro z
        subst z
        simp only [pfI, hf, Bool.and_eq_true, decide_eq_true_eq] at hpf
        exact ⟨hpf.1, Nat.eq_of_beq_eq_true hpf.2⟩
      split at h_1
      · exact h_1.elim
      · obtain ⟨a, b, r, rfl, h_5⟩ := popR_of h_1
        obtain ⟨j, g, r, rfl, h_6⟩ := popR_of h_5
        obtain ⟨hj, h_7⟩ := cond_of h_6
        exact s_put2 C hd1 hin hf (Nat.eq_of_beq_eq_true hj) h_7.1 hfc h_7.2
      · obtain ⟨x, r, rfl, h_8⟩ := popI_of h_1
        obtain ⟨j, g, r, rfl, h_9⟩ := popR_of h_8
        obtain ⟨hj, h_10⟩ := cond_of h_9
        exact s_put0 C (Or.inr rfl) hd1 hin hf (fun _ => h_10.1) (Nat.eq_of_beq_eq_true hj) hfc h_10.2
      · rename_i n1 n2 n3
        obtain ⟨x, r, rfl, h_11⟩ := popI_of h_1
        obtain ⟨j, g, r, rfl, h_12⟩ := popR_of h_11
        obtain ⟨hj, h_13⟩ := cond_of h_12
        have hty : ty = 0 := by
          obtain ⟨q, hq, hk, hty, -⟩ := fldQ hf
          have := ftyLe (ci := ci) (k := k)
          rw [hty] at this
          rcases this with z | z | z | z | z
          · exact z
          · exact absurd z n1
          · exact absurd z n2
          · exact absurd z n3
          · exfalso
            have hno := fld9 hf
            omega
        exact s_put0 C (Or.inl hty) hd1 hin hf (fun z => by omega) (Nat.eq_of_beq_eq_true hj) hfc h_13
  case getstatic ix =>
    obtain ⟨hd1, rfl⟩ := dec_of hd hlen rfl (Nat.succ_pos _)
    simp only [G] at h
    split at h
    · exact h.elim
    · rename_i j hj
      exact s_gets C hd1 hj h
  case iaload =>
    obtain ⟨hd1, rfl⟩ := dec_of hd hlen rfl (Nat.succ_pos _)
    obtain ⟨i, r, rfl, h_1⟩ := popI_of h
    obtain ⟨j, g, r, rfl, h_2⟩ := popR_of h_1
    obtain ⟨hj, k, hk, h_3⟩ := cond_of h_2
    simp only [Bool.or_eq_true] at hj
    exact s_iald C hd1 (hj.imp Nat.eq_of_beq_eq_true Nat.eq_of_beq_eq_true) hk h_3
  case aaload =>
    obtain ⟨hd1, rfl⟩ := dec_of hd hlen rfl (Nat.succ_pos _)
    obtain ⟨i, r, rfl, h_1⟩ := popI_of h
    obtain ⟨j, g, r, rfl, h_2⟩ := popR_of h_1
    obtain ⟨hj, k, hk, hn, h_3⟩ := cond_of h_2
    exact s_aald C hd1 (Nat.le_of_ble_eq_true hj) hk hn h_3
  case iastore =>
    obtain ⟨hd1, rfl⟩ := dec_of hd hlen rfl (Nat.succ_pos _)
    obtain ⟨hfc, h_1⟩ := few_of h
    obtain ⟨x, r, rfl, h_2⟩ := popI_of h_1
    obtain ⟨i, r, rfl, h_3⟩ := popI_of h_2
    obtain ⟨j, g, r, rfl, h_4⟩ := popR_of h_3
    obtain ⟨hj, k, hk, h_5⟩ := cond_of h_4
    exact s_iast C hd1 hfc (Nat.eq_of_beq_eq_true hj) hk h_5
  case aastore =>
    obtain ⟨hd1, rfl⟩ := dec_of hd hlen rfl (Nat.succ_pos _)
    obtain ⟨hfc, h_1⟩ := few_of h
    obtain ⟨a, b, r, rfl, h_2⟩ := popR_of h_1
    obtain ⟨i, r, rfl, h_3⟩ := popI_of h_2
    obtain ⟨j, g, r, rfl, h_4⟩ := popR_of h_3
    obtain ⟨hj, k, hk, he, h_5⟩ := cond_of h_4
    have hs := s_aast C hd1 hfc (Nat.le_of_ble_eq_true hj) hk h_5
    rw [he] at hs
    exact hs
  case arraylength =>
    obtain ⟨hd1, rfl⟩ := dec_of hd hlen rfl (Nat.succ_pos _)
    simp only [G] at h
    obtain ⟨j, g, r, rfl, h_1⟩ := popR_of h
    obtain ⟨hj, h_2⟩ := cond_of h_1
    simp only [Bool.or_eq_true] at hj
    exact s_alen C hd1 (hj.imp Nat.le_of_ble_eq_true Nat.le_of_ble_eq_true) h_2
  case newarray ty =>
    obtain ⟨hd1, rfl⟩ := dec_of hd hlen rfl (Nat.succ_pos _)
    cases ty
    case int =>
      obtain ⟨hfc, h_1⟩ := few_of h
      obtain ⟨x, r, rfl, j, g, k, rfl, h1, h2, h3, h4, h5, h6, h7, h_2⟩ := popI_of h_1
      exact s_newI C hd1 hfc h1 h2 h3 h4 h5 h6 h7 h_2
    all_goals exact False.elim h
  case anewarray ix =>
    obtain ⟨hd1, rfl⟩ := dec_of hd hlen rfl (Nat.succ_pos _)
    simp only [G] at h
    split at h
    · exact h.elim
    · rename_i ci hci
      obtain ⟨hfc, h_1⟩ := few_of h
      obtain ⟨x, r, rfl, j, g, k, rfl, h1, h2, h4, h5, h6, h7, h_2⟩ := popI_of h_1
      exact s_newR C hd1 hci hfc h1 h2 h4 h5 h6 h7 h_2
  case new ix =>
    obtain ⟨hd1, rfl⟩ := dec_of hd hlen rfl (Nat.succ_pos _)
    simp only [G] at h
    split at h
    · exact h.elim
    · rename_i ci hci
      split at h
      · exact h.elim
      · rename_i q hq
        obtain ⟨hfc, j, g, h1, h2, h3, h4, h5, h_1⟩ := few_of h
        exact s_new C hd1 hci hq hfc h1 h2 h3 h4 h5 h_1
  case invokevirtual ix =>
    obtain ⟨hd1, rfl⟩ := dec_of hd hlen rfl (Nat.succ_pos _)
    simp only [G] at h
    split at h
    · exact h.elim
    · rename_i kd Z na hl
      split at h
      · obtain ⟨hr, h_1⟩ := cond_of h
        cases hp : popN (na + 1) st [] with
        | none => rw [hp] at h_1; exact h_1.elim
        | some q =>
          obtain ⟨as, rest⟩ := q
          rw [hp] at h_1 hr
          obtain ⟨g1, g2, g3, g4, K', hcall, hK⟩ := goC_of h_1
          exact s_goV C hX hd1 hl hp hr g1 g2 g3 (hC Z as K' (lkP hl) (ckN0 hl (Or.inl rfl)) g4 hcall) hK
      · exact h.elim
  case invokestatic ix =>
    obtain ⟨hd1, rfl⟩ := dec_of hd hlen rfl (Nat.succ_pos _)
    simp only [G] at h
    split at h
    · exact h.elim
    · rename_i kd Z na hl
      split at h
      · cases hp : popN na st [] with
        | none => rw [hp] at h; exact h.elim
        | some q =>
          obtain ⟨as, rest⟩ := q
          rw [hp] at h
          obtain ⟨g1, g2, g3, g4, K', hcall, hK⟩ := goC_of h
          exact s_goS C hX hd1 hl hp g1 g2 g3 (hC Z as K' (lkP hl) (ckN0 hl (Or.inr (Or.inl rfl))) g4 hcall) hK
      · cases hp : popN na st [] with
        | none => rw [hp] at h; exact h.elim
        | some q =>
          obtain ⟨as, rest⟩ := q
          rw [hp] at h
          obtain ⟨g1, g2, g3, g4, K', hcall, hK⟩ := goC_of h
          exact s_goN C hX hd1 hl hp g1 g2 g3 (hC Z as K' (lkP hl) (ckN0 hl (Or.inr (Or.inr (Or.inr (Or.inl rfl))))) g4 hcall) hK
      · obtain ⟨y, r, rfl, h_1⟩ := popI_of h
        obtain ⟨x, r, rfl, h_2⟩ := popI_of h_1
        obtain ⟨hb, h_3⟩ := cond_of h_2
        exact s_min C hd1 hl (Nat.le_of_ble_eq_true hb) h_3
      · obtain ⟨y, r, rfl, h_4⟩ := popI_of h
        obtain ⟨x, r, rfl, h_5⟩ := popI_of h_4
        obtain ⟨hb, h_6⟩ := cond_of h_5
        exact s_max C hd1 hl (Nat.le_of_ble_eq_true hb) h_6
      · obtain ⟨hfc, h_7⟩ := few_of h
        obtain ⟨z, r, rfl, h_8⟩ := popI_of h_7
        obtain ⟨dp, r, rfl, h_9⟩ := popI_of h_8
        obtain ⟨a, b, r, rfl, h_10⟩ := popR_of h_9
        obtain ⟨sp, r, rfl, h_11⟩ := popI_of h_10
        obtain ⟨j, g, r, rfl, h_12⟩ := popR_of h_11
        obtain ⟨hb, ks, kd', kn, rfl, rfl, rfl, h1, h2, h3, h_13⟩ := cond_of h_12
        simp only [Bool.and_eq_true] at hb
        exact s_copy C hfc hd1 hl (Nat.le_of_ble_eq_true hb.2) (Nat.eq_of_beq_eq_true hb.1.2) (Nat.eq_of_beq_eq_true hb.1.1) h1 h2 h3 h_13
      · exact h.elim
  case invokespecial ix =>
    obtain ⟨hd1, rfl⟩ := dec_of hd hlen rfl (Nat.succ_pos _)
    simp only [G] at h
    split at h
    · exact h.elim
    · rename_i kd Z na hl
      split at h
      · obtain ⟨hr, h_1⟩ := cond_of h
        cases hp : popN (na + 1) st [] with
        | none => rw [hp] at h_1; exact h_1.elim
        | some q =>
          obtain ⟨as, rest⟩ := q
          rw [hp] at h_1 hr
          obtain ⟨g1, g2, g3, g4, K', hcall, hK⟩ := goC_of h_1
          exact s_goI C hX (Or.inl rfl) hd1 hl hp hr g1 g2 g3 (hC Z as K' (lkP hl) (ckN0 hl (Or.inr (Or.inr (Or.inl rfl)))) g4 hcall) hK
      · obtain ⟨hr, h_2⟩ := cond_of h
        cases hp : popN (na + 1) st [] with
        | none => rw [hp] at h_2; exact h_2.elim
        | some q =>
          obtain ⟨as, rest⟩ := q
          rw [hp] at h_2 hr
          obtain ⟨g1, g2, g3, g4, K', hcall, hK⟩ := goC_of h_2
          exact s_goI C hX (Or.inr rfl) hd1 hl hp hr g1 g2 g3 (hC Z as K' (lkP hl) (ckN0 hl (Or.inr (Or.inr (Or.inr (Or.inr rfl))))) g4 hcall) hK
      · obtain ⟨j, g, r, rfl, h_3⟩ := popR_of h
        obtain ⟨hb, h_4⟩ := cond_of h_3
        exact s_obj C hd1 hl (Nat.le_of_ble_eq_true hb) h_4
      · exact h.elim
  case ireturn =>
    obtain ⟨hd1, rfl⟩ := dec_of hd hlen rfl (Nat.succ_pos _)
    simp only [G] at h
    split at h
    · split at h
      · rename_i x rk hrk
        exact s_ret hR hd1 (v := some (aI x)) (Or.inl ⟨rfl, x, rfl, Or.inl hrk⟩) h
      · rename_i x rk hrk
        exact s_ret hR hd1 (v := some (aI x)) (Or.inl ⟨rfl, x, rfl, Or.inr ⟨hrk, h.1⟩⟩) h.2
      · exact h.elim
    · exact h.elim
  case lreturn =>
    obtain ⟨hd1, rfl⟩ := dec_of hd hlen rfl (Nat.succ_pos _)
    simp only [G] at h
    split at h
    · split at h
      · rename_i x rk hrk
        exact s_ret hR hd1 (v := some (aL x)) (Or.inr (Or.inl ⟨rfl, hrk, x, rfl⟩)) h
      · exact h.elim
    · exact h.elim
  case areturn =>
    obtain ⟨hd1, rfl⟩ := dec_of hd hlen rfl (Nat.succ_pos _)
    simp only [G] at h
    split at h
    · split at h
      · rename_i q rk hrk
        exact s_ret hR hd1 (v := some (Sum.inr (Sum.inr q))) (Or.inr (Or.inr (Or.inl ⟨rfl, hrk, q, rfl⟩))) h
      · exact h.elim
    · exact h.elim
  case return_ =>
    obtain ⟨hd1, rfl⟩ := dec_of hd hlen rfl (Nat.succ_pos _)
    simp only [G] at h
    split at h
    · split at h
      · rename_i rk hrk
        exact s_ret hR hd1 (v := none) (Or.inr (Or.inr (Or.inr ⟨rfl, hrk, rfl⟩))) h
      · exact h.elim
    · exact h.elim
end SNL
end
section
/-! SOUNDNESS: a run of AM is a contract -/
theorem mkL_len : ∀ (n : Nat) (as : List AV), (mkL n as).length = n
  | 0, _ => rfl
  | n + 1, [] => by simp [mkL, mkL_len n []]
  | 1, v :: r => by
    unfold mkL
    split <;> rfl
  | n + 2, v :: r => by
    unfold mkL
    split
    · simp [mkL_len n r]
    · simp [mkL_len (n + 1) r]
theorem mkL_in : ∀ (n : Nat) (as : List AV) (k : Nat) (v : AV), nth (mkL n as) k = some (some v) → v ∈ as
  | 0, _, k, v, h => by simp [mkL, nth] at h
  | n + 1, [], 0, v, h => by simp [mkL, nth] at h
  | n + 1, [], k + 1, v, h => by
    simp only [mkL, nth] at h
    exact mkL_in n [] k v h
  | 1, u :: r, 0, v, h => by
    unfold mkL at h
    split at h <;> (simp only [nth, Option.some.injEq] at h; rw [h]; exact List.mem_cons_self)
  | 1, u :: r, k + 1, v, h => by
    unfold mkL at h
    split at h <;> simp [nth, mkL] at h
  | n + 2, u :: r, 0, v, h => by
    unfold mkL at h
    split at h <;> (simp only [nth, Option.some.injEq] at h; rw [h]; exact List.mem_cons_self)
  | n + 2, u :: r, k + 1, v, h => by
    unfold mkL at h
    split at h
    · cases k with
      | zero => simp [nth] at h
      | succ k => exact List.mem_cons_of_mem _ (mkL_in n r k v h)
    · exact List.mem_cons_of_mem _ (mkL_in (n + 1) r k v h)
theorem lvl_mkL {E : Env0} : ∀ (n : Nat) (as : List AV) (k : Nat), ∀ q ∈ lvl E (mkL n as) k, q ∈ lv_args k (as.map (cv E))
  | 0, _, k, q, h => by simp [mkL, lvl] at h
  | n + 1, [], k, q, h => by
    simp only [mkL, lvl] at h
    have := lvl_mkL n [] (k + 1) q h
    simp [lv_args] at this
  | 1, v :: r, k, q, h => by
    unfold mkL at h
    split at h <;> (simp [lvl, mkL] at h; subst h; exact List.mem_cons_self)
  | n + 2, v :: r, k, q, h => by
    unfold mkL at h
    split at h
    · simp only [lvl] at h
      rcases List.mem_cons.mp h with h | h
      · rw [h]; exact List.mem_cons_self
      · refine List.mem_cons_of_mem _ ?_
        exact lvl_mkL n r (k + 1 + 1) q h
    · rename_i hv
      simp only [lvl] at h
      rcases List.mem_cons.mp h with h | h
      · rw [h]; exact List.mem_cons_self
      · refine List.mem_cons_of_mem _ ?_
        have h1 := lvl_mkL (n + 1) r (k + 1) q h
        have hc : ¬ (cv E v).category = 2 := by
          intro z
          have := cv_cat.mp z
          rcases v with x | x | x | x
          · simp [isJ] at this
          · exact hv x rfl
          · simp [isJ] at this
          · simp [isJ] at this
        simp only [hc, if_false]
        exact h1
theorem sl_len {E : Env0} (as : List AV) : (lg_sl (as.map (cv E))).length = catS as := by
  induction as with
  | nil => rfl
  | cons v r ih =>
    simp only [List.map_cons, lg_sl, List.flatMap_cons, List.length_append, catS]
    have : (List.flatMap (fun v => if v.category = 2 then [Slot.val v, Slot.second] else [Slot.val v]) (r.map (cv E))).length = catS r := ih
    rw [this]
    rcases v with x | x | x | x <;> simp [cv, Value.category]
theorem ret_ty {Y : MT} (h : ckN Y = true) {k : Nat} (hk : Y.1.2.2.2.2 = k) : (k = 0 → Y.2.2.2.2 = none) ∧ (k = 1 → Y.2.2.2.2 = some .int) ∧ (k = 2 → Y.2.2.2.2 = some .long) ∧ (k = 3 → ∃ C, Y.2.2.2.2 = some (.object C)) ∧ (k = 4 → Y.2.2.2.2 = some .boolean) := by
  have := (ckN_of h).2.2.2.2.1
  rw [hk] at this
  unfold rkOf at this
  split at this <;> (rename_i hr; refine ⟨fun z => ?_, fun z => ?_, fun z => ?_, fun z => ?_, fun z => ?_⟩ <;> first | exact hr | exact ⟨_, hr⟩ | (subst z; simp at this; done))
set_option maxHeartbeats 1000000 in
theorem sound {E : Env0} {X : State → Prop} {l : Launch} (hX : Xok E X) : ∀ (d : Nat) {S : St} (Z : MT) (as : List AV) (K : KT), ckP Z → ckN Z = true → catS as ≤ Z.2.2.2.1 → Call d Z as S K → MetC E X l d Z as S K := by
  intro d
  induction d with
  | zero => intro S Z as K _ _ _ h; exact h.elim
  | succ d ih =>
    intro S Z as K hP hN hfit h
    obtain ⟨n1, n2, n3, n4, n5, n6⟩ := ckN_of hN
    refine Met.ofW (cc := Z.2.2.1) (maxL := Z.2.2.2.1) (ret := Z.2.2.2.2) n2 rfl ?_
    intro p e s m args below meth c s₁ B hml hv
    obtain ⟨rfl, hR, hSt, hlv⟩ := hv
    have hts := atoms_spec (ws := wsM Z) B.pre
    have hown : s.vm.findClass (own8 Z.1.2.1) = some m.cls := by
      rw [← n1]
      exact findClass_of_methodNamed B.named
    have C : Ctx E X Z d p (headSpec (wsM Z) (rmOf (d + 1) Z)).room s m (as.map (cv E)).toArray meth c :=
      ⟨B.exec, B.bytes, hml, hown, fun w hw => hts w (List.mem_cons_of_mem _ hw), hP, hSt, (by show d + 9 ≤ d + 1 + 8; omega), (by show 64 * d + 664 ≤ 64 * (d + 1) + 600; omega), Nat.le_refl _, Nat.le_refl _, fun z => by rw [(name_of_methodNamed B.named B.method).1]; exact z⟩
    have hlocks := B.notSynchronized
    have hret := B.returns
    have hHR : HRet E Z S.2.2.2.2 p l e (headSpec (wsM Z) (rmOf (d + 1) Z)).room s m (as.map (cv E)).toArray below meth c (MQ below (fun _ st o t => QcT E S K st o t) (as.map (cv E)).toArray s Z.1.2.2.1 Z.1.2.2.2.1 (baseA E)) K := by
      intro pc fc fs S' H locs ls i v hd hri hK hR' hlv' hS hn hfc hfs
      refine W.widen hfc hfs ?_
      have hq : ∀ t : State, t.heap = H → s.WarmedH t.vm → QcT E S K s (.returned (v.map (cv E))) t := fun t ht _ => ⟨⟨v, S', hK, rfl, by rw [ht]; exact hR', hlv', hn⟩, hS.F ht⟩
      have hty := ret_ty hN (k := Z.1.2.2.2.2) rfl
      rcases hri with ⟨rfl, x, rfl, hx | ⟨hx, h01⟩⟩ | ⟨rfl, hx, x, rfl⟩ | ⟨rfl, hx, q, rfl⟩ | ⟨rfl, hx, rfl⟩
      · exact W.iret (v := x) B.exec B.bytes (by rw [hret]; exact hty.2.1 hx) (fun t a b => hq t a b) hS.2.2 hd
      · exact W.zret (v := x) (ty := .boolean) B.exec B.bytes (by rw [hret]; exact hty.2.2.2.2 hx) (by rcases h01 with rfl | rfl <;> decide) (fun t a b => hq t a b) hS.2.2 hd
      · exact W.lret (v := x) B.exec B.bytes (by rw [hret]; exact hty.2.2.1 hx) (fun t a b => hq t a b) hS.2.2 hd
      · obtain ⟨Cn, hCn⟩ := hty.2.2.2.1 hx
        rcases q with _ | q
        · exact W.aret (v := .null) B.exec B.bytes (by rw [hret]; exact hCn) (Or.inl ⟨Cn, rfl⟩) (Or.inl rfl) (fun t a b => hq t a b) hS.2.2 hd
        · exact W.aret (v := .ref (adr E q.1 q.2)) B.exec B.bytes (by rw [hret]; exact hCn) (Or.inl ⟨Cn, rfl⟩) (Or.inr ⟨_, rfl⟩) (fun t a b => hq t a b) hS.2.2 hd
      · exact W.vret B.exec B.bytes (by rw [hret]; exact hty.1 hx) (fun t a b => hq t a b) hS.2.2 hd
    have hst := step (n0 := S.2.2.2.2) (below := below) (l := l) (e := e) (call := Call d) (K := K) C hX hHR (fun {S'} Z' as' K' a b c0 h' => ih Z' as' K' a b c0 h')
    have hps := h _ hst
    rw [lg_entry_eq]
    have hle : (lg_sl (as.map (cv E))).length ≤ Z.2.2.2.1 := by rw [sl_len]; exact hfit
    have hl := lv_entry (as.map (cv E)) (n := Z.2.2.2.1) hle
    exact hps s.heap [] _ hR ⟨⟨hl.1, hl.2.1, fun q hq => hl.2.2 q (lvl_mkL _ _ _ q hq)⟩, mkL_len _ _⟩ (fun k v hk => hlv v (mkL_in _ _ k v hk)) (fun v hv => absurd hv List.not_mem_nil) va_S.rf (Nat.le_refl _) (Nat.zero_le _) (Nat.zero_le _) (fun _ => by rw [hR.1, Nat.add_zero])
end
section
/-! WHAT THE METHODS DO -/
/-- the references that are set for good -/
def nnr (j k : Nat) : Bool := cond (Nat.ble (clsP j) 6) (Nat.beq (fty (clsP j) k) 2 && Nat.ble (k + 1) (nFl (clsP j))) (Nat.ble 1 (rfk j) && !(Nat.beq j 3) && Nat.ble (k + 1) (aln (fun _ => 0) j 0))
def NN (S : St) : Prop := ∀ j g k, nnr j k = true → S.2.2.1 j g k = true
/-- a sum -/
def sm (f : Nat → Int32) : Nat → Int32
  | 0 => 0
  | n + 1 => sm f n + f n
theorem ix5 (a b : Nat) : nI a * 5 + nI b = nI (5 * a + b) := by
  rw [show (5 : Int32) = nI 5 from rfl, pk_mul, nI_add, Nat.mul_comm]
theorem sp_owing {d : Nat} {S : St} {K : KT} {f a b : Nat} (hd : 1 ≤ d) (hN : NN S) (ha : a < 5) (hb : b < 5) (h : K (some (aI (S.1 14 f (5 * a + b)))) S) : Call d m_X0_owing [aR 10 f, aI (nI a), aI (nI b)] S K := by
  refine Call.of (k := 0) hd (fun e he P hP => ?_)
  repeat (first | (refine hP _ _ _ _ _ _ ?_; show P _ _ _ _ _ _) | refine hP _ _ _ _ _ _ (And.intro (hN _ _ _ rfl) ?_))
  refine hP _ _ _ _ _ _ (Exists.intro (5 * a + b) (And.intro (And.intro (ix5 a b) (by show _ < 25; omega)) ?_))
  exact hP _ _ _ _ _ _ h
theorem sp_owes {d : Nat} {S : St} {K : KT} {f a n : Nat} (hd : 1 ≤ d) (hN : NN S) (hn : n ≤ 5) (hnn : S.1 10 f 1 = nI n) (ha : a < 5) (h : K (some (aI (sm (fun o => S.1 14 f (5 * a + o)) n))) S) : Call d m_X0_owes [aR 10 f, aI (nI a)] S K := by
  refine Call.of (k := 0) hd (fun e he P hP => ?_)
  have loop : ∀ m k, k + m = n → P 9 [some (aR 10 f), some (aI (nI a)), some (aI (sm (fun o => S.1 14 f (5 * a + o)) k)), some (aI (nI k))] [aI (S.1 10 f 1), aI (nI k)] S 0 0 := by
    intro m
    induction m with
    | zero =>
      intro k hk
      refine hP _ _ _ _ _ _ (And.intro (fun hc => ?_) (fun hc => ?_))
      · repeat (refine hP _ _ _ _ _ _ ?_; show P _ _ _ _ _ _)
        obtain rfl : k = n := by omega
        exact hP _ _ _ _ _ _ h
      · exact absurd (by rw [hnn]; exact nI_le (by omega) (by omega)) hc
    | succ m ih =>
      intro k hk
      refine hP _ _ _ _ _ _ (And.intro (fun hc => ?_) (fun hc => ?_))
      · exact absurd hc (by rw [hnn]; exact nI_ge (by omega) (by omega))
      · repeat (first | (refine hP _ _ _ _ _ _ ?_; show P _ _ _ _ _ _) | refine hP _ _ _ _ _ _ (And.intro (hN _ _ _ rfl) ?_))
        refine hP _ _ _ _ _ _ (Exists.intro (5 * a + k) (And.intro (And.intro (ix5 a k) (by show _ < 25; omega)) ?_))
        repeat (first | (refine hP _ _ _ _ _ _ ?_; show P _ _ _ _ _ _) | refine hP _ _ _ _ _ _ (And.intro (hN _ _ _ rfl) ?_))
        have := ih (k + 1) (by omega)
        rw [nI_succ] at this
        exact this
  repeat (refine hP _ _ _ _ _ _ ?_; show P _ _ _ _ _ _)
  exact loop n 0 (by omega)
end
