/-! THE TABLES' WORDS behind every link -/
theorem gi_r {big : List Cond} (ws : List Cond) (ps : List Nat) (hp : ws = ps.filterMap (fun i => big[i]?)) (h : ws.all goodWord = true) : GoodIn big ws := by
  intro w hw
  have h1 := List.all_eq_true.mp h w hw
  rw [hp] at hw
  obtain ⟨i, -, hi⟩ := List.mem_filterMap.mp hw
  have hm : w ∈ big := by first | exact List.mem_of_getElem? hi | exact List.getElem?_mem hi
  exact ⟨hm, good_of_word h1⟩
def wC (Z : MT) : Cond := .code Z.2.1 Z.2.2.1 Z.2.2.2.1 Z.2.2.2.2
def lwords (own idx : Nat) (e : LK) : List Cond := match e.1 with
  | 0 => [.methodLink (own8 own) idx e.2.1.2.1, .instanceMethod e.2.1.2.1, .selects e.2.1.2.1.cls e.2.1.2.1 e.2.1.2.1, .initialized e.2.1.2.1.cls, wC e.2.1]
  | 1 => [.methodLink (own8 own) idx e.2.1.2.1, .static e.2.1.2.1, .initialized e.2.1.2.1.cls, wC e.2.1]
  | 2 => [.methodLink (own8 own) idx e.2.1.2.1, .instanceMethod e.2.1.2.1, .initialized e.2.1.2.1.cls, wC e.2.1]
  | 3 => [.methodLink (own8 own) idx objectInit, .instanceMethod objectInit, .code objectInit ⟨#[0xb1]⟩ 1 none]
  | 4 => [.methodLink (own8 own) idx Lib.Math.min.name, .static Lib.Math.min.name, .initialized "java/lang/Math", .code Lib.Math.min.name Lib.Math.min.code 2 (some .int)]
  | 5 => [.methodLink (own8 own) idx Lib.Math.max.name, .static Lib.Math.max.name, .initialized "java/lang/Math", .code Lib.Math.max.name Lib.Math.max.code 2 (some .int)]
  | 6 => [.methodLink (own8 own) idx arraycopyName, .native arraycopyName, .static arraycopyName, .initialized "java/lang/System"]
  | 7 => [.methodLink (own8 own) idx ⟨"[I", "clone", "()Ljava/lang/Object;"⟩, .sameMethod "[I" "java/lang/Object" "clone" "()Ljava/lang/Object;", .native ⟨"java/lang/Object", "clone", "()Ljava/lang/Object;"⟩, .instanceMethod ⟨"java/lang/Object", "clone", "()Ljava/lang/Object;"⟩, .selects "[I" ⟨"[I", "clone", "()Ljava/lang/Object;"⟩ ⟨"java/lang/Object", "clone", "()Ljava/lang/Object;"⟩]
  | 11 => [.static e.2.1.2.1, .initialized e.2.1.2.1.cls, wC e.2.1]
  | 12 => [.instanceMethod e.2.1.2.1, .initialized e.2.1.2.1.cls, wC e.2.1]
  | _ => []
def enum {α : Type} : List α → Nat → List (Nat × α)
  | [], _ => []
  | a :: l, n => (n, a) :: enum l (n + 1)
theorem enum_nth {α : Type} : ∀ (l : List α) (n i : Nat) (a : α), nth l i = some a → (n + i, a) ∈ enum l n
  | [], _, _, _, h => by simp [nth] at h
  | b :: l, n, 0, a, h => by
    simp only [nth, Option.some.injEq] at h
    subst h
    exact List.mem_cons_self
  | b :: l, n, i + 1, a, h => by
    have h1 := enum_nth l (n + 1) i a h
    have e : n + 1 + i = n + (i + 1) := by omega
    rw [e] at h1
    exact List.mem_cons_of_mem _ h1
theorem lkp_mem {α : Type} : ∀ (l : List (Nat × α)) (i : Nat) (a : α), lkp l i = some a → (i, a) ∈ l
  | [], _, _, h => by simp [lkp] at h
  | b :: l, i, a, h => by
    simp only [lkp] at h
    by_cases hb : Nat.beq b.1 i = true
    · rw [hb] at h
      simp only [cond_true, Option.some.injEq] at h
      have := Nat.eq_of_beq_eq_true hb
      subst this
      subst h
      exact List.mem_cons_self
    · have hb : Nat.beq b.1 i = false := Bool.eq_false_iff.mpr hb
      rw [hb] at h
      exact List.mem_cons_of_mem _ (lkp_mem l i a h)
/-- all that a table of links says -/
def allT {α : Type} (T : List (List (Nat × α))) (f : Nat → Nat → α → List Cond) : List Cond := (enum T 0).flatMap fun q => q.2.flatMap fun e => f q.1 e.1 e.2
theorem allT_in {α : Type} {T : List (List (Nat × α))} {f : Nat → Nat → α → List Cond} {own idx : Nat} {l : List (Nat × α)} {e : α} (h1 : nth T own = some l) (h2 : lkp l idx = some e) {w : Cond} (hw : w ∈ f own idx e) : w ∈ allT T f := by
  refine List.mem_flatMap.mpr ⟨(own, l), ?_, List.mem_flatMap.mpr ⟨(idx, e), lkp_mem l idx e h2, hw⟩⟩
  have := enum_nth T 0 own l h1
  simpa using this
theorem lw_0_3 : GoodIn lw_tbl (lwords 0 3 (3, m_none, 0)) := gi_r _ [78, 33, 34] (by decide +kernel) (by decide +kernel)
theorem lw_0_50 : GoodIn lw_tbl (lwords 0 50 (6, m_none, 5)) := gi_r _ [343, 345, 344, 24] (by decide +kernel) (by decide +kernel)
theorem lw_0_56 : GoodIn lw_tbl (lwords 0 56 (0, m_X0_owes, 1)) := gi_r _ [350, 250, 251, 21, 252] (by decide +kernel) (by decide +kernel)
theorem lw_0_65 : GoodIn lw_tbl (lwords 0 65 (0, m_X0_owedTo, 1)) := gi_r _ [238, 239, 240, 21, 241] (by decide +kernel) (by decide +kernel)
theorem lw_0_68 : GoodIn lw_tbl (lwords 0 68 (0, m_X2_value, 2)) := gi_r _ [242, 243, 244, 19, 245] (by decide +kernel) (by decide +kernel)
theorem lw_0_75 : GoodIn lw_tbl (lwords 0 75 (0, m_X0_value, 3)) := gi_r _ [234, 236, 3, 21, 237] (by decide +kernel) (by decide +kernel)
theorem lw_0_78 : GoodIn lw_tbl (lwords 0 78 (0, m_X0_owing, 2)) := gi_r _ [279, 268, 269, 21, 270] (by decide +kernel) (by decide +kernel)
theorem lw_0_81 : GoodIn lw_tbl (lwords 0 81 (0, m_X0_will, 2)) := gi_r _ [284, 276, 277, 21, 278] (by decide +kernel) (by decide +kernel)
theorem lw_0_85 : GoodIn lw_tbl (lwords 0 85 (0, m_X0_breath, 1)) := gi_r _ [285, 231, 232, 21, 233] (by decide +kernel) (by decide +kernel)
theorem lw_0_88 : GoodIn lw_tbl (lwords 0 88 (0, m_X0_pays, 2)) := gi_r _ [301, 272, 273, 21, 274] (by decide +kernel) (by decide +kernel)
theorem lw_0_91 : GoodIn lw_tbl (lwords 0 91 (0, m_X0_settle, 4)) := gi_r _ [302, 304, 4, 21, 305] (by decide +kernel) (by decide +kernel)
theorem lw_0_95 : GoodIn lw_tbl (lwords 0 95 (0, m_X0_lessen, 3)) := gi_r _ [306, 307, 308, 21, 309] (by decide +kernel) (by decide +kernel)
theorem lw_0_99 : GoodIn lw_tbl (lwords 0 99 (4, m_none, 2)) := gi_r _ [310, 311, 25, 312] (by decide +kernel) (by decide +kernel)
theorem lw_0_110 : GoodIn lw_tbl (lwords 0 110 (0, m_X0_may, 2)) := gi_r _ [296, 281, 282, 21, 283] (by decide +kernel) (by decide +kernel)
theorem lw_0_113 : GoodIn lw_tbl (lwords 0 113 (0, m_X0_step, 2)) := gi_r _ [297, 298, 299, 21, 300] (by decide +kernel) (by decide +kernel)
theorem lw_0_116 : GoodIn lw_tbl (lwords 0 116 (0, m_X0_danceRound, 0)) := gi_r _ [419, 291, 292, 21, 293] (by decide +kernel) (by decide +kernel)
theorem lw_0_121 : GoodIn lw_tbl (lwords 0 121 (5, m_none, 2)) := gi_r _ [394, 395, 25, 396] (by decide +kernel) (by decide +kernel)
theorem lw_0_124 : GoodIn lw_tbl (lwords 0 124 (0, m_X0_longest, 4)) := gi_r _ [411, 413, 10, 21, 414] (by decide +kernel) (by decide +kernel)
theorem lw_0_134 : GoodIn lw_tbl (lwords 0 134 (0, m_X0_mayAll, 1)) := gi_r _ [369, 370, 371, 21, 372] (by decide +kernel) (by decide +kernel)
theorem lw_0_138 : GoodIn lw_tbl (lwords 0 138 (0, m_X0_paidBy, 1)) := gi_r _ [373, 374, 375, 21, 376] (by decide +kernel) (by decide +kernel)
theorem lw_0_149 : GoodIn lw_tbl (lwords 0 149 (0, m_X0_firstOtherwise, 2)) := gi_r _ [451, 440, 441, 21, 442] (by decide +kernel) (by decide +kernel)
theorem lw_0_72 : GoodIn lw_tbl (lwords 0 72 (11, m_X5_within, 2)) := gi_r _ [247, 18, 248] (by decide +kernel) (by decide +kernel)
theorem lwA_0 : ∀ q ∈ lnk_0, GoodIn lw_tbl (lwords 0 q.1 q.2) := List.forall_mem_cons.mpr ⟨lw_0_3, List.forall_mem_cons.mpr ⟨lw_0_50, List.forall_mem_cons.mpr ⟨lw_0_56, List.forall_mem_cons.mpr ⟨lw_0_65, List.forall_mem_cons.mpr ⟨lw_0_68, List.forall_mem_cons.mpr ⟨lw_0_75, List.forall_mem_cons.mpr ⟨lw_0_78, List.forall_mem_cons.mpr ⟨lw_0_81, List.forall_mem_cons.mpr ⟨lw_0_85, List.forall_mem_cons.mpr ⟨lw_0_88, List.forall_mem_cons.mpr ⟨lw_0_91, List.forall_mem_cons.mpr ⟨lw_0_95, List.forall_mem_cons.mpr ⟨lw_0_99, List.forall_mem_cons.mpr ⟨lw_0_110, List.forall_mem_cons.mpr ⟨lw_0_113, List.forall_mem_cons.mpr ⟨lw_0_116, List.forall_mem_cons.mpr ⟨lw_0_121, List.forall_mem_cons.mpr ⟨lw_0_124, List.forall_mem_cons.mpr ⟨lw_0_134, List.forall_mem_cons.mpr ⟨lw_0_138, List.forall_mem_cons.mpr ⟨lw_0_149, List.forall_mem_cons.mpr ⟨lw_0_72, fun _ h => absurd h List.not_mem_nil⟩⟩⟩⟩⟩⟩⟩⟩⟩⟩⟩⟩⟩⟩⟩⟩⟩⟩⟩⟩⟩⟩
theorem lw_1_3 : GoodIn lw_tbl (lwords 1 3 (3, m_none, 0)) := gi_r _ [136, 33, 34] (by decide +kernel) (by decide +kernel)
theorem lwA_1 : ∀ q ∈ lnk_1, GoodIn lw_tbl (lwords 1 q.1 q.2) := List.forall_mem_cons.mpr ⟨lw_1_3, fun _ h => absurd h List.not_mem_nil⟩
theorem lw_2_3 : GoodIn lw_tbl (lwords 2 3 (3, m_none, 0)) := gi_r _ [40, 33, 34] (by decide +kernel) (by decide +kernel)
theorem lw_2_24 : GoodIn lw_tbl (lwords 2 24 (2, m_X4_init, 2)) := gi_r _ [44, 45, 20, 46] (by decide +kernel) (by decide +kernel)
theorem lwA_2 : ∀ q ∈ lnk_2, GoodIn lw_tbl (lwords 2 q.1 q.2) := List.forall_mem_cons.mpr ⟨lw_2_3, List.forall_mem_cons.mpr ⟨lw_2_24, fun _ h => absurd h List.not_mem_nil⟩⟩
theorem lw_3_3 : GoodIn lw_tbl (lwords 3 3 (3, m_none, 0)) := gi_r _ [168, 33, 34] (by decide +kernel) (by decide +kernel)
theorem lwA_3 : ∀ q ∈ lnk_3, GoodIn lw_tbl (lwords 3 q.1 q.2) := List.forall_mem_cons.mpr ⟨lw_3_3, fun _ h => absurd h List.not_mem_nil⟩
theorem lw_4_1 : GoodIn lw_tbl (lwords 4 1 (3, m_none, 0)) := gi_r _ [47, 33, 34] (by decide +kernel) (by decide +kernel)
theorem lwA_4 : ∀ q ∈ lnk_4, GoodIn lw_tbl (lwords 4 q.1 q.2) := List.forall_mem_cons.mpr ⟨lw_4_1, fun _ h => absurd h List.not_mem_nil⟩
theorem lw_5_1 : GoodIn lw_tbl (lwords 5 1 (3, m_none, 0)) := gi_r _ [32, 33, 34] (by decide +kernel) (by decide +kernel)
theorem lw_5_9 : GoodIn lw_tbl (lwords 5 9 (2, m_X2_init, 0)) := gi_r _ [37, 38, 19, 39] (by decide +kernel) (by decide +kernel)
theorem lw_5_18 : GoodIn lw_tbl (lwords 5 18 (2, m_X0_init, 1)) := gi_r _ [75, 76, 21, 77] (by decide +kernel) (by decide +kernel)
theorem lw_5_53 : GoodIn lw_tbl (lwords 5 53 (0, m_X5_told, 2)) := gi_r _ [214, 215, 216, 18, 217] (by decide +kernel) (by decide +kernel)
theorem lw_5_73 : GoodIn lw_tbl (lwords 5 73 (0, m_X5_debtPlace, 1)) := gi_r _ [218, 220, 0, 18, 221] (by decide +kernel) (by decide +kernel)
theorem lw_5_80 : GoodIn lw_tbl (lwords 5 80 (0, m_X0_join, 2)) := gi_r _ [258, 259, 260, 21, 261] (by decide +kernel) (by decide +kernel)
theorem lw_5_83 : GoodIn lw_tbl (lwords 5 83 (0, m_X5_isDancer, 1)) := gi_r _ [226, 228, 2, 18, 229] (by decide +kernel) (by decide +kernel)
theorem lw_5_90 : GoodIn lw_tbl (lwords 5 90 (0, m_X0_breath, 1)) := gi_r _ [230, 231, 232, 21, 233] (by decide +kernel) (by decide +kernel)
theorem lw_5_93 : GoodIn lw_tbl (lwords 5 93 (0, m_X0_owes, 1)) := gi_r _ [249, 250, 251, 21, 252] (by decide +kernel) (by decide +kernel)
theorem lw_5_96 : GoodIn lw_tbl (lwords 5 96 (0, m_X0_owedTo, 1)) := gi_r _ [253, 239, 240, 21, 241] (by decide +kernel) (by decide +kernel)
theorem lw_5_99 : GoodIn lw_tbl (lwords 5 99 (0, m_X5_isTwo, 2)) := gi_r _ [222, 224, 1, 18, 225] (by decide +kernel) (by decide +kernel)
theorem lw_5_103 : GoodIn lw_tbl (lwords 5 103 (0, m_X0_owing, 2)) := gi_r _ [267, 268, 269, 21, 270] (by decide +kernel) (by decide +kernel)
theorem lw_5_106 : GoodIn lw_tbl (lwords 5 106 (0, m_X0_pays, 2)) := gi_r _ [271, 272, 273, 21, 274] (by decide +kernel) (by decide +kernel)
theorem lw_5_109 : GoodIn lw_tbl (lwords 5 109 (0, m_X0_will, 2)) := gi_r _ [275, 276, 277, 21, 278] (by decide +kernel) (by decide +kernel)
theorem lw_5_112 : GoodIn lw_tbl (lwords 5 112 (0, m_X0_may, 2)) := gi_r _ [280, 281, 282, 21, 283] (by decide +kernel) (by decide +kernel)
theorem lw_5_141 : GoodIn lw_tbl (lwords 5 141 (0, m_X0_danceRound, 0)) := gi_r _ [290, 291, 292, 21, 293] (by decide +kernel) (by decide +kernel)
theorem lw_5_145 : GoodIn lw_tbl (lwords 5 145 (0, m_X0_endNight, 0)) := gi_r _ [317, 318, 319, 21, 320] (by decide +kernel) (by decide +kernel)
theorem lw_5_148 : GoodIn lw_tbl (lwords 5 148 (0, m_X5_readRing, 1)) := gi_r _ [325, 327, 5, 18, 328] (by decide +kernel) (by decide +kernel)
theorem lw_5_151 : GoodIn lw_tbl (lwords 5 151 (4, m_none, 2)) := gi_r _ [329, 311, 25, 312] (by decide +kernel) (by decide +kernel)
theorem lw_5_156 : GoodIn lw_tbl (lwords 5 156 (0, m_X0_lessen, 3)) := gi_r _ [330, 307, 308, 21, 309] (by decide +kernel) (by decide +kernel)
theorem lw_5_160 : GoodIn lw_tbl (lwords 5 160 (0, m_X5_think, 0)) := gi_r _ [335, 337, 6, 18, 338] (by decide +kernel) (by decide +kernel)
theorem lw_5_164 : GoodIn lw_tbl (lwords 5 164 (0, m_X0_all, 0)) := gi_r _ [346, 347, 348, 21, 349] (by decide +kernel) (by decide +kernel)
theorem lw_5_167 : GoodIn lw_tbl (lwords 5 167 (0, m_X0_stillOwed, 0)) := gi_r _ [351, 352, 353, 21, 354] (by decide +kernel) (by decide +kernel)
theorem lw_5_170 : GoodIn lw_tbl (lwords 5 170 (0, m_X0_takeFrom, 1)) := gi_r _ [339, 340, 341, 21, 342] (by decide +kernel) (by decide +kernel)
theorem lw_5_174 : GoodIn lw_tbl (lwords 5 174 (0, m_X0_weigh, 0)) := gi_r _ [359, 360, 361, 21, 362] (by decide +kernel) (by decide +kernel)
theorem lw_5_177 : GoodIn lw_tbl (lwords 5 177 (0, m_X0_bestSet, 0)) := gi_r _ [363, 364, 365, 21, 366] (by decide +kernel) (by decide +kernel)
theorem lw_5_180 : GoodIn lw_tbl (lwords 5 180 (0, m_X0_paidBy, 1)) := gi_r _ [377, 374, 375, 21, 376] (by decide +kernel) (by decide +kernel)
theorem lw_5_183 : GoodIn lw_tbl (lwords 5 183 (0, m_X5_sitters, 0)) := gi_r _ [378, 380, 7, 18, 381] (by decide +kernel) (by decide +kernel)
theorem lw_5_186 : GoodIn lw_tbl (lwords 5 186 (0, m_X5_soonest, 0)) := gi_r _ [382, 384, 8, 18, 385] (by decide +kernel) (by decide +kernel)
theorem lw_5_189 : GoodIn lw_tbl (lwords 5 189 (0, m_X0_least, 0)) := gi_r _ [403, 404, 405, 21, 406] (by decide +kernel) (by decide +kernel)
theorem lw_5_192 : GoodIn lw_tbl (lwords 5 192 (0, m_X0_ring, 0)) := gi_r _ [407, 408, 409, 21, 410] (by decide +kernel) (by decide +kernel)
theorem lw_5_194 : GoodIn lw_tbl (lwords 5 194 (0, m_X0_ends, 0)) := gi_r _ [415, 416, 417, 21, 418] (by decide +kernel) (by decide +kernel)
theorem lw_5_197 : GoodIn lw_tbl (lwords 5 197 (0, m_X0_keeps, 0)) := gi_r _ [420, 421, 422, 21, 423] (by decide +kernel) (by decide +kernel)
theorem lw_5_202 : GoodIn lw_tbl (lwords 5 202 (1, m_X5_lowest, 3)) := gi_r _ [429, 430, 18, 431] (by decide +kernel) (by decide +kernel)
theorem lw_5_209 : GoodIn lw_tbl (lwords 5 209 (0, m_X5_clears, 2)) := gi_r _ [386, 388, 9, 18, 389] (by decide +kernel) (by decide +kernel)
theorem lw_5_212 : GoodIn lw_tbl (lwords 5 212 (0, m_X0_mostToMeet, 0)) := gi_r _ [390, 391, 392, 21, 393] (by decide +kernel) (by decide +kernel)
theorem lw_5_218 : GoodIn lw_tbl (lwords 5 218 (0, m_X0_mayAll, 1)) := gi_r _ [398, 370, 371, 21, 372] (by decide +kernel) (by decide +kernel)
theorem lw_5_221 : GoodIn lw_tbl (lwords 5 221 (0, m_X0_danceSet, 2)) := gi_r _ [399, 400, 401, 21, 402] (by decide +kernel) (by decide +kernel)
theorem lw_5_225 : GoodIn lw_tbl (lwords 5 225 (1, m_X5_isSheet, 1)) := gi_r _ [436, 437, 18, 438] (by decide +kernel) (by decide +kernel)
theorem lw_5_232 : GoodIn lw_tbl (lwords 5 232 (0, m_X0_firstOtherwise, 2)) := gi_r _ [439, 440, 441, 21, 442] (by decide +kernel) (by decide +kernel)
theorem lw_5_236 : GoodIn lw_tbl (lwords 5 236 (0, m_X5_kindsTold, 2)) := gi_r _ [443, 445, 11, 18, 446] (by decide +kernel) (by decide +kernel)
theorem lw_5_239 : GoodIn lw_tbl (lwords 5 239 (0, m_X5_numbersTold, 2)) := gi_r _ [452, 454, 12, 18, 455] (by decide +kernel) (by decide +kernel)
theorem lw_5_242 : GoodIn lw_tbl (lwords 5 242 (0, m_X5_roundsTold, 3)) := gi_r _ [456, 458, 13, 18, 459] (by decide +kernel) (by decide +kernel)
theorem lw_5_246 : GoodIn lw_tbl (lwords 5 246 (0, m_X5_donesTold, 3)) := gi_r _ [460, 462, 14, 18, 463] (by decide +kernel) (by decide +kernel)
theorem lw_5_249 : GoodIn lw_tbl (lwords 5 249 (0, m_X5_textsTold, 2)) := gi_r _ [464, 466, 15, 18, 467] (by decide +kernel) (by decide +kernel)
theorem lw_5_252 : GoodIn lw_tbl (lwords 5 252 (0, m_X5_dancersTold, 2)) := gi_r _ [468, 470, 16, 18, 471] (by decide +kernel) (by decide +kernel)
theorem lw_5_255 : GoodIn lw_tbl (lwords 5 255 (0, m_X0_paysAs, 2)) := gi_r _ [447, 448, 449, 21, 450] (by decide +kernel) (by decide +kernel)
theorem lw_5_259 : GoodIn lw_tbl (lwords 5 259 (0, m_X3_become, 2)) := gi_r _ [476, 477, 478, 23, 479] (by decide +kernel) (by decide +kernel)
theorem lw_5_263 : GoodIn lw_tbl (lwords 5 263 (0, m_X3_put, 2)) := gi_r _ [480, 481, 482, 23, 483] (by decide +kernel) (by decide +kernel)
theorem lw_5_34 : GoodIn lw_tbl (lwords 5 34 (12, m_X1_init, 0)) := gi_r _ [134, 22, 135] (by decide +kernel) (by decide +kernel)
theorem lw_5_41 : GoodIn lw_tbl (lwords 5 41 (12, m_X3_init, 0)) := gi_r _ [166, 23, 167] (by decide +kernel) (by decide +kernel)
theorem lwA_5 : ∀ q ∈ lnk_5, GoodIn lw_tbl (lwords 5 q.1 q.2) := List.forall_mem_cons.mpr ⟨lw_5_1, List.forall_mem_cons.mpr ⟨lw_5_9, List.forall_mem_cons.mpr ⟨lw_5_18, List.forall_mem_cons.mpr ⟨lw_5_53, List.forall_mem_cons.mpr ⟨lw_5_73, List.forall_mem_cons.mpr ⟨lw_5_80, List.forall_mem_cons.mpr ⟨lw_5_83, List.forall_mem_cons.mpr ⟨lw_5_90, List.forall_mem_cons.mpr ⟨lw_5_93, List.forall_mem_cons.mpr ⟨lw_5_96, List.forall_mem_cons.mpr ⟨lw_5_99, List.forall_mem_cons.mpr ⟨lw_5_103, List.forall_mem_cons.mpr ⟨lw_5_106, List.forall_mem_cons.mpr ⟨lw_5_109, List.forall_mem_cons.mpr ⟨lw_5_112, List.forall_mem_cons.mpr ⟨lw_5_141, List.forall_mem_cons.mpr ⟨lw_5_145, List.forall_mem_cons.mpr ⟨lw_5_148, List.forall_mem_cons.mpr ⟨lw_5_151, List.forall_mem_cons.mpr ⟨lw_5_156, List.forall_mem_cons.mpr ⟨lw_5_160, List.forall_mem_cons.mpr ⟨lw_5_164, List.forall_mem_cons.mpr ⟨lw_5_167, List.forall_mem_cons.mpr ⟨lw_5_170, List.forall_mem_cons.mpr ⟨lw_5_174, List.forall_mem_cons.mpr ⟨lw_5_177, List.forall_mem_cons.mpr ⟨lw_5_180, List.forall_mem_cons.mpr ⟨lw_5_183, List.forall_mem_cons.mpr ⟨lw_5_186, List.forall_mem_cons.mpr ⟨lw_5_189, List.forall_mem_cons.mpr ⟨lw_5_192, List.forall_mem_cons.mpr ⟨lw_5_194, List.forall_mem_cons.mpr ⟨lw_5_197, List.forall_mem_cons.mpr ⟨lw_5_202, List.forall_mem_cons.mpr ⟨lw_5_209, List.forall_mem_cons.mpr ⟨lw_5_212, List.forall_mem_cons.mpr ⟨lw_5_218, List.forall_mem_cons.mpr ⟨lw_5_221, List.forall_mem_cons.mpr ⟨lw_5_225, List.forall_mem_cons.mpr ⟨lw_5_232, List.forall_mem_cons.mpr ⟨lw_5_236, List.forall_mem_cons.mpr ⟨lw_5_239, List.forall_mem_cons.mpr ⟨lw_5_242, List.forall_mem_cons.mpr ⟨lw_5_246, List.forall_mem_cons.mpr ⟨lw_5_249, List.forall_mem_cons.mpr ⟨lw_5_252, List.forall_mem_cons.mpr ⟨lw_5_255, List.forall_mem_cons.mpr ⟨lw_5_259, List.forall_mem_cons.mpr ⟨lw_5_263, List.forall_mem_cons.mpr ⟨lw_5_34, List.forall_mem_cons.mpr ⟨lw_5_41, fun _ h => absurd h List.not_mem_nil⟩⟩⟩⟩⟩⟩⟩⟩⟩⟩⟩⟩⟩⟩⟩⟩⟩⟩⟩⟩⟩⟩⟩⟩⟩⟩⟩⟩⟩⟩⟩⟩⟩⟩⟩⟩⟩⟩⟩⟩⟩⟩⟩⟩⟩⟩⟩⟩⟩⟩⟩
theorem lwA_6 : ∀ q ∈ lnk_6, GoodIn lw_tbl (lwords 6 q.1 q.2) := fun _ h => absurd h List.not_mem_nil
theorem lw_7_7 : GoodIn lw_tbl (lwords 7 7 (1, m_L_cell, 2)) := gi_r _ [499, 500, 17, 501] (by decide +kernel) (by decide +kernel)
theorem lw_7_15 : GoodIn lw_tbl (lwords 7 15 (2, m_X5_init, 0)) := gi_r _ [29, 30, 18, 31] (by decide +kernel) (by decide +kernel)
theorem lw_7_16 : GoodIn lw_tbl (lwords 7 16 (1, m_L_some, 3)) := gi_r _ [496, 497, 17, 498] (by decide +kernel) (by decide +kernel)
theorem lw_7_20 : GoodIn lw_tbl (lwords 7 20 (0, m_X5_dancer, 2)) := gi_r _ [254, 255, 256, 18, 257] (by decide +kernel) (by decide +kernel)
theorem lw_7_24 : GoodIn lw_tbl (lwords 7 24 (0, m_X5_told, 2)) := gi_r _ [262, 215, 216, 18, 217] (by decide +kernel) (by decide +kernel)
theorem lw_7_27 : GoodIn lw_tbl (lwords 7 27 (0, m_X5_set, 3)) := gi_r _ [208, 209, 210, 18, 211] (by decide +kernel) (by decide +kernel)
theorem lw_7_31 : GoodIn lw_tbl (lwords 7 31 (0, m_X5_count, 1)) := gi_r _ [492, 493, 494, 18, 495] (by decide +kernel) (by decide +kernel)
theorem lw_7_35 : GoodIn lw_tbl (lwords 7 35 (0, m_X5_best, 1)) := gi_r _ [355, 356, 357, 18, 358] (by decide +kernel) (by decide +kernel)
theorem lw_7_38 : GoodIn lw_tbl (lwords 7 38 (0, m_X5_asks, 3)) := gi_r _ [263, 264, 265, 18, 266] (by decide +kernel) (by decide +kernel)
theorem lw_7_41 : GoodIn lw_tbl (lwords 7 41 (0, m_X5_share, 2)) := gi_r _ [424, 425, 426, 18, 427] (by decide +kernel) (by decide +kernel)
theorem lw_7_45 : GoodIn lw_tbl (lwords 7 45 (0, m_X5_image, 0)) := gi_r _ [484, 485, 486, 18, 487] (by decide +kernel) (by decide +kernel)
theorem lw_7_49 : GoodIn lw_tbl (lwords 7 49 (0, m_X5_strike, 1)) := gi_r _ [321, 322, 323, 18, 324] (by decide +kernel) (by decide +kernel)
theorem lw_7_52 : GoodIn lw_tbl (lwords 7 52 (0, m_X5_back, 0)) := gi_r _ [488, 489, 490, 18, 491] (by decide +kernel) (by decide +kernel)
theorem lw_7_55 : GoodIn lw_tbl (lwords 7 55 (1, m_J6_bitCount_0f7a4, 1)) := gi_r _ [502, 503, 26, 504] (by decide +kernel) (by decide +kernel)
theorem lw_7_60 : GoodIn lw_tbl (lwords 7 60 (4, m_none, 2)) := gi_r _ [508, 311, 25, 312] (by decide +kernel) (by decide +kernel)
theorem lw_7_65 : GoodIn lw_tbl (lwords 7 65 (0, m_X5_run, 4)) := gi_r _ [331, 332, 333, 18, 334] (by decide +kernel) (by decide +kernel)
theorem lw_7_69 : GoodIn lw_tbl (lwords 7 69 (0, m_X5_round, 0)) := gi_r _ [286, 287, 288, 18, 289] (by decide +kernel) (by decide +kernel)
theorem lw_7_72 : GoodIn lw_tbl (lwords 7 72 (0, m_X5_night, 0)) := gi_r _ [313, 314, 315, 18, 316] (by decide +kernel) (by decide +kernel)
theorem lw_7_75 : GoodIn lw_tbl (lwords 7 75 (0, m_X5_film, 4)) := gi_r _ [472, 473, 474, 18, 475] (by decide +kernel) (by decide +kernel)
theorem lw_7_78 : GoodIn lw_tbl (lwords 7 78 (0, m_X5_tells, 4)) := gi_r _ [432, 433, 434, 18, 435] (by decide +kernel) (by decide +kernel)
theorem lwA_7 : ∀ q ∈ lnk_7, GoodIn lw_tbl (lwords 7 q.1 q.2) := List.forall_mem_cons.mpr ⟨lw_7_7, List.forall_mem_cons.mpr ⟨lw_7_15, List.forall_mem_cons.mpr ⟨lw_7_16, List.forall_mem_cons.mpr ⟨lw_7_20, List.forall_mem_cons.mpr ⟨lw_7_24, List.forall_mem_cons.mpr ⟨lw_7_27, List.forall_mem_cons.mpr ⟨lw_7_31, List.forall_mem_cons.mpr ⟨lw_7_35, List.forall_mem_cons.mpr ⟨lw_7_38, List.forall_mem_cons.mpr ⟨lw_7_41, List.forall_mem_cons.mpr ⟨lw_7_45, List.forall_mem_cons.mpr ⟨lw_7_49, List.forall_mem_cons.mpr ⟨lw_7_52, List.forall_mem_cons.mpr ⟨lw_7_55, List.forall_mem_cons.mpr ⟨lw_7_60, List.forall_mem_cons.mpr ⟨lw_7_65, List.forall_mem_cons.mpr ⟨lw_7_69, List.forall_mem_cons.mpr ⟨lw_7_72, List.forall_mem_cons.mpr ⟨lw_7_75, List.forall_mem_cons.mpr ⟨lw_7_78, fun _ h => absurd h List.not_mem_nil⟩⟩⟩⟩⟩⟩⟩⟩⟩⟩⟩⟩⟩⟩⟩⟩⟩⟩⟩⟩
def fwords (own idx : Nat) (e : Nat × Nat × Nat × Bool) : List Cond := match nth vwCl e.1 with
  | none => []
  | some q => [.fieldLink (own8 own) idx (q.2.1 e.2.1).1 (q.2.1 e.2.1).2.1 (q.2.1 e.2.1).2.2.1]
set_option maxRecDepth 100000 in
theorem fW_ok : GoodIn lw_tbl (allT fldT fwords) := gi_r _ [90, 92, 94, 96, 101, 102, 81, 82, 84, 86, 88, 62, 98, 100, 173, 175, 137, 139, 140, 58, 61, 63, 59, 51, 49, 169, 174, 171, 48, 50, 183, 184, 185, 186, 187, 188, 190, 85, 87, 93, 95, 97, 83, 91, 138, 60, 89, 99, 170, 172, 189] (by decide +kernel) (by decide +kernel)
def cwords (own idx : Nat) (ci : Nat) : List Cond := match nth vwCl ci with
  | none => [.classLink (own8 own) idx "[I"]
  | some q => [.classLink (own8 own) idx q.1, .instantiable q.1 q.2.2, .initialized q.1]
set_option maxRecDepth 100000 in
theorem cW_ok : GoodIn lw_tbl (allT clkT cwords) := gi_r _ [41, 43, 20, 35, 36, 19, 73, 74, 21, 131, 132, 22, 162, 164, 23, 27, 28, 18] (by decide +kernel) (by decide +kernel)
def lcwords (own idx : Nat) (v : Int64) : List Cond := [.constantLong (own8 own) idx v]
set_option maxRecDepth 100000 in
theorem lcW_ok : GoodIn lw_tbl (allT lckT lcwords) := gi_r _ [428] (by decide +kernel) (by decide +kernel)
def icwords (own idx : Nat) (v : Int32) : List Cond := [.constant (own8 own) idx v]
set_option maxRecDepth 100000 in
theorem icW_ok : GoodIn lw_tbl (allT ickT icwords) := gi_r _ [505, 506, 507] (by decide +kernel) (by decide +kernel)
def sfwords (own idx : Nat) (j : Nat) : List Cond := if own = 5 then [.fieldLink RX5 idx RX5 (stN j) "[I"] else []
set_option maxRecDepth 100000 in
theorem sfW_ok : GoodIn lw_tbl (allT sflT sfwords) := gi_r _ [212, 397] (by decide +kernel) (by decide +kernel)
theorem uW_0 : GoodIn lw_tbl wsX00 := gi_r _ [103, 105, 107, 109, 111, 113, 115, 117, 119, 121, 123, 125, 127] (by decide +kernel) (by decide +kernel)
theorem uW_1 : GoodIn lw_tbl wsX10 := gi_r _ [141, 143, 145, 147, 149, 151, 153, 155, 157, 159] (by decide +kernel) (by decide +kernel)
theorem uW_2 : GoodIn lw_tbl wsX20 := gi_r _ [64, 66, 68, 70] (by decide +kernel) (by decide +kernel)
theorem uW_3 : GoodIn lw_tbl wsX30 := gi_r _ [176, 178, 180] (by decide +kernel) (by decide +kernel)
theorem uW_4 : GoodIn lw_tbl wsX40 := gi_r _ [52, 54] (by decide +kernel) (by decide +kernel)
theorem uW_5 : GoodIn lw_tbl wsX50 := gi_r _ [191, 193, 195, 197, 199, 201, 203, 205] (by decide +kernel) (by decide +kernel)
theorem aW_ok : GoodIn lw_tbl [.arrayClass .int] := gi_r _ [57] (by decide +kernel) (by decide +kernel)
/-- the words that every method is given: all good ones of the tables -/
def goodB (w : Cond) : Bool := match w with
  | .code .. => true
  | w => goodWord w
def ALLW : List Cond := lw_tbl.filter goodWord
theorem ALLW_good {big : List Cond} (h : ∀ w ∈ ALLW, w ∈ big) : GoodIn big ALLW := fun w hw => ⟨h w hw, good_of_word (List.mem_filter.mp hw).2⟩
theorem ALLW_in {ws : List Cond} (h : GoodIn lw_tbl ws) (hg : ws.all goodWord = true) : ∀ w ∈ ws, w ∈ ALLW := fun w hw => List.mem_filter.mpr ⟨(h w hw).1, List.all_eq_true.mp hg w hw⟩
theorem lwW {own idx : Nat} {e : LK} (h : lnk own idx = some e) : GoodIn lw_tbl (lwords own idx e) := by
  unfold lnk at h
  split at h
  · cases h
  · rename_i l hl
    have hm := lkp_mem l idx e h
    match own, hl with
    | 0, hl => cases hl; exact lwA_0 _ hm
    | 1, hl => cases hl; exact lwA_1 _ hm
    | 2, hl => cases hl; exact lwA_2 _ hm
    | 3, hl => cases hl; exact lwA_3 _ hm
    | 4, hl => cases hl; exact lwA_4 _ hm
    | 5, hl => cases hl; exact lwA_5 _ hm
    | 6, hl => cases hl; exact lwA_6 _ hm
    | 7, hl => cases hl; exact lwA_7 _ hm
    | n + 8, hl => simp [lnkT, nth] at hl
