/-! THE TABLES' WORDS behind every link -/
theorem gi_r {big : List Cond} (ws : List Cond) (ps : List Nat) (hp : ws = ps.filterMap (fun i => big[i]?)) (h : ws.all goodWord = true) : GoodIn big ws := by
  intro w hw
  have h1 := List.all_eq_true.mp h w hw
  rw [hp] at hw
  obtain ⟨i, -, hi⟩ := List.mem_filterMap.mp hw
  have hm : w ∈ big := by first | exact List.mem_of_getElem? hi | exact List.getElem?_mem hi
  exact ⟨hm, good_of_word h1⟩
def wC (Z : MT) : Cond := .code Z.2.1 Z.2.2.1 Z.2.2.2.1 Z.2.2.2.2
def lwords (own idx : Nat) (e : LK) : List Cond := match e.1 with
  | 0 => [.methodLink (own8 own) idx e.2.1.2.1, .instanceMethod e.2.1.2.1, .selects e.2.1.2.1.cls e.2.1.2.1 e.2.1.2.1, .initialized e.2.1.2.1.cls, wC e.2.1]
  | 1 => [.methodLink (own8 own) idx e.2.1.2.1, .static e.2.1.2.1, .initialized e.2.1.2.1.cls, wC e.2.1]
  | 2 => [.methodLink (own8 own) idx e.2.1.2.1, .instanceMethod e.2.1.2.1, .initialized e.2.1.2.1.cls, wC e.2.1]
  | 3 => [.methodLink (own8 own) idx objectInit, .instanceMethod objectInit, .code objectInit ⟨#[0xb1]⟩ 1 none]
  | 4 => [.methodLink (own8 own) idx Lib.Math.min.name, .static Lib.Math.min.name, .initialized "java/lang/Math", .code Lib.Math.min.name Lib.Math.min.code 2 (some .int)]
  | 5 => [.methodLink (own8 own) idx Lib.Math.max.name, .static Lib.Math.max.name, .initialized "java/lang/Math", .code Lib.Math.max.name Lib.Math.max.code 2 (some .int)]
  | 6 => [.methodLink (own8 own) idx arraycopyName, .native arraycopyName, .static arraycopyName, .initialized "java/lang/System"]
  | 7 => [.methodLink (own8 own) idx ⟨"[I", "clone", "()Ljava/lang/Object;"⟩, .sameMethod "[I" "java/lang/Object" "clone" "()Ljava/lang/Object;", .native ⟨"java/lang/Object", "clone", "()Ljava/lang/Object;"⟩, .instanceMethod ⟨"java/lang/Object", "clone", "()Ljava/lang/Object;"⟩, .selects "[I" ⟨"[I", "clone", "()Ljava/lang/Object;"⟩ ⟨"java/lang/Object", "clone", "()Ljava/lang/Object;"⟩]
  | 11 => [.static e.2.1.2.1, .initialized e.2.1.2.1.cls, wC e.2.1]
  | 12 => [.instanceMethod e.2.1.2.1, .initialized e.2.1.2.1.cls, wC e.2.1]
  | _ => []
def enum {α : Type} : List α → Nat → List (Nat × α)
  | [], _ => []
  | a :: l, n => (n, a) :: enum l (n + 1)
theorem enum_nth {α : Type} : ∀ (l : List α) (n i : Nat) (a : α), nth l i = some a → (n + i, a) ∈ enum l n
  | [], _, _, _, h => by simp [nth] at h
  | b :: l, n, 0, a, h => by
    simp only [nth, Option.some.injEq] at h
    subst h
    exact List.mem_cons_self
  | b :: l, n, i + 1, a, h => by
    have h1 := enum_nth l (n + 1) i a h
    have e : n + 1 + i = n + (i + 1) := by omega
    rw [e] at h1
    exact List.mem_cons_of_mem _ h1
theorem lkp_mem {α : Type} : ∀ (l : List (Nat × α)) (i : Nat) (a : α), lkp l i = some a → (i, a) ∈ l
  | [], _, _, h => by simp [lkp] at h
  | b :: l, i, a, h => by
    simp only [lkp] at h
    by_cases hb : Nat.beq b.1 i = true
    · rw [hb] at h
      simp only [cond_true, Option.some.injEq] at h
      have := Nat.eq_of_beq_eq_true hb
      subst this
      subst h
      exact List.mem_cons_self
    · have hb : Nat.beq b.1 i = false := Bool.eq_false_iff.mpr hb
      rw [hb] at h
      exact List.mem_cons_of_mem _ (lkp_mem l i a h)
/-- all that a table of links says -/
def allT {α : Type} (T : List (List (Nat × α))) (f : Nat → Nat → α → List Cond) : List Cond := (enum T 0).flatMap fun q => q.2.flatMap fun e => f q.1 e.1 e.2
theorem allT_in {α : Type} {T : List (List (Nat × α))} {f : Nat → Nat → α → List Cond} {own idx : Nat} {l : List (Nat × α)} {e : α} (h1 : nth T own = some l) (h2 : lkp l idx = some e) {w : Cond} (hw : w ∈ f own idx e) : w ∈ allT T f := by
  refine List.mem_flatMap.mpr ⟨(own, l), ?_, List.mem_flatMap.mpr ⟨(idx, e), lkp_mem l idx e h2, hw⟩⟩
  have := enum_nth T 0 own l h1
  simpa using this
theorem lw_0_3 : GoodIn lw_tbl (lwords 0 3 (3, m_none, 0)) := gi_r _ [149, 104, 105] (by decide +kernel) (by decide +kernel)
theorem lw_0_50 : GoodIn lw_tbl (lwords 0 50 (6, m_none, 5)) := gi_r _ [645, 566, 565, 97] (by decide +kernel) (by decide +kernel)
theorem lw_0_56 : GoodIn lw_tbl (lwords 0 56 (0, m_X0_owes, 1)) := gi_r _ [650, 330, 331, 87, 332] (by decide +kernel) (by decide +kernel)
theorem lw_0_65 : GoodIn lw_tbl (lwords 0 65 (0, m_X0_owedTo, 1)) := gi_r _ [318, 319, 320, 87, 321] (by decide +kernel) (by decide +kernel)
theorem lw_0_68 : GoodIn lw_tbl (lwords 0 68 (0, m_X2_value, 2)) := gi_r _ [322, 323, 324, 85, 325] (by decide +kernel) (by decide +kernel)
theorem lw_0_75 : GoodIn lw_tbl (lwords 0 75 (0, m_X0_value, 3)) := gi_r _ [314, 316, 3, 87, 317] (by decide +kernel) (by decide +kernel)
theorem lw_0_78 : GoodIn lw_tbl (lwords 0 78 (0, m_X0_owing, 2)) := gi_r _ [359, 348, 349, 87, 350] (by decide +kernel) (by decide +kernel)
theorem lw_0_81 : GoodIn lw_tbl (lwords 0 81 (0, m_X0_will, 2)) := gi_r _ [364, 356, 357, 87, 358] (by decide +kernel) (by decide +kernel)
theorem lw_0_85 : GoodIn lw_tbl (lwords 0 85 (0, m_X0_breath, 1)) := gi_r _ [365, 311, 312, 87, 313] (by decide +kernel) (by decide +kernel)
theorem lw_0_88 : GoodIn lw_tbl (lwords 0 88 (0, m_X0_pays, 2)) := gi_r _ [593, 352, 353, 87, 354] (by decide +kernel) (by decide +kernel)
theorem lw_0_91 : GoodIn lw_tbl (lwords 0 91 (0, m_X0_settle, 4)) := gi_r _ [594, 596, 18, 87, 597] (by decide +kernel) (by decide +kernel)
theorem lw_0_95 : GoodIn lw_tbl (lwords 0 95 (0, m_X0_lessen, 3)) := gi_r _ [598, 599, 600, 87, 601] (by decide +kernel) (by decide +kernel)
theorem lw_0_99 : GoodIn lw_tbl (lwords 0 99 (4, m_none, 2)) := gi_r _ [602, 484, 95, 485] (by decide +kernel) (by decide +kernel)
theorem lw_0_110 : GoodIn lw_tbl (lwords 0 110 (0, m_X0_may, 2)) := gi_r _ [613, 361, 362, 87, 363] (by decide +kernel) (by decide +kernel)
theorem lw_0_113 : GoodIn lw_tbl (lwords 0 113 (0, m_X0_step, 2)) := gi_r _ [614, 590, 591, 87, 592] (by decide +kernel) (by decide +kernel)
theorem lw_0_116 : GoodIn lw_tbl (lwords 0 116 (0, m_X0_danceRound, 0)) := gi_r _ [717, 608, 609, 87, 610] (by decide +kernel) (by decide +kernel)
theorem lw_0_121 : GoodIn lw_tbl (lwords 0 121 (5, m_none, 2)) := gi_r _ [694, 481, 95, 482] (by decide +kernel) (by decide +kernel)
theorem lw_0_124 : GoodIn lw_tbl (lwords 0 124 (0, m_X0_longest, 4)) := gi_r _ [709, 711, 24, 87, 712] (by decide +kernel) (by decide +kernel)
theorem lw_0_134 : GoodIn lw_tbl (lwords 0 134 (0, m_X0_mayAll, 1)) := gi_r _ [669, 670, 671, 87, 672] (by decide +kernel) (by decide +kernel)
theorem lw_0_138 : GoodIn lw_tbl (lwords 0 138 (0, m_X0_paidBy, 1)) := gi_r _ [673, 674, 675, 87, 676] (by decide +kernel) (by decide +kernel)
theorem lw_0_149 : GoodIn lw_tbl (lwords 0 149 (0, m_X0_firstOtherwise, 2)) := gi_r _ [749, 738, 739, 87, 740] (by decide +kernel) (by decide +kernel)
theorem lw_0_72 : GoodIn lw_tbl (lwords 0 72 (11, m_X5_within, 2)) := gi_r _ [327, 84, 328] (by decide +kernel) (by decide +kernel)
theorem lwA_0 : ∀ q ∈ lnk_0, GoodIn lw_tbl (lwords 0 q.1 q.2) := List.forall_mem_cons.mpr ⟨lw_0_3, List.forall_mem_cons.mpr ⟨lw_0_50, List.forall_mem_cons.mpr ⟨lw_0_56, List.forall_mem_cons.mpr ⟨lw_0_65, List.forall_mem_cons.mpr ⟨lw_0_68, List.forall_mem_cons.mpr ⟨lw_0_75, List.forall_mem_cons.mpr ⟨lw_0_78, List.forall_mem_cons.mpr ⟨lw_0_81, List.forall_mem_cons.mpr ⟨lw_0_85, List.forall_mem_cons.mpr ⟨lw_0_88, List.forall_mem_cons.mpr ⟨lw_0_91, List.forall_mem_cons.mpr ⟨lw_0_95, List.forall_mem_cons.mpr ⟨lw_0_99, List.forall_mem_cons.mpr ⟨lw_0_110, List.forall_mem_cons.mpr ⟨lw_0_113, List.forall_mem_cons.mpr ⟨lw_0_116, List.forall_mem_cons.mpr ⟨lw_0_121, List.forall_mem_cons.mpr ⟨lw_0_124, List.forall_mem_cons.mpr ⟨lw_0_134, List.forall_mem_cons.mpr ⟨lw_0_138, List.forall_mem_cons.mpr ⟨lw_0_149, List.forall_mem_cons.mpr ⟨lw_0_72, fun _ h => absurd h List.not_mem_nil⟩⟩⟩⟩⟩⟩⟩⟩⟩⟩⟩⟩⟩⟩⟩⟩⟩⟩⟩⟩⟩⟩
theorem lw_1_3 : GoodIn lw_tbl (lwords 1 3 (3, m_none, 0)) := gi_r _ [207, 104, 105] (by decide +kernel) (by decide +kernel)
theorem lw_1_34 : GoodIn lw_tbl (lwords 1 34 (0, m_X1_next, 0)) := gi_r _ [382, 384, 4, 88, 385] (by decide +kernel) (by decide +kernel)
theorem lw_1_37 : GoodIn lw_tbl (lwords 1 37 (0, m_X1_pass, 1)) := gi_r _ [524, 526, 8, 88, 527] (by decide +kernel) (by decide +kernel)
theorem lw_1_41 : GoodIn lw_tbl (lwords 1 41 (0, m_X1_either, 0)) := gi_r _ [528, 530, 9, 88, 531] (by decide +kernel) (by decide +kernel)
theorem lw_1_48 : GoodIn lw_tbl (lwords 1 48 (6, m_none, 5)) := gi_r _ [564, 566, 565, 97] (by decide +kernel) (by decide +kernel)
theorem lw_1_56 : GoodIn lw_tbl (lwords 1 56 (7, m_none, 0)) := gi_r _ [568, 569, 570, 571, 572] (by decide +kernel) (by decide +kernel)
theorem lw_1_61 : GoodIn lw_tbl (lwords 1 61 (2, m_X4_init, 2)) := gi_r _ [575, 116, 86, 117] (by decide +kernel) (by decide +kernel)
theorem lw_1_64 : GoodIn lw_tbl (lwords 1 64 (0, m_X1_both, 0)) := gi_r _ [532, 534, 10, 88, 535] (by decide +kernel) (by decide +kernel)
theorem lw_1_67 : GoodIn lw_tbl (lwords 1 67 (0, m_X1_put, 1)) := gi_r _ [556, 558, 16, 88, 559] (by decide +kernel) (by decide +kernel)
theorem lw_1_70 : GoodIn lw_tbl (lwords 1 70 (0, m_X1_denied, 0)) := gi_r _ [536, 538, 11, 88, 539] (by decide +kernel) (by decide +kernel)
theorem lw_1_73 : GoodIn lw_tbl (lwords 1 73 (0, m_X1_compared, 0)) := gi_r _ [540, 542, 12, 88, 543] (by decide +kernel) (by decide +kernel)
theorem lw_1_76 : GoodIn lw_tbl (lwords 1 76 (0, m_X1_opens, 0)) := gi_r _ [560, 562, 17, 88, 563] (by decide +kernel) (by decide +kernel)
theorem lw_1_79 : GoodIn lw_tbl (lwords 1 79 (0, m_X1_sum, 0)) := gi_r _ [544, 546, 13, 88, 547] (by decide +kernel) (by decide +kernel)
theorem lw_1_82 : GoodIn lw_tbl (lwords 1 82 (0, m_X1_term, 0)) := gi_r _ [548, 550, 14, 88, 551] (by decide +kernel) (by decide +kernel)
theorem lw_1_85 : GoodIn lw_tbl (lwords 1 85 (0, m_X1_one, 0)) := gi_r _ [552, 554, 15, 88, 555] (by decide +kernel) (by decide +kernel)
theorem lw_1_94 : GoodIn lw_tbl (lwords 1 94 (1, m_X1_isDigit, 1)) := gi_r _ [386, 387, 88, 388] (by decide +kernel) (by decide +kernel)
theorem lw_1_97 : GoodIn lw_tbl (lwords 1 97 (0, m_X1_nextNumber, 0)) := gi_r _ [389, 391, 5, 88, 392] (by decide +kernel) (by decide +kernel)
theorem lw_1_100 : GoodIn lw_tbl (lwords 1 100 (1, m_X1_isLetter, 1)) := gi_r _ [393, 394, 88, 395] (by decide +kernel) (by decide +kernel)
theorem lw_1_103 : GoodIn lw_tbl (lwords 1 103 (0, m_X1_nextWord, 0)) := gi_r _ [396, 398, 6, 88, 399] (by decide +kernel) (by decide +kernel)
theorem lw_1_108 : GoodIn lw_tbl (lwords 1 108 (10, m_none, 1)) := gi_r _ [] (by decide +kernel) (by decide +kernel)
theorem lw_1_116 : GoodIn lw_tbl (lwords 1 116 (0, m_X1_spells, 1)) := gi_r _ [401, 403, 7, 88, 404] (by decide +kernel) (by decide +kernel)
theorem lw_1_141 : GoodIn lw_tbl (lwords 1 141 (8, m_none, 0)) := gi_r _ [] (by decide +kernel) (by decide +kernel)
theorem lw_1_145 : GoodIn lw_tbl (lwords 1 145 (9, m_none, 1)) := gi_r _ [] (by decide +kernel) (by decide +kernel)
theorem lwA_1 : ∀ q ∈ lnk_1, GoodIn lw_tbl (lwords 1 q.1 q.2) := List.forall_mem_cons.mpr ⟨lw_1_3, List.forall_mem_cons.mpr ⟨lw_1_34, List.forall_mem_cons.mpr ⟨lw_1_37, List.forall_mem_cons.mpr ⟨lw_1_41, List.forall_mem_cons.mpr ⟨lw_1_48, List.forall_mem_cons.mpr ⟨lw_1_56, List.forall_mem_cons.mpr ⟨lw_1_61, List.forall_mem_cons.mpr ⟨lw_1_64, List.forall_mem_cons.mpr ⟨lw_1_67, List.forall_mem_cons.mpr ⟨lw_1_70, List.forall_mem_cons.mpr ⟨lw_1_73, List.forall_mem_cons.mpr ⟨lw_1_76, List.forall_mem_cons.mpr ⟨lw_1_79, List.forall_mem_cons.mpr ⟨lw_1_82, List.forall_mem_cons.mpr ⟨lw_1_85, List.forall_mem_cons.mpr ⟨lw_1_94, List.forall_mem_cons.mpr ⟨lw_1_97, List.forall_mem_cons.mpr ⟨lw_1_100, List.forall_mem_cons.mpr ⟨lw_1_103, List.forall_mem_cons.mpr ⟨lw_1_108, List.forall_mem_cons.mpr ⟨lw_1_116, List.forall_mem_cons.mpr ⟨lw_1_141, List.forall_mem_cons.mpr ⟨lw_1_145, fun _ h => absurd h List.not_mem_nil⟩⟩⟩⟩⟩⟩⟩⟩⟩⟩⟩⟩⟩⟩⟩⟩⟩⟩⟩⟩⟩⟩⟩
theorem lw_2_3 : GoodIn lw_tbl (lwords 2 3 (3, m_none, 0)) := gi_r _ [111, 104, 105] (by decide +kernel) (by decide +kernel)
theorem lw_2_24 : GoodIn lw_tbl (lwords 2 24 (2, m_X4_init, 2)) := gi_r _ [115, 116, 86, 117] (by decide +kernel) (by decide +kernel)
theorem lwA_2 : ∀ q ∈ lnk_2, GoodIn lw_tbl (lwords 2 q.1 q.2) := List.forall_mem_cons.mpr ⟨lw_2_3, List.forall_mem_cons.mpr ⟨lw_2_24, fun _ h => absurd h List.not_mem_nil⟩⟩
theorem lw_3_3 : GoodIn lw_tbl (lwords 3 3 (3, m_none, 0)) := gi_r _ [247, 104, 105] (by decide +kernel) (by decide +kernel)
theorem lwA_3 : ∀ q ∈ lnk_3, GoodIn lw_tbl (lwords 3 q.1 q.2) := List.forall_mem_cons.mpr ⟨lw_3_3, fun _ h => absurd h List.not_mem_nil⟩
theorem lw_4_1 : GoodIn lw_tbl (lwords 4 1 (3, m_none, 0)) := gi_r _ [118, 104, 105] (by decide +kernel) (by decide +kernel)
theorem lwA_4 : ∀ q ∈ lnk_4, GoodIn lw_tbl (lwords 4 q.1 q.2) := List.forall_mem_cons.mpr ⟨lw_4_1, fun _ h => absurd h List.not_mem_nil⟩
theorem lw_5_1 : GoodIn lw_tbl (lwords 5 1 (3, m_none, 0)) := gi_r _ [103, 104, 105] (by decide +kernel) (by decide +kernel)
theorem lw_5_9 : GoodIn lw_tbl (lwords 5 9 (2, m_X2_init, 0)) := gi_r _ [108, 109, 85, 110] (by decide +kernel) (by decide +kernel)
theorem lw_5_18 : GoodIn lw_tbl (lwords 5 18 (2, m_X0_init, 1)) := gi_r _ [146, 147, 87, 148] (by decide +kernel) (by decide +kernel)
theorem lw_5_53 : GoodIn lw_tbl (lwords 5 53 (0, m_X5_told, 2)) := gi_r _ [294, 295, 296, 84, 297] (by decide +kernel) (by decide +kernel)
theorem lw_5_73 : GoodIn lw_tbl (lwords 5 73 (0, m_X5_debtPlace, 1)) := gi_r _ [298, 300, 0, 84, 301] (by decide +kernel) (by decide +kernel)
theorem lw_5_80 : GoodIn lw_tbl (lwords 5 80 (0, m_X0_join, 2)) := gi_r _ [338, 339, 340, 87, 341] (by decide +kernel) (by decide +kernel)
theorem lw_5_83 : GoodIn lw_tbl (lwords 5 83 (0, m_X5_isDancer, 1)) := gi_r _ [306, 308, 2, 84, 309] (by decide +kernel) (by decide +kernel)
theorem lw_5_90 : GoodIn lw_tbl (lwords 5 90 (0, m_X0_breath, 1)) := gi_r _ [310, 311, 312, 87, 313] (by decide +kernel) (by decide +kernel)
theorem lw_5_93 : GoodIn lw_tbl (lwords 5 93 (0, m_X0_owes, 1)) := gi_r _ [329, 330, 331, 87, 332] (by decide +kernel) (by decide +kernel)
theorem lw_5_96 : GoodIn lw_tbl (lwords 5 96 (0, m_X0_owedTo, 1)) := gi_r _ [333, 319, 320, 87, 321] (by decide +kernel) (by decide +kernel)
theorem lw_5_99 : GoodIn lw_tbl (lwords 5 99 (0, m_X5_isTwo, 2)) := gi_r _ [302, 304, 1, 84, 305] (by decide +kernel) (by decide +kernel)
theorem lw_5_103 : GoodIn lw_tbl (lwords 5 103 (0, m_X0_owing, 2)) := gi_r _ [347, 348, 349, 87, 350] (by decide +kernel) (by decide +kernel)
theorem lw_5_106 : GoodIn lw_tbl (lwords 5 106 (0, m_X0_pays, 2)) := gi_r _ [351, 352, 353, 87, 354] (by decide +kernel) (by decide +kernel)
theorem lw_5_109 : GoodIn lw_tbl (lwords 5 109 (0, m_X0_will, 2)) := gi_r _ [355, 356, 357, 87, 358] (by decide +kernel) (by decide +kernel)
theorem lw_5_112 : GoodIn lw_tbl (lwords 5 112 (0, m_X0_may, 2)) := gi_r _ [360, 361, 362, 87, 363] (by decide +kernel) (by decide +kernel)
theorem lw_5_115 : GoodIn lw_tbl (lwords 5 115 (0, m_X1_hold, 1)) := gi_r _ [370, 371, 372, 88, 373] (by decide +kernel) (by decide +kernel)
theorem lw_5_124 : GoodIn lw_tbl (lwords 5 124 (0, m_X1_read, 0)) := gi_r _ [378, 379, 380, 88, 381] (by decide +kernel) (by decide +kernel)
theorem lw_5_131 : GoodIn lw_tbl (lwords 5 131 (0, m_X2_keep, 1)) := gi_r _ [576, 577, 578, 85, 579] (by decide +kernel) (by decide +kernel)
theorem lw_5_138 : GoodIn lw_tbl (lwords 5 138 (0, m_X0_step, 2)) := gi_r _ [589, 590, 591, 87, 592] (by decide +kernel) (by decide +kernel)
theorem lw_5_141 : GoodIn lw_tbl (lwords 5 141 (0, m_X0_danceRound, 0)) := gi_r _ [607, 608, 609, 87, 610] (by decide +kernel) (by decide +kernel)
theorem lw_5_145 : GoodIn lw_tbl (lwords 5 145 (0, m_X0_endNight, 0)) := gi_r _ [619, 620, 621, 87, 622] (by decide +kernel) (by decide +kernel)
theorem lw_5_148 : GoodIn lw_tbl (lwords 5 148 (0, m_X5_readRing, 1)) := gi_r _ [627, 629, 19, 84, 630] (by decide +kernel) (by decide +kernel)
theorem lw_5_151 : GoodIn lw_tbl (lwords 5 151 (4, m_none, 2)) := gi_r _ [631, 484, 95, 485] (by decide +kernel) (by decide +kernel)
theorem lw_5_156 : GoodIn lw_tbl (lwords 5 156 (0, m_X0_lessen, 3)) := gi_r _ [632, 599, 600, 87, 601] (by decide +kernel) (by decide +kernel)
theorem lw_5_160 : GoodIn lw_tbl (lwords 5 160 (0, m_X5_think, 0)) := gi_r _ [637, 639, 20, 84, 640] (by decide +kernel) (by decide +kernel)
theorem lw_5_164 : GoodIn lw_tbl (lwords 5 164 (0, m_X0_all, 0)) := gi_r _ [646, 647, 648, 87, 649] (by decide +kernel) (by decide +kernel)
theorem lw_5_167 : GoodIn lw_tbl (lwords 5 167 (0, m_X0_stillOwed, 0)) := gi_r _ [651, 652, 653, 87, 654] (by decide +kernel) (by decide +kernel)
theorem lw_5_170 : GoodIn lw_tbl (lwords 5 170 (0, m_X0_takeFrom, 1)) := gi_r _ [641, 642, 643, 87, 644] (by decide +kernel) (by decide +kernel)
theorem lw_5_174 : GoodIn lw_tbl (lwords 5 174 (0, m_X0_weigh, 0)) := gi_r _ [659, 660, 661, 87, 662] (by decide +kernel) (by decide +kernel)
theorem lw_5_177 : GoodIn lw_tbl (lwords 5 177 (0, m_X0_bestSet, 0)) := gi_r _ [663, 664, 665, 87, 666] (by decide +kernel) (by decide +kernel)
theorem lw_5_180 : GoodIn lw_tbl (lwords 5 180 (0, m_X0_paidBy, 1)) := gi_r _ [677, 674, 675, 87, 676] (by decide +kernel) (by decide +kernel)
theorem lw_5_183 : GoodIn lw_tbl (lwords 5 183 (0, m_X5_sitters, 0)) := gi_r _ [678, 680, 21, 84, 681] (by decide +kernel) (by decide +kernel)
theorem lw_5_186 : GoodIn lw_tbl (lwords 5 186 (0, m_X5_soonest, 0)) := gi_r _ [682, 684, 22, 84, 685] (by decide +kernel) (by decide +kernel)
theorem lw_5_189 : GoodIn lw_tbl (lwords 5 189 (0, m_X0_least, 0)) := gi_r _ [701, 702, 703, 87, 704] (by decide +kernel) (by decide +kernel)
theorem lw_5_192 : GoodIn lw_tbl (lwords 5 192 (0, m_X0_ring, 0)) := gi_r _ [705, 706, 707, 87, 708] (by decide +kernel) (by decide +kernel)
theorem lw_5_194 : GoodIn lw_tbl (lwords 5 194 (0, m_X0_ends, 0)) := gi_r _ [713, 714, 715, 87, 716] (by decide +kernel) (by decide +kernel)
theorem lw_5_197 : GoodIn lw_tbl (lwords 5 197 (0, m_X0_keeps, 0)) := gi_r _ [718, 719, 720, 87, 721] (by decide +kernel) (by decide +kernel)
theorem lw_5_202 : GoodIn lw_tbl (lwords 5 202 (1, m_X5_lowest, 3)) := gi_r _ [727, 728, 84, 729] (by decide +kernel) (by decide +kernel)
theorem lw_5_209 : GoodIn lw_tbl (lwords 5 209 (0, m_X5_clears, 2)) := gi_r _ [686, 688, 23, 84, 689] (by decide +kernel) (by decide +kernel)
theorem lw_5_212 : GoodIn lw_tbl (lwords 5 212 (0, m_X0_mostToMeet, 0)) := gi_r _ [690, 691, 692, 87, 693] (by decide +kernel) (by decide +kernel)
theorem lw_5_218 : GoodIn lw_tbl (lwords 5 218 (0, m_X0_mayAll, 1)) := gi_r _ [696, 670, 671, 87, 672] (by decide +kernel) (by decide +kernel)
theorem lw_5_221 : GoodIn lw_tbl (lwords 5 221 (0, m_X0_danceSet, 2)) := gi_r _ [697, 698, 699, 87, 700] (by decide +kernel) (by decide +kernel)
theorem lw_5_225 : GoodIn lw_tbl (lwords 5 225 (1, m_X5_isSheet, 1)) := gi_r _ [734, 735, 84, 736] (by decide +kernel) (by decide +kernel)
theorem lw_5_232 : GoodIn lw_tbl (lwords 5 232 (0, m_X0_firstOtherwise, 2)) := gi_r _ [737, 738, 739, 87, 740] (by decide +kernel) (by decide +kernel)
theorem lw_5_236 : GoodIn lw_tbl (lwords 5 236 (0, m_X5_kindsTold, 2)) := gi_r _ [741, 743, 25, 84, 744] (by decide +kernel) (by decide +kernel)
theorem lw_5_239 : GoodIn lw_tbl (lwords 5 239 (0, m_X5_numbersTold, 2)) := gi_r _ [750, 752, 26, 84, 753] (by decide +kernel) (by decide +kernel)
theorem lw_5_242 : GoodIn lw_tbl (lwords 5 242 (0, m_X5_roundsTold, 3)) := gi_r _ [754, 756, 27, 84, 757] (by decide +kernel) (by decide +kernel)
theorem lw_5_246 : GoodIn lw_tbl (lwords 5 246 (0, m_X5_donesTold, 3)) := gi_r _ [758, 760, 28, 84, 761] (by decide +kernel) (by decide +kernel)
theorem lw_5_249 : GoodIn lw_tbl (lwords 5 249 (0, m_X5_textsTold, 2)) := gi_r _ [762, 764, 29, 84, 765] (by decide +kernel) (by decide +kernel)
theorem lw_5_252 : GoodIn lw_tbl (lwords 5 252 (0, m_X5_dancersTold, 2)) := gi_r _ [766, 768, 30, 84, 769] (by decide +kernel) (by decide +kernel)
theorem lw_5_255 : GoodIn lw_tbl (lwords 5 255 (0, m_X0_paysAs, 2)) := gi_r _ [745, 746, 747, 87, 748] (by decide +kernel) (by decide +kernel)
theorem lw_5_259 : GoodIn lw_tbl (lwords 5 259 (0, m_X3_become, 2)) := gi_r _ [774, 775, 776, 89, 777] (by decide +kernel) (by decide +kernel)
theorem lw_5_263 : GoodIn lw_tbl (lwords 5 263 (0, m_X3_put, 2)) := gi_r _ [778, 779, 780, 89, 781] (by decide +kernel) (by decide +kernel)
theorem lw_5_266 : GoodIn lw_tbl (lwords 5 266 (0, m_X0_draw, 1)) := gi_r _ [786, 787, 788, 87, 789] (by decide +kernel) (by decide +kernel)
theorem lw_5_274 : GoodIn lw_tbl (lwords 5 274 (1, m_X5_isSort, 1)) := gi_r _ [811, 812, 84, 813] (by decide +kernel) (by decide +kernel)
theorem lw_5_277 : GoodIn lw_tbl (lwords 5 277 (0, m_X3_holds, 2)) := gi_r _ [818, 819, 820, 89, 821] (by decide +kernel) (by decide +kernel)
theorem lw_5_283 : GoodIn lw_tbl (lwords 5 283 (6, m_none, 5)) := gi_r _ [826, 566, 565, 97] (by decide +kernel) (by decide +kernel)
theorem lw_5_289 : GoodIn lw_tbl (lwords 5 289 (0, m_X5_dancer, 2)) := gi_r _ [831, 335, 336, 84, 337] (by decide +kernel) (by decide +kernel)
theorem lw_5_34 : GoodIn lw_tbl (lwords 5 34 (12, m_X1_init, 0)) := gi_r _ [205, 88, 206] (by decide +kernel) (by decide +kernel)
theorem lw_5_41 : GoodIn lw_tbl (lwords 5 41 (12, m_X3_init, 0)) := gi_r _ [245, 89, 246] (by decide +kernel) (by decide +kernel)
theorem lwA_5 : ∀ q ∈ lnk_5, GoodIn lw_tbl (lwords 5 q.1 q.2) := List.forall_mem_cons.mpr ⟨lw_5_1, List.forall_mem_cons.mpr ⟨lw_5_9, List.forall_mem_cons.mpr ⟨lw_5_18, List.forall_mem_cons.mpr ⟨lw_5_53, List.forall_mem_cons.mpr ⟨lw_5_73, List.forall_mem_cons.mpr ⟨lw_5_80, List.forall_mem_cons.mpr ⟨lw_5_83, List.forall_mem_cons.mpr ⟨lw_5_90, List.forall_mem_cons.mpr ⟨lw_5_93, List.forall_mem_cons.mpr ⟨lw_5_96, List.forall_mem_cons.mpr ⟨lw_5_99, List.forall_mem_cons.mpr ⟨lw_5_103, List.forall_mem_cons.mpr ⟨lw_5_106, List.forall_mem_cons.mpr ⟨lw_5_109, List.forall_mem_cons.mpr ⟨lw_5_112, List.forall_mem_cons.mpr ⟨lw_5_115, List.forall_mem_cons.mpr ⟨lw_5_124, List.forall_mem_cons.mpr ⟨lw_5_131, List.forall_mem_cons.mpr ⟨lw_5_138, List.forall_mem_cons.mpr ⟨lw_5_141, List.forall_mem_cons.mpr ⟨lw_5_145, List.forall_mem_cons.mpr ⟨lw_5_148, List.forall_mem_cons.mpr ⟨lw_5_151, List.forall_mem_cons.mpr ⟨lw_5_156, List.forall_mem_cons.mpr ⟨lw_5_160, List.forall_mem_cons.mpr ⟨lw_5_164, List.forall_mem_cons.mpr ⟨lw_5_167, List.forall_mem_cons.mpr ⟨lw_5_170, List.forall_mem_cons.mpr ⟨lw_5_174, List.forall_mem_cons.mpr ⟨lw_5_177, List.forall_mem_cons.mpr ⟨lw_5_180, List.forall_mem_cons.mpr ⟨lw_5_183, List.forall_mem_cons.mpr ⟨lw_5_186, List.forall_mem_cons.mpr ⟨lw_5_189, List.forall_mem_cons.mpr ⟨lw_5_192, List.forall_mem_cons.mpr ⟨lw_5_194, List.forall_mem_cons.mpr ⟨lw_5_197, List.forall_mem_cons.mpr ⟨lw_5_202, List.forall_mem_cons.mpr ⟨lw_5_209, List.forall_mem_cons.mpr ⟨lw_5_212, List.forall_mem_cons.mpr ⟨lw_5_218, List.forall_mem_cons.mpr ⟨lw_5_221, List.forall_mem_cons.mpr ⟨lw_5_225, List.forall_mem_cons.mpr ⟨lw_5_232, List.forall_mem_cons.mpr ⟨lw_5_236, List.forall_mem_cons.mpr ⟨lw_5_239, List.forall_mem_cons.mpr ⟨lw_5_242, List.forall_mem_cons.mpr ⟨lw_5_246, List.forall_mem_cons.mpr ⟨lw_5_249, List.forall_mem_cons.mpr ⟨lw_5_252, List.forall_mem_cons.mpr ⟨lw_5_255, List.forall_mem_cons.mpr ⟨lw_5_259, List.forall_mem_cons.mpr ⟨lw_5_263, List.forall_mem_cons.mpr ⟨lw_5_266, List.forall_mem_cons.mpr ⟨lw_5_274, List.forall_mem_cons.mpr ⟨lw_5_277, List.forall_mem_cons.mpr ⟨lw_5_283, List.forall_mem_cons.mpr ⟨lw_5_289, List.forall_mem_cons.mpr ⟨lw_5_34, List.forall_mem_cons.mpr ⟨lw_5_41, fun _ h => absurd h List.not_mem_nil⟩⟩⟩⟩⟩⟩⟩⟩⟩⟩⟩⟩⟩⟩⟩⟩⟩⟩⟩⟩⟩⟩⟩⟩⟩⟩⟩⟩⟩⟩⟩⟩⟩⟩⟩⟩⟩⟩⟩⟩⟩⟩⟩⟩⟩⟩⟩⟩⟩⟩⟩⟩⟩⟩⟩⟩⟩⟩⟩⟩
theorem lw_6_7 : GoodIn lw_tbl (lwords 6 7 (3, m_none, 0)) := gi_r _ [843, 104, 105] (by decide +kernel) (by decide +kernel)
theorem lw_6_72 : GoodIn lw_tbl (lwords 6 72 (1, m_X6_isApart, 1)) := gi_r _ [844, 845, 90, 846] (by decide +kernel) (by decide +kernel)
theorem lw_6_76 : GoodIn lw_tbl (lwords 6 76 (0, m_X6_spell, 9)) := gi_r _ [850, 852, 31, 90, 853] (by decide +kernel) (by decide +kernel)
theorem lw_6_86 : GoodIn lw_tbl (lwords 6 86 (1, m_X6_in, 3)) := gi_r _ [995, 996, 90, 997] (by decide +kernel) (by decide +kernel)
theorem lw_6_90 : GoodIn lw_tbl (lwords 6 90 (0, m_X6_isOne, 1)) := gi_r _ [1006, 1008, 34, 90, 1009] (by decide +kernel) (by decide +kernel)
theorem lw_6_93 : GoodIn lw_tbl (lwords 6 93 (0, m_X6_areTwo, 2)) := gi_r _ [1002, 1004, 33, 90, 1005] (by decide +kernel) (by decide +kernel)
theorem lw_6_99 : GoodIn lw_tbl (lwords 6 99 (0, m_X6_isOf, 2)) := gi_r _ [998, 1000, 32, 90, 1001] (by decide +kernel) (by decide +kernel)
theorem lw_6_102 : GoodIn lw_tbl (lwords 6 102 (1, m_X6_mostOf, 1)) := gi_r _ [1010, 1011, 90, 1012] (by decide +kernel) (by decide +kernel)
theorem lw_6_106 : GoodIn lw_tbl (lwords 6 106 (0, m_X6_told, 2)) := gi_r _ [1013, 1014, 1015, 90, 1016] (by decide +kernel) (by decide +kernel)
theorem lw_6_110 : GoodIn lw_tbl (lwords 6 110 (0, m_X6_lays, 3)) := gi_r _ [1115, 1117, 56, 90, 1118] (by decide +kernel) (by decide +kernel)
theorem lw_6_120 : GoodIn lw_tbl (lwords 6 120 (1, m_X6_placeOf, 1)) := gi_r _ [1018, 1019, 90, 1020] (by decide +kernel) (by decide +kernel)
theorem lw_6_132 : GoodIn lw_tbl (lwords 6 132 (0, m_X6_breathOf, 1)) := gi_r _ [1021, 1023, 35, 90, 1024] (by decide +kernel) (by decide +kernel)
theorem lw_6_135 : GoodIn lw_tbl (lwords 6 135 (0, m_X6_owesOf, 1)) := gi_r _ [1111, 1113, 55, 90, 1114] (by decide +kernel) (by decide +kernel)
theorem lw_6_138 : GoodIn lw_tbl (lwords 6 138 (0, m_X6_owedTo, 1)) := gi_r _ [1029, 1031, 37, 90, 1032] (by decide +kernel) (by decide +kernel)
theorem lw_6_141 : GoodIn lw_tbl (lwords 6 141 (0, m_X6_debtOf, 2)) := gi_r _ [1033, 1035, 38, 90, 1036] (by decide +kernel) (by decide +kernel)
theorem lw_6_158 : GoodIn lw_tbl (lwords 6 158 (0, m_X6_byteAt, 1)) := gi_r _ [1045, 1047, 41, 90, 1048] (by decide +kernel) (by decide +kernel)
theorem lw_6_188 : GoodIn lw_tbl (lwords 6 188 (0, m_X6_isLetter, 2)) := gi_r _ [1058, 1060, 43, 90, 1061] (by decide +kernel) (by decide +kernel)
theorem lw_6_194 : GoodIn lw_tbl (lwords 6 194 (0, m_X6_fail, 0)) := gi_r _ [1066, 1068, 45, 90, 1069] (by decide +kernel) (by decide +kernel)
theorem lw_6_197 : GoodIn lw_tbl (lwords 6 197 (0, m_X6_next, 0)) := gi_r _ [1041, 1043, 40, 90, 1044] (by decide +kernel) (by decide +kernel)
theorem lw_6_200 : GoodIn lw_tbl (lwords 6 200 (0, m_X6_isWord, 8)) := gi_r _ [1054, 1056, 42, 90, 1057] (by decide +kernel) (by decide +kernel)
theorem lw_6_222 : GoodIn lw_tbl (lwords 6 222 (0, m_X6_isSign, 1)) := gi_r _ [1098, 1100, 53, 90, 1101] (by decide +kernel) (by decide +kernel)
theorem lw_6_225 : GoodIn lw_tbl (lwords 6 225 (0, m_X6_opens, 0)) := gi_r _ [1082, 1084, 49, 90, 1085] (by decide +kernel) (by decide +kernel)
theorem lw_6_229 : GoodIn lw_tbl (lwords 6 229 (0, m_X6_atom, 0)) := gi_r _ [1094, 1096, 52, 90, 1097] (by decide +kernel) (by decide +kernel)
theorem lw_6_233 : GoodIn lw_tbl (lwords 6 233 (0, m_X6_either, 0)) := gi_r _ [1070, 1072, 46, 90, 1073] (by decide +kernel) (by decide +kernel)
theorem lw_6_236 : GoodIn lw_tbl (lwords 6 236 (0, m_X6_name, 0)) := gi_r _ [1102, 1104, 54, 90, 1105] (by decide +kernel) (by decide +kernel)
theorem lw_6_239 : GoodIn lw_tbl (lwords 6 239 (0, m_X6_term, 0)) := gi_r _ [1090, 1092, 51, 90, 1093] (by decide +kernel) (by decide +kernel)
theorem lw_6_244 : GoodIn lw_tbl (lwords 6 244 (0, m_X6_not, 0)) := gi_r _ [1078, 1080, 48, 90, 1081] (by decide +kernel) (by decide +kernel)
theorem lw_6_247 : GoodIn lw_tbl (lwords 6 247 (0, m_X6_added, 0)) := gi_r _ [1086, 1088, 50, 90, 1089] (by decide +kernel) (by decide +kernel)
theorem lw_6_252 : GoodIn lw_tbl (lwords 6 252 (0, m_X6_both, 0)) := gi_r _ [1074, 1076, 47, 90, 1077] (by decide +kernel) (by decide +kernel)
theorem lw_6_255 : GoodIn lw_tbl (lwords 6 255 (0, m_X6_part, 1)) := gi_r _ [1062, 1064, 44, 90, 1065] (by decide +kernel) (by decide +kernel)
theorem lw_6_259 : GoodIn lw_tbl (lwords 6 259 (0, m_X6_read, 2)) := gi_r _ [1037, 1039, 39, 90, 1040] (by decide +kernel) (by decide +kernel)
theorem lw_6_262 : GoodIn lw_tbl (lwords 6 262 (1, m_X6_within, 3)) := gi_r _ [1108, 1109, 90, 1110] (by decide +kernel) (by decide +kernel)
theorem lw_6_266 : GoodIn lw_tbl (lwords 6 266 (0, m_X6_says, 3)) := gi_r _ [1025, 1027, 36, 90, 1028] (by decide +kernel) (by decide +kernel)
theorem lw_6_269 : GoodIn lw_tbl (lwords 6 269 (0, m_X6_willOf, 2)) := gi_r _ [1148, 1150, 58, 90, 1151] (by decide +kernel) (by decide +kernel)
theorem lw_6_272 : GoodIn lw_tbl (lwords 6 272 (0, m_X6_hasBreath, 1)) := gi_r _ [1156, 1158, 60, 90, 1159] (by decide +kernel) (by decide +kernel)
theorem lw_6_277 : GoodIn lw_tbl (lwords 6 277 (0, m_X6_paysOf, 2)) := gi_r _ [1144, 1146, 57, 90, 1147] (by decide +kernel) (by decide +kernel)
theorem lw_6_280 : GoodIn lw_tbl (lwords 6 280 (0, m_X6_mayDance, 2)) := gi_r _ [1152, 1154, 59, 90, 1155] (by decide +kernel) (by decide +kernel)
theorem lw_6_283 : GoodIn lw_tbl (lwords 6 283 (0, m_X6_dances, 1)) := gi_r _ [1168, 1170, 62, 90, 1171] (by decide +kernel) (by decide +kernel)
theorem lw_6_287 : GoodIn lw_tbl (lwords 6 287 (0, m_X6_danceBoth, 2)) := gi_r _ [1164, 1166, 61, 90, 1167] (by decide +kernel) (by decide +kernel)
theorem lw_6_293 : GoodIn lw_tbl (lwords 6 293 (0, m_X6_passes, 0)) := gi_r _ [1176, 1178, 63, 90, 1179] (by decide +kernel) (by decide +kernel)
theorem lw_6_297 : GoodIn lw_tbl (lwords 6 297 (0, m_X6_ringOf, 1)) := gi_r _ [1188, 1190, 64, 90, 1191] (by decide +kernel) (by decide +kernel)
theorem lw_6_302 : GoodIn lw_tbl (lwords 6 302 (0, m_X6_laysAside, 0)) := gi_r _ [1198, 1200, 65, 90, 1201] (by decide +kernel) (by decide +kernel)
theorem lw_6_305 : GoodIn lw_tbl (lwords 6 305 (0, m_X6_owedAll, 0)) := gi_r _ [1202, 1204, 66, 90, 1205] (by decide +kernel) (by decide +kernel)
theorem lw_6_308 : GoodIn lw_tbl (lwords 6 308 (0, m_X6_owedSet, 0)) := gi_r _ [1206, 1208, 67, 90, 1209] (by decide +kernel) (by decide +kernel)
theorem lw_6_311 : GoodIn lw_tbl (lwords 6 311 (0, m_X6_laysBack, 0)) := gi_r _ [1210, 1212, 68, 90, 1213] (by decide +kernel) (by decide +kernel)
theorem lw_6_314 : GoodIn lw_tbl (lwords 6 314 (1, m_X6_both_, 1)) := gi_r _ [847, 848, 90, 849] (by decide +kernel) (by decide +kernel)
theorem lw_6_316 : GoodIn lw_tbl (lwords 6 316 (1, m_X6_greater, 1)) := gi_r _ [1226, 1227, 90, 1228] (by decide +kernel) (by decide +kernel)
theorem lw_6_319 : GoodIn lw_tbl (lwords 6 319 (1, m_X6_lesser, 1)) := gi_r _ [1229, 1230, 90, 1231] (by decide +kernel) (by decide +kernel)
theorem lw_6_322 : GoodIn lw_tbl (lwords 6 322 (0, m_X6_isSet, 1)) := gi_r _ [1222, 1224, 70, 90, 1225] (by decide +kernel) (by decide +kernel)
theorem lw_6_325 : GoodIn lw_tbl (lwords 6 325 (0, m_X6_dancesOf, 1)) := gi_r _ [1232, 1234, 71, 90, 1235] (by decide +kernel) (by decide +kernel)
theorem lw_6_328 : GoodIn lw_tbl (lwords 6 328 (0, m_X6_isPaidBy, 1)) := gi_r _ [1244, 1246, 74, 90, 1247] (by decide +kernel) (by decide +kernel)
theorem lw_6_332 : GoodIn lw_tbl (lwords 6 332 (0, m_X6_ringFrom, 4)) := gi_r _ [1257, 1259, 77, 90, 1260] (by decide +kernel) (by decide +kernel)
theorem lw_6_336 : GoodIn lw_tbl (lwords 6 336 (0, m_X6_bestSet, 1)) := gi_r _ [1218, 1220, 69, 90, 1221] (by decide +kernel) (by decide +kernel)
theorem lw_6_339 : GoodIn lw_tbl (lwords 6 339 (0, m_X6_nextRound, 1)) := gi_r _ [1236, 1238, 72, 90, 1239] (by decide +kernel) (by decide +kernel)
theorem lw_6_342 : GoodIn lw_tbl (lwords 6 342 (0, m_X6_soonest, 0)) := gi_r _ [1240, 1242, 73, 90, 1243] (by decide +kernel) (by decide +kernel)
theorem lw_6_345 : GoodIn lw_tbl (lwords 6 345 (0, m_X6_leastOwed, 0)) := gi_r _ [1248, 1250, 75, 90, 1251] (by decide +kernel) (by decide +kernel)
theorem lw_6_348 : GoodIn lw_tbl (lwords 6 348 (0, m_X6_longestRing, 0)) := gi_r _ [1253, 1255, 76, 90, 1256] (by decide +kernel) (by decide +kernel)
theorem lw_6_351 : GoodIn lw_tbl (lwords 6 351 (0, m_X6_ends, 0)) := gi_r _ [1261, 1263, 78, 90, 1264] (by decide +kernel) (by decide +kernel)
theorem lw_6_354 : GoodIn lw_tbl (lwords 6 354 (0, m_X6_keeper, 0)) := gi_r _ [1265, 1267, 79, 90, 1268] (by decide +kernel) (by decide +kernel)
theorem lw_6_357 : GoodIn lw_tbl (lwords 6 357 (1, m_X6_lowest, 3)) := gi_r _ [1273, 1274, 90, 1275] (by decide +kernel) (by decide +kernel)
theorem lw_6_363 : GoodIn lw_tbl (lwords 6 363 (0, m_X6_firstOther, 2)) := gi_r _ [1285, 1287, 80, 90, 1288] (by decide +kernel) (by decide +kernel)
theorem lw_6_366 : GoodIn lw_tbl (lwords 6 366 (1, m_X6_isSheet, 1)) := gi_r _ [1281, 1282, 90, 1283] (by decide +kernel) (by decide +kernel)
theorem lw_6_369 : GoodIn lw_tbl (lwords 6 369 (0, m_X6_likeSet, 2)) := gi_r _ [1289, 1291, 81, 90, 1292] (by decide +kernel) (by decide +kernel)
theorem lw_6_374 : GoodIn lw_tbl (lwords 6 374 (0, m_X6_sheet, 3)) := gi_r _ [1298, 1299, 1300, 90, 1301] (by decide +kernel) (by decide +kernel)
theorem lw_6_378 : GoodIn lw_tbl (lwords 6 378 (0, m_X6_endsDrawn, 1)) := gi_r _ [1307, 1309, 82, 90, 1310] (by decide +kernel) (by decide +kernel)
theorem lw_6_396 : GoodIn lw_tbl (lwords 6 396 (0, m_X6_dancer, 2)) := gi_r _ [1342, 1120, 1121, 90, 1122] (by decide +kernel) (by decide +kernel)
theorem lw_6_399 : GoodIn lw_tbl (lwords 6 399 (1, m_X6_over, 1)) := gi_r _ [1347, 1348, 90, 1349] (by decide +kernel) (by decide +kernel)
theorem lwA_6 : ∀ q ∈ lnk_6, GoodIn lw_tbl (lwords 6 q.1 q.2) := List.forall_mem_cons.mpr ⟨lw_6_7, List.forall_mem_cons.mpr ⟨lw_6_72, List.forall_mem_cons.mpr ⟨lw_6_76, List.forall_mem_cons.mpr ⟨lw_6_86, List.forall_mem_cons.mpr ⟨lw_6_90, List.forall_mem_cons.mpr ⟨lw_6_93, List.forall_mem_cons.mpr ⟨lw_6_99, List.forall_mem_cons.mpr ⟨lw_6_102, List.forall_mem_cons.mpr ⟨lw_6_106, List.forall_mem_cons.mpr ⟨lw_6_110, List.forall_mem_cons.mpr ⟨lw_6_120, List.forall_mem_cons.mpr ⟨lw_6_132, List.forall_mem_cons.mpr ⟨lw_6_135, List.forall_mem_cons.mpr ⟨lw_6_138, List.forall_mem_cons.mpr ⟨lw_6_141, List.forall_mem_cons.mpr ⟨lw_6_158, List.forall_mem_cons.mpr ⟨lw_6_188, List.forall_mem_cons.mpr ⟨lw_6_194, List.forall_mem_cons.mpr ⟨lw_6_197, List.forall_mem_cons.mpr ⟨lw_6_200, List.forall_mem_cons.mpr ⟨lw_6_222, List.forall_mem_cons.mpr ⟨lw_6_225, List.forall_mem_cons.mpr ⟨lw_6_229, List.forall_mem_cons.mpr ⟨lw_6_233, List.forall_mem_cons.mpr ⟨lw_6_236, List.forall_mem_cons.mpr ⟨lw_6_239, List.forall_mem_cons.mpr ⟨lw_6_244, List.forall_mem_cons.mpr ⟨lw_6_247, List.forall_mem_cons.mpr ⟨lw_6_252, List.forall_mem_cons.mpr ⟨lw_6_255, List.forall_mem_cons.mpr ⟨lw_6_259, List.forall_mem_cons.mpr ⟨lw_6_262, List.forall_mem_cons.mpr ⟨lw_6_266, List.forall_mem_cons.mpr ⟨lw_6_269, List.forall_mem_cons.mpr ⟨lw_6_272, List.forall_mem_cons.mpr ⟨lw_6_277, List.forall_mem_cons.mpr ⟨lw_6_280, List.forall_mem_cons.mpr ⟨lw_6_283, List.forall_mem_cons.mpr ⟨lw_6_287, List.forall_mem_cons.mpr ⟨lw_6_293, List.forall_mem_cons.mpr ⟨lw_6_297, List.forall_mem_cons.mpr ⟨lw_6_302, List.forall_mem_cons.mpr ⟨lw_6_305, List.forall_mem_cons.mpr ⟨lw_6_308, List.forall_mem_cons.mpr ⟨lw_6_311, List.forall_mem_cons.mpr ⟨lw_6_314, List.forall_mem_cons.mpr ⟨lw_6_316, List.forall_mem_cons.mpr ⟨lw_6_319, List.forall_mem_cons.mpr ⟨lw_6_322, List.forall_mem_cons.mpr ⟨lw_6_325, List.forall_mem_cons.mpr ⟨lw_6_328, List.forall_mem_cons.mpr ⟨lw_6_332, List.forall_mem_cons.mpr ⟨lw_6_336, List.forall_mem_cons.mpr ⟨lw_6_339, List.forall_mem_cons.mpr ⟨lw_6_342, List.forall_mem_cons.mpr ⟨lw_6_345, List.forall_mem_cons.mpr ⟨lw_6_348, List.forall_mem_cons.mpr ⟨lw_6_351, List.forall_mem_cons.mpr ⟨lw_6_354, List.forall_mem_cons.mpr ⟨lw_6_357, List.forall_mem_cons.mpr ⟨lw_6_363, List.forall_mem_cons.mpr ⟨lw_6_366, List.forall_mem_cons.mpr ⟨lw_6_369, List.forall_mem_cons.mpr ⟨lw_6_374, List.forall_mem_cons.mpr ⟨lw_6_378, List.forall_mem_cons.mpr ⟨lw_6_396, List.forall_mem_cons.mpr ⟨lw_6_399, fun _ h => absurd h List.not_mem_nil⟩⟩⟩⟩⟩⟩⟩⟩⟩⟩⟩⟩⟩⟩⟩⟩⟩⟩⟩⟩⟩⟩⟩⟩⟩⟩⟩⟩⟩⟩⟩⟩⟩⟩⟩⟩⟩⟩⟩⟩⟩⟩⟩⟩⟩⟩⟩⟩⟩⟩⟩⟩⟩⟩⟩⟩⟩⟩⟩⟩⟩⟩⟩⟩⟩⟩⟩
theorem lw_7_9 : GoodIn lw_tbl (lwords 7 9 (2, m_X5_init, 0)) := gi_r _ [100, 101, 84, 102] (by decide +kernel) (by decide +kernel)
theorem lw_7_12 : GoodIn lw_tbl (lwords 7 12 (2, m_X6_init, 0)) := gi_r _ [840, 841, 90, 842] (by decide +kernel) (by decide +kernel)
theorem lw_7_13 : GoodIn lw_tbl (lwords 7 13 (0, m_X5_set, 3)) := gi_r _ [288, 289, 290, 84, 291] (by decide +kernel) (by decide +kernel)
theorem lw_7_17 : GoodIn lw_tbl (lwords 7 17 (0, m_X6_set, 3)) := gi_r _ [990, 991, 992, 90, 993] (by decide +kernel) (by decide +kernel)
theorem lw_7_18 : GoodIn lw_tbl (lwords 7 18 (0, m_X5_dancer, 2)) := gi_r _ [334, 335, 336, 84, 337] (by decide +kernel) (by decide +kernel)
theorem lw_7_22 : GoodIn lw_tbl (lwords 7 22 (0, m_X6_dancer, 2)) := gi_r _ [1119, 1120, 1121, 90, 1122] (by decide +kernel) (by decide +kernel)
theorem lw_7_23 : GoodIn lw_tbl (lwords 7 23 (0, m_X5_told, 2)) := gi_r _ [342, 295, 296, 84, 297] (by decide +kernel) (by decide +kernel)
theorem lw_7_26 : GoodIn lw_tbl (lwords 7 26 (0, m_X6_told, 2)) := gi_r _ [1125, 1014, 1015, 90, 1016] (by decide +kernel) (by decide +kernel)
theorem lw_7_27 : GoodIn lw_tbl (lwords 7 27 (0, m_X5_asks, 3)) := gi_r _ [343, 344, 345, 84, 346] (by decide +kernel) (by decide +kernel)
theorem lw_7_30 : GoodIn lw_tbl (lwords 7 30 (0, m_X6_asks, 3)) := gi_r _ [1139, 1140, 1141, 90, 1142] (by decide +kernel) (by decide +kernel)
theorem lw_7_31 : GoodIn lw_tbl (lwords 7 31 (0, m_X5_feed, 1)) := gi_r _ [366, 367, 368, 84, 369] (by decide +kernel) (by decide +kernel)
theorem lw_7_35 : GoodIn lw_tbl (lwords 7 35 (0, m_X6_feed, 1)) := gi_r _ [1126, 1127, 1128, 90, 1129] (by decide +kernel) (by decide +kernel)
theorem lw_7_36 : GoodIn lw_tbl (lwords 7 36 (0, m_X5_text, 0)) := gi_r _ [374, 375, 376, 84, 377] (by decide +kernel) (by decide +kernel)
theorem lw_7_40 : GoodIn lw_tbl (lwords 7 40 (0, m_X6_text, 0)) := gi_r _ [1131, 1132, 1133, 90, 1134] (by decide +kernel) (by decide +kernel)
theorem lw_7_41 : GoodIn lw_tbl (lwords 7 41 (0, m_X5_force, 1)) := gi_r _ [581, 582, 583, 84, 584] (by decide +kernel) (by decide +kernel)
theorem lw_7_44 : GoodIn lw_tbl (lwords 7 44 (0, m_X6_force, 1)) := gi_r _ [1135, 1136, 1137, 90, 1138] (by decide +kernel) (by decide +kernel)
theorem lw_7_45 : GoodIn lw_tbl (lwords 7 45 (0, m_X5_dance, 2)) := gi_r _ [585, 586, 587, 84, 588] (by decide +kernel) (by decide +kernel)
theorem lw_7_48 : GoodIn lw_tbl (lwords 7 48 (0, m_X6_dance, 2)) := gi_r _ [1160, 1161, 1162, 90, 1163] (by decide +kernel) (by decide +kernel)
theorem lw_7_49 : GoodIn lw_tbl (lwords 7 49 (0, m_X5_round, 0)) := gi_r _ [603, 604, 605, 84, 606] (by decide +kernel) (by decide +kernel)
theorem lw_7_52 : GoodIn lw_tbl (lwords 7 52 (0, m_X6_round, 0)) := gi_r _ [1172, 1173, 1174, 90, 1175] (by decide +kernel) (by decide +kernel)
theorem lw_7_53 : GoodIn lw_tbl (lwords 7 53 (0, m_X5_night, 0)) := gi_r _ [615, 616, 617, 84, 618] (by decide +kernel) (by decide +kernel)
theorem lw_7_56 : GoodIn lw_tbl (lwords 7 56 (0, m_X6_night, 0)) := gi_r _ [1180, 1181, 1182, 90, 1183] (by decide +kernel) (by decide +kernel)
theorem lw_7_57 : GoodIn lw_tbl (lwords 7 57 (0, m_X5_strike, 1)) := gi_r _ [623, 624, 625, 84, 626] (by decide +kernel) (by decide +kernel)
theorem lw_7_60 : GoodIn lw_tbl (lwords 7 60 (0, m_X6_strike, 1)) := gi_r _ [1184, 1185, 1186, 90, 1187] (by decide +kernel) (by decide +kernel)
theorem lw_7_61 : GoodIn lw_tbl (lwords 7 61 (0, m_X5_run, 4)) := gi_r _ [633, 634, 635, 84, 636] (by decide +kernel) (by decide +kernel)
theorem lw_7_65 : GoodIn lw_tbl (lwords 7 65 (0, m_X6_run, 4)) := gi_r _ [1193, 1194, 1195, 90, 1196] (by decide +kernel) (by decide +kernel)
theorem lw_7_66 : GoodIn lw_tbl (lwords 7 66 (0, m_X5_best, 1)) := gi_r _ [655, 656, 657, 84, 658] (by decide +kernel) (by decide +kernel)
theorem lw_7_69 : GoodIn lw_tbl (lwords 7 69 (0, m_X6_best, 1)) := gi_r _ [1214, 1215, 1216, 90, 1217] (by decide +kernel) (by decide +kernel)
theorem lw_7_70 : GoodIn lw_tbl (lwords 7 70 (0, m_X5_share, 2)) := gi_r _ [722, 723, 724, 84, 725] (by decide +kernel) (by decide +kernel)
theorem lw_7_74 : GoodIn lw_tbl (lwords 7 74 (0, m_X6_share, 2)) := gi_r _ [1269, 1270, 1271, 90, 1272] (by decide +kernel) (by decide +kernel)
theorem lw_7_75 : GoodIn lw_tbl (lwords 7 75 (0, m_X5_tells, 4)) := gi_r _ [730, 731, 732, 84, 733] (by decide +kernel) (by decide +kernel)
theorem lw_7_78 : GoodIn lw_tbl (lwords 7 78 (0, m_X6_tells, 4)) := gi_r _ [1277, 1278, 1279, 90, 1280] (by decide +kernel) (by decide +kernel)
theorem lw_7_79 : GoodIn lw_tbl (lwords 7 79 (0, m_X5_film, 4)) := gi_r _ [770, 771, 772, 84, 773] (by decide +kernel) (by decide +kernel)
theorem lw_7_82 : GoodIn lw_tbl (lwords 7 82 (0, m_X6_film, 4)) := gi_r _ [1293, 1294, 1295, 90, 1296] (by decide +kernel) (by decide +kernel)
theorem lw_7_83 : GoodIn lw_tbl (lwords 7 83 (0, m_X5_drawn, 1)) := gi_r _ [782, 783, 784, 84, 785] (by decide +kernel) (by decide +kernel)
theorem lw_7_86 : GoodIn lw_tbl (lwords 7 86 (0, m_X6_drawn, 1)) := gi_r _ [1303, 1304, 1305, 90, 1306] (by decide +kernel) (by decide +kernel)
theorem lw_7_87 : GoodIn lw_tbl (lwords 7 87 (0, m_X5_chance, 4)) := gi_r _ [791, 792, 793, 84, 794] (by decide +kernel) (by decide +kernel)
theorem lw_7_91 : GoodIn lw_tbl (lwords 7 91 (0, m_X6_chance, 4)) := gi_r _ [1312, 1313, 1314, 90, 1315] (by decide +kernel) (by decide +kernel)
theorem lw_7_92 : GoodIn lw_tbl (lwords 7 92 (0, m_X5_image, 0)) := gi_r _ [795, 796, 797, 84, 798] (by decide +kernel) (by decide +kernel)
theorem lw_7_95 : GoodIn lw_tbl (lwords 7 95 (0, m_X6_image, 0)) := gi_r _ [1317, 1318, 1319, 90, 1320] (by decide +kernel) (by decide +kernel)
theorem lw_7_96 : GoodIn lw_tbl (lwords 7 96 (0, m_X5_back, 0)) := gi_r _ [799, 800, 801, 84, 802] (by decide +kernel) (by decide +kernel)
theorem lw_7_99 : GoodIn lw_tbl (lwords 7 99 (0, m_X6_back, 0)) := gi_r _ [1321, 1322, 1323, 90, 1324] (by decide +kernel) (by decide +kernel)
theorem lw_7_100 : GoodIn lw_tbl (lwords 7 100 (0, m_X5_count, 1)) := gi_r _ [803, 804, 805, 84, 806] (by decide +kernel) (by decide +kernel)
theorem lw_7_103 : GoodIn lw_tbl (lwords 7 103 (0, m_X6_count, 1)) := gi_r _ [1325, 1326, 1327, 90, 1328] (by decide +kernel) (by decide +kernel)
theorem lw_7_104 : GoodIn lw_tbl (lwords 7 104 (0, m_X5_sheet, 3)) := gi_r _ [807, 808, 809, 84, 810] (by decide +kernel) (by decide +kernel)
theorem lw_7_107 : GoodIn lw_tbl (lwords 7 107 (0, m_X6_sheet, 3)) := gi_r _ [1329, 1299, 1300, 90, 1301] (by decide +kernel) (by decide +kernel)
theorem lw_7_108 : GoodIn lw_tbl (lwords 7 108 (0, m_X5_cell, 3)) := gi_r _ [814, 815, 816, 84, 817] (by decide +kernel) (by decide +kernel)
theorem lw_7_111 : GoodIn lw_tbl (lwords 7 111 (0, m_X6_cell, 3)) := gi_r _ [1330, 1331, 1332, 90, 1333] (by decide +kernel) (by decide +kernel)
theorem lw_7_112 : GoodIn lw_tbl (lwords 7 112 (0, m_X5_copy, 5)) := gi_r _ [822, 823, 824, 84, 825] (by decide +kernel) (by decide +kernel)
theorem lw_7_116 : GoodIn lw_tbl (lwords 7 116 (0, m_X6_copy, 5)) := gi_r _ [1334, 1335, 1336, 90, 1337] (by decide +kernel) (by decide +kernel)
theorem lw_7_117 : GoodIn lw_tbl (lwords 7 117 (0, m_X5_room, 4)) := gi_r _ [827, 828, 829, 84, 830] (by decide +kernel) (by decide +kernel)
theorem lw_7_120 : GoodIn lw_tbl (lwords 7 120 (0, m_X6_room, 4)) := gi_r _ [1338, 1339, 1340, 90, 1341] (by decide +kernel) (by decide +kernel)
theorem lw_7_121 : GoodIn lw_tbl (lwords 7 121 (0, m_X5_taken, 2)) := gi_r _ [832, 833, 834, 84, 835] (by decide +kernel) (by decide +kernel)
theorem lw_7_124 : GoodIn lw_tbl (lwords 7 124 (0, m_X6_taken, 2)) := gi_r _ [1343, 1344, 1345, 90, 1346] (by decide +kernel) (by decide +kernel)
theorem lwA_7 : ∀ q ∈ lnk_7, GoodIn lw_tbl (lwords 7 q.1 q.2) := List.forall_mem_cons.mpr ⟨lw_7_9, List.forall_mem_cons.mpr ⟨lw_7_12, List.forall_mem_cons.mpr ⟨lw_7_13, List.forall_mem_cons.mpr ⟨lw_7_17, List.forall_mem_cons.mpr ⟨lw_7_18, List.forall_mem_cons.mpr ⟨lw_7_22, List.forall_mem_cons.mpr ⟨lw_7_23, List.forall_mem_cons.mpr ⟨lw_7_26, List.forall_mem_cons.mpr ⟨lw_7_27, List.forall_mem_cons.mpr ⟨lw_7_30, List.forall_mem_cons.mpr ⟨lw_7_31, List.forall_mem_cons.mpr ⟨lw_7_35, List.forall_mem_cons.mpr ⟨lw_7_36, List.forall_mem_cons.mpr ⟨lw_7_40, List.forall_mem_cons.mpr ⟨lw_7_41, List.forall_mem_cons.mpr ⟨lw_7_44, List.forall_mem_cons.mpr ⟨lw_7_45, List.forall_mem_cons.mpr ⟨lw_7_48, List.forall_mem_cons.mpr ⟨lw_7_49, List.forall_mem_cons.mpr ⟨lw_7_52, List.forall_mem_cons.mpr ⟨lw_7_53, List.forall_mem_cons.mpr ⟨lw_7_56, List.forall_mem_cons.mpr ⟨lw_7_57, List.forall_mem_cons.mpr ⟨lw_7_60, List.forall_mem_cons.mpr ⟨lw_7_61, List.forall_mem_cons.mpr ⟨lw_7_65, List.forall_mem_cons.mpr ⟨lw_7_66, List.forall_mem_cons.mpr ⟨lw_7_69, List.forall_mem_cons.mpr ⟨lw_7_70, List.forall_mem_cons.mpr ⟨lw_7_74, List.forall_mem_cons.mpr ⟨lw_7_75, List.forall_mem_cons.mpr ⟨lw_7_78, List.forall_mem_cons.mpr ⟨lw_7_79, List.forall_mem_cons.mpr ⟨lw_7_82, List.forall_mem_cons.mpr ⟨lw_7_83, List.forall_mem_cons.mpr ⟨lw_7_86, List.forall_mem_cons.mpr ⟨lw_7_87, List.forall_mem_cons.mpr ⟨lw_7_91, List.forall_mem_cons.mpr ⟨lw_7_92, List.forall_mem_cons.mpr ⟨lw_7_95, List.forall_mem_cons.mpr ⟨lw_7_96, List.forall_mem_cons.mpr ⟨lw_7_99, List.forall_mem_cons.mpr ⟨lw_7_100, List.forall_mem_cons.mpr ⟨lw_7_103, List.forall_mem_cons.mpr ⟨lw_7_104, List.forall_mem_cons.mpr ⟨lw_7_107, List.forall_mem_cons.mpr ⟨lw_7_108, List.forall_mem_cons.mpr ⟨lw_7_111, List.forall_mem_cons.mpr ⟨lw_7_112, List.forall_mem_cons.mpr ⟨lw_7_116, List.forall_mem_cons.mpr ⟨lw_7_117, List.forall_mem_cons.mpr ⟨lw_7_120, List.forall_mem_cons.mpr ⟨lw_7_121, List.forall_mem_cons.mpr ⟨lw_7_124, fun _ h => absurd h List.not_mem_nil⟩⟩⟩⟩⟩⟩⟩⟩⟩⟩⟩⟩⟩⟩⟩⟩⟩⟩⟩⟩⟩⟩⟩⟩⟩⟩⟩⟩⟩⟩⟩⟩⟩⟩⟩⟩⟩⟩⟩⟩⟩⟩⟩⟩⟩⟩⟩⟩⟩⟩⟩⟩⟩⟩
def fwords (own idx : Nat) (e : Nat × Nat × Nat × Bool) : List Cond := match nth vwCl e.1 with
  | none => []
  | some q => [.fieldLink (own8 own) idx (q.2.1 e.2.1).1 (q.2.1 e.2.1).2.1 (q.2.1 e.2.1).2.2.1]
set_option maxRecDepth 100000 in
theorem fW_ok : GoodIn lw_tbl (allT fldT fwords) := gi_r _ [161, 163, 165, 167, 172, 173, 152, 153, 155, 157, 159, 133, 169, 171, 252, 254, 208, 211, 213, 209, 212, 214, 219, 215, 216, 218, 129, 132, 134, 130, 122, 120, 248, 253, 250, 119, 121, 263, 264, 265, 266, 267, 268, 270, 156, 158, 164, 166, 168, 154, 162, 210, 131, 217, 160, 170, 249, 251, 269, 255, 854, 855, 858, 862, 863, 864, 866, 883, 884, 885, 886, 887, 888, 889, 890, 894, 895, 896, 897, 856, 865, 860, 861, 857, 859, 874, 873, 875, 877, 876, 878, 880, 881, 879, 867, 868, 869, 870, 871, 872, 882, 891, 892, 893] (by decide +kernel) (by decide +kernel)
def cwords (own idx : Nat) (ci : Nat) : List Cond := match nth vwCl ci with
  | none => [.classLink (own8 own) idx "[I"]
  | some q => [.classLink (own8 own) idx q.1, .instantiable q.1 q.2.2, .initialized q.1]
set_option maxRecDepth 100000 in
theorem cW_ok : GoodIn lw_tbl (allT clkT cwords) := gi_r _ [567, 114, 86, 574, 112, 114, 86, 106, 107, 85, 144, 145, 87, 202, 203, 88, 241, 243, 89, 98, 99, 84, 838, 839, 90] (by decide +kernel) (by decide +kernel)
def lcwords (own idx : Nat) (v : Int64) : List Cond := [.constantLong (own8 own) idx v]
set_option maxRecDepth 100000 in
theorem lcW_ok : GoodIn lw_tbl (allT lckT lcwords) := gi_r _ [726, 994, 1017, 1049, 1050, 1051, 1052, 1053, 1106, 1107, 1123, 1124, 1143, 1130, 1197, 1276, 1284, 1297, 1302, 1316] (by decide +kernel) (by decide +kernel)
def icwords (own idx : Nat) (v : Int32) : List Cond := [.constant (own8 own) idx v]
set_option maxRecDepth 100000 in
theorem icW_ok : GoodIn lw_tbl (allT ickT icwords) := gi_r _ [790, 1192, 1252, 1311] (by decide +kernel) (by decide +kernel)
def sfwords (own idx : Nat) (j : Nat) : List Cond := if own = 5 then [.fieldLink RX5 idx RX5 (stN j) "[I"] else []
set_option maxRecDepth 100000 in
theorem sfW_ok : GoodIn lw_tbl (allT sflT sfwords) := gi_r _ [292, 695, 836] (by decide +kernel) (by decide +kernel)
theorem uW_0 : GoodIn lw_tbl wsX00 := gi_r _ [174, 176, 178, 180, 182, 184, 186, 188, 190, 192, 194, 196, 198] (by decide +kernel) (by decide +kernel)
theorem uW_1 : GoodIn lw_tbl wsX10 := gi_r _ [220, 222, 224, 226, 228, 230, 232, 234, 236, 238] (by decide +kernel) (by decide +kernel)
theorem uW_2 : GoodIn lw_tbl wsX20 := gi_r _ [135, 137, 139, 141] (by decide +kernel) (by decide +kernel)
theorem uW_3 : GoodIn lw_tbl wsX30 := gi_r _ [256, 258, 260] (by decide +kernel) (by decide +kernel)
theorem uW_4 : GoodIn lw_tbl wsX40 := gi_r _ [123, 125] (by decide +kernel) (by decide +kernel)
theorem uW_5 : GoodIn lw_tbl wsX50 := gi_r _ [271, 273, 275, 277, 279, 281, 283, 285] (by decide +kernel) (by decide +kernel)
theorem uW_6 : GoodIn lw_tbl wsX60 := gi_r _ [898, 900, 902, 904, 906, 908, 910, 912, 914, 916, 918, 920, 922, 924, 926, 928, 930, 932, 934, 936, 938, 940, 942, 944, 946, 948, 950, 952, 954, 956, 958, 960, 962, 964, 966, 968, 970, 972, 974, 976, 978, 980, 982, 984, 986] (by decide +kernel) (by decide +kernel)
theorem aW_ok : GoodIn lw_tbl [.arrayClass .int, .arrayClass .boolean] := gi_r _ [128, 989] (by decide +kernel) (by decide +kernel)
/-- the words that every method is given: all good ones of the tables -/
def goodB (w : Cond) : Bool := match w with
  | .code .. => true
  | w => goodWord w
def ALLW : List Cond := lw_tbl.filter goodWord
theorem ALLW_good {big : List Cond} (h : ∀ w ∈ ALLW, w ∈ big) : GoodIn big ALLW := fun w hw => ⟨h w hw, good_of_word (List.mem_filter.mp hw).2⟩
theorem ALLW_in {ws : List Cond} (h : GoodIn lw_tbl ws) (hg : ws.all goodWord = true) : ∀ w ∈ ws, w ∈ ALLW := fun w hw => List.mem_filter.mpr ⟨(h w hw).1, List.all_eq_true.mp hg w hw⟩
theorem lwW {own idx : Nat} {e : LK} (h : lnk own idx = some e) : GoodIn lw_tbl (lwords own idx e) := by
  unfold lnk at h
  split at h
  · cases h
  · rename_i l hl
    have hm := lkp_mem l idx e h
    match own, hl with
    | 0, hl => cases hl; exact lwA_0 _ hm
    | 1, hl => cases hl; exact lwA_1 _ hm
    | 2, hl => cases hl; exact lwA_2 _ hm
    | 3, hl => cases hl; exact lwA_3 _ hm
    | 4, hl => cases hl; exact lwA_4 _ hm
    | 5, hl => cases hl; exact lwA_5 _ hm
    | 6, hl => cases hl; exact lwA_6 _ hm
    | 7, hl => cases hl; exact lwA_7 _ hm
    | n + 8, hl => simp [lnkT, nth] at hl
