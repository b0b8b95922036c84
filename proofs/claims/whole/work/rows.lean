section
-- ===== PART A: goes FIRST, ahead of the names: the tables' words, and 'selects' of the private methods out of them =====
/-- a private method of a class that the tables say can be made, by its rows of tables_1 -/
def lw_okq (q : MethodName × Nat) : Prop := (q.1.cls ≠ "java/lang/invoke/MethodHandle" ∧ q.1.cls ≠ "java/lang/invoke/VarHandle") ∧ Cond.instantiable q.1.cls q.2 ∈ tables_1 ∧ Cond.privateMethod q.1 ∈ tables_1 ∧ Cond.instanceMethod q.1 ∈ tables_1
theorem lw_p0 : lw_okq (⟨"DanceStillOwed", "debtPlace", "(I)I"⟩, 8) := ⟨⟨by decide +kernel, by decide +kernel⟩, List.mem_of_getElem? (i := 16) (by decide +kernel), List.mem_of_getElem? (i := 216) (by decide +kernel), List.mem_of_getElem? (i := 217) (by decide +kernel)⟩
theorem lw_p1 : lw_okq (⟨"DanceStillOwed", "isTwo", "(II)Z"⟩, 8) := ⟨⟨by decide +kernel, by decide +kernel⟩, List.mem_of_getElem? (i := 16) (by decide +kernel), List.mem_of_getElem? (i := 220) (by decide +kernel), List.mem_of_getElem? (i := 221) (by decide +kernel)⟩
theorem lw_p2 : lw_okq (⟨"DanceStillOwed", "isDancer", "(I)Z"⟩, 8) := ⟨⟨by decide +kernel, by decide +kernel⟩, List.mem_of_getElem? (i := 16) (by decide +kernel), List.mem_of_getElem? (i := 224) (by decide +kernel), List.mem_of_getElem? (i := 225) (by decide +kernel)⟩
theorem lw_p3 : lw_okq (⟨"DanceStillOwed$Floor", "value", "(III)I"⟩, 13) := ⟨⟨by decide +kernel, by decide +kernel⟩, List.mem_of_getElem? (i := 62) (by decide +kernel), List.mem_of_getElem? (i := 232) (by decide +kernel), List.mem_of_getElem? (i := 233) (by decide +kernel)⟩
theorem lw_p4 : lw_okq (⟨"DanceStillOwed$Reader", "next", "()V"⟩, 10) := ⟨⟨by decide +kernel, by decide +kernel⟩, List.mem_of_getElem? (i := 120) (by decide +kernel), List.mem_of_getElem? (i := 300) (by decide +kernel), List.mem_of_getElem? (i := 301) (by decide +kernel)⟩
theorem lw_p5 : lw_okq (⟨"DanceStillOwed$Reader", "nextNumber", "()V"⟩, 10) := ⟨⟨by decide +kernel, by decide +kernel⟩, List.mem_of_getElem? (i := 120) (by decide +kernel), List.mem_of_getElem? (i := 307) (by decide +kernel), List.mem_of_getElem? (i := 308) (by decide +kernel)⟩
theorem lw_p6 : lw_okq (⟨"DanceStillOwed$Reader", "nextWord", "()V"⟩, 10) := ⟨⟨by decide +kernel, by decide +kernel⟩, List.mem_of_getElem? (i := 120) (by decide +kernel), List.mem_of_getElem? (i := 314) (by decide +kernel), List.mem_of_getElem? (i := 315) (by decide +kernel)⟩
theorem lw_p7 : lw_okq (⟨"DanceStillOwed$Reader", "spells", "(Ljava/lang/String;)Z"⟩, 10) := ⟨⟨by decide +kernel, by decide +kernel⟩, List.mem_of_getElem? (i := 120) (by decide +kernel), List.mem_of_getElem? (i := 319) (by decide +kernel), List.mem_of_getElem? (i := 320) (by decide +kernel)⟩
theorem lw_p8 : lw_okq (⟨"DanceStillOwed$Reader", "pass", "(I)Z"⟩, 10) := ⟨⟨by decide +kernel, by decide +kernel⟩, List.mem_of_getElem? (i := 120) (by decide +kernel), List.mem_of_getElem? (i := 442) (by decide +kernel), List.mem_of_getElem? (i := 443) (by decide +kernel)⟩
theorem lw_p9 : lw_okq (⟨"DanceStillOwed$Reader", "either", "()Z"⟩, 10) := ⟨⟨by decide +kernel, by decide +kernel⟩, List.mem_of_getElem? (i := 120) (by decide +kernel), List.mem_of_getElem? (i := 446) (by decide +kernel), List.mem_of_getElem? (i := 447) (by decide +kernel)⟩
theorem lw_p10 : lw_okq (⟨"DanceStillOwed$Reader", "both", "()Z"⟩, 10) := ⟨⟨by decide +kernel, by decide +kernel⟩, List.mem_of_getElem? (i := 120) (by decide +kernel), List.mem_of_getElem? (i := 450) (by decide +kernel), List.mem_of_getElem? (i := 451) (by decide +kernel)⟩
theorem lw_p11 : lw_okq (⟨"DanceStillOwed$Reader", "denied", "()Z"⟩, 10) := ⟨⟨by decide +kernel, by decide +kernel⟩, List.mem_of_getElem? (i := 120) (by decide +kernel), List.mem_of_getElem? (i := 454) (by decide +kernel), List.mem_of_getElem? (i := 455) (by decide +kernel)⟩
theorem lw_p12 : lw_okq (⟨"DanceStillOwed$Reader", "compared", "()Z"⟩, 10) := ⟨⟨by decide +kernel, by decide +kernel⟩, List.mem_of_getElem? (i := 120) (by decide +kernel), List.mem_of_getElem? (i := 458) (by decide +kernel), List.mem_of_getElem? (i := 459) (by decide +kernel)⟩
theorem lw_p13 : lw_okq (⟨"DanceStillOwed$Reader", "sum", "()Z"⟩, 10) := ⟨⟨by decide +kernel, by decide +kernel⟩, List.mem_of_getElem? (i := 120) (by decide +kernel), List.mem_of_getElem? (i := 462) (by decide +kernel), List.mem_of_getElem? (i := 463) (by decide +kernel)⟩
theorem lw_p14 : lw_okq (⟨"DanceStillOwed$Reader", "term", "()Z"⟩, 10) := ⟨⟨by decide +kernel, by decide +kernel⟩, List.mem_of_getElem? (i := 120) (by decide +kernel), List.mem_of_getElem? (i := 466) (by decide +kernel), List.mem_of_getElem? (i := 467) (by decide +kernel)⟩
theorem lw_p15 : lw_okq (⟨"DanceStillOwed$Reader", "one", "()Z"⟩, 10) := ⟨⟨by decide +kernel, by decide +kernel⟩, List.mem_of_getElem? (i := 120) (by decide +kernel), List.mem_of_getElem? (i := 470) (by decide +kernel), List.mem_of_getElem? (i := 471) (by decide +kernel)⟩
def lw_privs_1 : List (MethodName × Nat) := [(⟨"DanceStillOwed", "debtPlace", "(I)I"⟩, 8), (⟨"DanceStillOwed", "isTwo", "(II)Z"⟩, 8), (⟨"DanceStillOwed", "isDancer", "(I)Z"⟩, 8), (⟨"DanceStillOwed$Floor", "value", "(III)I"⟩, 13), (⟨"DanceStillOwed$Reader", "next", "()V"⟩, 10), (⟨"DanceStillOwed$Reader", "nextNumber", "()V"⟩, 10), (⟨"DanceStillOwed$Reader", "nextWord", "()V"⟩, 10), (⟨"DanceStillOwed$Reader", "spells", "(Ljava/lang/String;)Z"⟩, 10), (⟨"DanceStillOwed$Reader", "pass", "(I)Z"⟩, 10), (⟨"DanceStillOwed$Reader", "either", "()Z"⟩, 10), (⟨"DanceStillOwed$Reader", "both", "()Z"⟩, 10), (⟨"DanceStillOwed$Reader", "denied", "()Z"⟩, 10), (⟨"DanceStillOwed$Reader", "compared", "()Z"⟩, 10), (⟨"DanceStillOwed$Reader", "sum", "()Z"⟩, 10), (⟨"DanceStillOwed$Reader", "term", "()Z"⟩, 10), (⟨"DanceStillOwed$Reader", "one", "()Z"⟩, 10)]
theorem lw_r1 : ∀ q ∈ lw_privs_1, lw_okq q := List.forall_mem_cons.mpr ⟨lw_p0, List.forall_mem_cons.mpr ⟨lw_p1, List.forall_mem_cons.mpr ⟨lw_p2, List.forall_mem_cons.mpr ⟨lw_p3, List.forall_mem_cons.mpr ⟨lw_p4, List.forall_mem_cons.mpr ⟨lw_p5, List.forall_mem_cons.mpr ⟨lw_p6, List.forall_mem_cons.mpr ⟨lw_p7, List.forall_mem_cons.mpr ⟨lw_p8, List.forall_mem_cons.mpr ⟨lw_p9, List.forall_mem_cons.mpr ⟨lw_p10, List.forall_mem_cons.mpr ⟨lw_p11, List.forall_mem_cons.mpr ⟨lw_p12, List.forall_mem_cons.mpr ⟨lw_p13, List.forall_mem_cons.mpr ⟨lw_p14, List.forall_mem_cons.mpr ⟨lw_p15, fun _ h => absurd h List.not_mem_nil⟩⟩⟩⟩⟩⟩⟩⟩⟩⟩⟩⟩⟩⟩⟩⟩
theorem lw_p16 : lw_okq (⟨"DanceStillOwed$Reader", "put", "(I)Z"⟩, 10) := ⟨⟨by decide +kernel, by decide +kernel⟩, List.mem_of_getElem? (i := 120) (by decide +kernel), List.mem_of_getElem? (i := 474) (by decide +kernel), List.mem_of_getElem? (i := 475) (by decide +kernel)⟩
theorem lw_p17 : lw_okq (⟨"DanceStillOwed$Reader", "opens", "()Z"⟩, 10) := ⟨⟨by decide +kernel, by decide +kernel⟩, List.mem_of_getElem? (i := 120) (by decide +kernel), List.mem_of_getElem? (i := 478) (by decide +kernel), List.mem_of_getElem? (i := 479) (by decide +kernel)⟩
theorem lw_p18 : lw_okq (⟨"DanceStillOwed$Floor", "settle", "(IIII)V"⟩, 13) := ⟨⟨by decide +kernel, by decide +kernel⟩, List.mem_of_getElem? (i := 62) (by decide +kernel), List.mem_of_getElem? (i := 512) (by decide +kernel), List.mem_of_getElem? (i := 513) (by decide +kernel)⟩
theorem lw_p19 : lw_okq (⟨"DanceStillOwed", "readRing", "(I)I"⟩, 8) := ⟨⟨by decide +kernel, by decide +kernel⟩, List.mem_of_getElem? (i := 16) (by decide +kernel), List.mem_of_getElem? (i := 545) (by decide +kernel), List.mem_of_getElem? (i := 546) (by decide +kernel)⟩
theorem lw_p20 : lw_okq (⟨"DanceStillOwed", "think", "()LDanceStillOwed$Floor;"⟩, 8) := ⟨⟨by decide +kernel, by decide +kernel⟩, List.mem_of_getElem? (i := 16) (by decide +kernel), List.mem_of_getElem? (i := 555) (by decide +kernel), List.mem_of_getElem? (i := 556) (by decide +kernel)⟩
theorem lw_p21 : lw_okq (⟨"DanceStillOwed", "sitters", "()I"⟩, 8) := ⟨⟨by decide +kernel, by decide +kernel⟩, List.mem_of_getElem? (i := 16) (by decide +kernel), List.mem_of_getElem? (i := 596) (by decide +kernel), List.mem_of_getElem? (i := 597) (by decide +kernel)⟩
theorem lw_p22 : lw_okq (⟨"DanceStillOwed", "soonest", "()I"⟩, 8) := ⟨⟨by decide +kernel, by decide +kernel⟩, List.mem_of_getElem? (i := 16) (by decide +kernel), List.mem_of_getElem? (i := 600) (by decide +kernel), List.mem_of_getElem? (i := 601) (by decide +kernel)⟩
theorem lw_p23 : lw_okq (⟨"DanceStillOwed", "clears", "(II)Z"⟩, 8) := ⟨⟨by decide +kernel, by decide +kernel⟩, List.mem_of_getElem? (i := 16) (by decide +kernel), List.mem_of_getElem? (i := 604) (by decide +kernel), List.mem_of_getElem? (i := 605) (by decide +kernel)⟩
theorem lw_p24 : lw_okq (⟨"DanceStillOwed$Floor", "longest", "(IIII)I"⟩, 13) := ⟨⟨by decide +kernel, by decide +kernel⟩, List.mem_of_getElem? (i := 62) (by decide +kernel), List.mem_of_getElem? (i := 627) (by decide +kernel), List.mem_of_getElem? (i := 628) (by decide +kernel)⟩
theorem lw_p25 : lw_okq (⟨"DanceStillOwed", "kindsTold", "(LDanceStillOwed$Sheet;I)I"⟩, 8) := ⟨⟨by decide +kernel, by decide +kernel⟩, List.mem_of_getElem? (i := 16) (by decide +kernel), List.mem_of_getElem? (i := 659) (by decide +kernel), List.mem_of_getElem? (i := 660) (by decide +kernel)⟩
theorem lw_p26 : lw_okq (⟨"DanceStillOwed", "numbersTold", "(LDanceStillOwed$Sheet;I)I"⟩, 8) := ⟨⟨by decide +kernel, by decide +kernel⟩, List.mem_of_getElem? (i := 16) (by decide +kernel), List.mem_of_getElem? (i := 668) (by decide +kernel), List.mem_of_getElem? (i := 669) (by decide +kernel)⟩
theorem lw_p27 : lw_okq (⟨"DanceStillOwed", "roundsTold", "(LDanceStillOwed$Sheet;IZ)I"⟩, 8) := ⟨⟨by decide +kernel, by decide +kernel⟩, List.mem_of_getElem? (i := 16) (by decide +kernel), List.mem_of_getElem? (i := 672) (by decide +kernel), List.mem_of_getElem? (i := 673) (by decide +kernel)⟩
theorem lw_p28 : lw_okq (⟨"DanceStillOwed", "donesTold", "(LDanceStillOwed$Sheet;IZ)I"⟩, 8) := ⟨⟨by decide +kernel, by decide +kernel⟩, List.mem_of_getElem? (i := 16) (by decide +kernel), List.mem_of_getElem? (i := 676) (by decide +kernel), List.mem_of_getElem? (i := 677) (by decide +kernel)⟩
theorem lw_p29 : lw_okq (⟨"DanceStillOwed", "textsTold", "(LDanceStillOwed$Sheet;I)I"⟩, 8) := ⟨⟨by decide +kernel, by decide +kernel⟩, List.mem_of_getElem? (i := 16) (by decide +kernel), List.mem_of_getElem? (i := 680) (by decide +kernel), List.mem_of_getElem? (i := 681) (by decide +kernel)⟩
theorem lw_p30 : lw_okq (⟨"DanceStillOwed", "dancersTold", "(LDanceStillOwed$Sheet;I)I"⟩, 8) := ⟨⟨by decide +kernel, by decide +kernel⟩, List.mem_of_getElem? (i := 16) (by decide +kernel), List.mem_of_getElem? (i := 684) (by decide +kernel), List.mem_of_getElem? (i := 685) (by decide +kernel)⟩
theorem lw_p31 : lw_okq (⟨"DanceStillOwedModel", "spell", "(IIIIIIIII)V"⟩, 45) := ⟨⟨by decide +kernel, by decide +kernel⟩, List.mem_of_getElem? (i := 756) (by decide +kernel), List.mem_of_getElem? (i := 768) (by decide +kernel), List.mem_of_getElem? (i := 769) (by decide +kernel)⟩
def lw_privs_2 : List (MethodName × Nat) := [(⟨"DanceStillOwed$Reader", "put", "(I)Z"⟩, 10), (⟨"DanceStillOwed$Reader", "opens", "()Z"⟩, 10), (⟨"DanceStillOwed$Floor", "settle", "(IIII)V"⟩, 13), (⟨"DanceStillOwed", "readRing", "(I)I"⟩, 8), (⟨"DanceStillOwed", "think", "()LDanceStillOwed$Floor;"⟩, 8), (⟨"DanceStillOwed", "sitters", "()I"⟩, 8), (⟨"DanceStillOwed", "soonest", "()I"⟩, 8), (⟨"DanceStillOwed", "clears", "(II)Z"⟩, 8), (⟨"DanceStillOwed$Floor", "longest", "(IIII)I"⟩, 13), (⟨"DanceStillOwed", "kindsTold", "(LDanceStillOwed$Sheet;I)I"⟩, 8), (⟨"DanceStillOwed", "numbersTold", "(LDanceStillOwed$Sheet;I)I"⟩, 8), (⟨"DanceStillOwed", "roundsTold", "(LDanceStillOwed$Sheet;IZ)I"⟩, 8), (⟨"DanceStillOwed", "donesTold", "(LDanceStillOwed$Sheet;IZ)I"⟩, 8), (⟨"DanceStillOwed", "textsTold", "(LDanceStillOwed$Sheet;I)I"⟩, 8), (⟨"DanceStillOwed", "dancersTold", "(LDanceStillOwed$Sheet;I)I"⟩, 8), (⟨"DanceStillOwedModel", "spell", "(IIIIIIIII)V"⟩, 45)]
theorem lw_r2 : ∀ q ∈ lw_privs_2, lw_okq q := List.forall_mem_cons.mpr ⟨lw_p16, List.forall_mem_cons.mpr ⟨lw_p17, List.forall_mem_cons.mpr ⟨lw_p18, List.forall_mem_cons.mpr ⟨lw_p19, List.forall_mem_cons.mpr ⟨lw_p20, List.forall_mem_cons.mpr ⟨lw_p21, List.forall_mem_cons.mpr ⟨lw_p22, List.forall_mem_cons.mpr ⟨lw_p23, List.forall_mem_cons.mpr ⟨lw_p24, List.forall_mem_cons.mpr ⟨lw_p25, List.forall_mem_cons.mpr ⟨lw_p26, List.forall_mem_cons.mpr ⟨lw_p27, List.forall_mem_cons.mpr ⟨lw_p28, List.forall_mem_cons.mpr ⟨lw_p29, List.forall_mem_cons.mpr ⟨lw_p30, List.forall_mem_cons.mpr ⟨lw_p31, fun _ h => absurd h List.not_mem_nil⟩⟩⟩⟩⟩⟩⟩⟩⟩⟩⟩⟩⟩⟩⟩⟩
theorem lw_p32 : lw_okq (⟨"DanceStillOwedModel", "isOf", "(II)Z"⟩, 45) := ⟨⟨by decide +kernel, by decide +kernel⟩, List.mem_of_getElem? (i := 756) (by decide +kernel), List.mem_of_getElem? (i := 916) (by decide +kernel), List.mem_of_getElem? (i := 917) (by decide +kernel)⟩
theorem lw_p33 : lw_okq (⟨"DanceStillOwedModel", "areTwo", "(II)Z"⟩, 45) := ⟨⟨by decide +kernel, by decide +kernel⟩, List.mem_of_getElem? (i := 756) (by decide +kernel), List.mem_of_getElem? (i := 920) (by decide +kernel), List.mem_of_getElem? (i := 921) (by decide +kernel)⟩
theorem lw_p34 : lw_okq (⟨"DanceStillOwedModel", "isOne", "(I)Z"⟩, 45) := ⟨⟨by decide +kernel, by decide +kernel⟩, List.mem_of_getElem? (i := 756) (by decide +kernel), List.mem_of_getElem? (i := 924) (by decide +kernel), List.mem_of_getElem? (i := 925) (by decide +kernel)⟩
theorem lw_p35 : lw_okq (⟨"DanceStillOwedModel", "breathOf", "(I)I"⟩, 45) := ⟨⟨by decide +kernel, by decide +kernel⟩, List.mem_of_getElem? (i := 756) (by decide +kernel), List.mem_of_getElem? (i := 939) (by decide +kernel), List.mem_of_getElem? (i := 940) (by decide +kernel)⟩
theorem lw_p36 : lw_okq (⟨"DanceStillOwedModel", "says", "(III)I"⟩, 45) := ⟨⟨by decide +kernel, by decide +kernel⟩, List.mem_of_getElem? (i := 756) (by decide +kernel), List.mem_of_getElem? (i := 943) (by decide +kernel), List.mem_of_getElem? (i := 944) (by decide +kernel)⟩
theorem lw_p37 : lw_okq (⟨"DanceStillOwedModel", "owedTo", "(I)I"⟩, 45) := ⟨⟨by decide +kernel, by decide +kernel⟩, List.mem_of_getElem? (i := 756) (by decide +kernel), List.mem_of_getElem? (i := 947) (by decide +kernel), List.mem_of_getElem? (i := 948) (by decide +kernel)⟩
theorem lw_p38 : lw_okq (⟨"DanceStillOwedModel", "debtOf", "(II)I"⟩, 45) := ⟨⟨by decide +kernel, by decide +kernel⟩, List.mem_of_getElem? (i := 756) (by decide +kernel), List.mem_of_getElem? (i := 951) (by decide +kernel), List.mem_of_getElem? (i := 952) (by decide +kernel)⟩
theorem lw_p39 : lw_okq (⟨"DanceStillOwedModel", "read", "(II)I"⟩, 45) := ⟨⟨by decide +kernel, by decide +kernel⟩, List.mem_of_getElem? (i := 756) (by decide +kernel), List.mem_of_getElem? (i := 955) (by decide +kernel), List.mem_of_getElem? (i := 956) (by decide +kernel)⟩
theorem lw_p40 : lw_okq (⟨"DanceStillOwedModel", "next", "()V"⟩, 45) := ⟨⟨by decide +kernel, by decide +kernel⟩, List.mem_of_getElem? (i := 756) (by decide +kernel), List.mem_of_getElem? (i := 959) (by decide +kernel), List.mem_of_getElem? (i := 960) (by decide +kernel)⟩
theorem lw_p41 : lw_okq (⟨"DanceStillOwedModel", "byteAt", "(I)I"⟩, 45) := ⟨⟨by decide +kernel, by decide +kernel⟩, List.mem_of_getElem? (i := 756) (by decide +kernel), List.mem_of_getElem? (i := 963) (by decide +kernel), List.mem_of_getElem? (i := 964) (by decide +kernel)⟩
theorem lw_p42 : lw_okq (⟨"DanceStillOwedModel", "isWord", "(IIIIIIII)Z"⟩, 45) := ⟨⟨by decide +kernel, by decide +kernel⟩, List.mem_of_getElem? (i := 756) (by decide +kernel), List.mem_of_getElem? (i := 972) (by decide +kernel), List.mem_of_getElem? (i := 973) (by decide +kernel)⟩
theorem lw_p43 : lw_okq (⟨"DanceStillOwedModel", "isLetter", "(II)Z"⟩, 45) := ⟨⟨by decide +kernel, by decide +kernel⟩, List.mem_of_getElem? (i := 756) (by decide +kernel), List.mem_of_getElem? (i := 976) (by decide +kernel), List.mem_of_getElem? (i := 977) (by decide +kernel)⟩
theorem lw_p44 : lw_okq (⟨"DanceStillOwedModel", "part", "(Z)I"⟩, 45) := ⟨⟨by decide +kernel, by decide +kernel⟩, List.mem_of_getElem? (i := 756) (by decide +kernel), List.mem_of_getElem? (i := 980) (by decide +kernel), List.mem_of_getElem? (i := 981) (by decide +kernel)⟩
theorem lw_p45 : lw_okq (⟨"DanceStillOwedModel", "fail", "()V"⟩, 45) := ⟨⟨by decide +kernel, by decide +kernel⟩, List.mem_of_getElem? (i := 756) (by decide +kernel), List.mem_of_getElem? (i := 984) (by decide +kernel), List.mem_of_getElem? (i := 985) (by decide +kernel)⟩
theorem lw_p46 : lw_okq (⟨"DanceStillOwedModel", "either", "()I"⟩, 45) := ⟨⟨by decide +kernel, by decide +kernel⟩, List.mem_of_getElem? (i := 756) (by decide +kernel), List.mem_of_getElem? (i := 988) (by decide +kernel), List.mem_of_getElem? (i := 989) (by decide +kernel)⟩
theorem lw_p47 : lw_okq (⟨"DanceStillOwedModel", "both", "()I"⟩, 45) := ⟨⟨by decide +kernel, by decide +kernel⟩, List.mem_of_getElem? (i := 756) (by decide +kernel), List.mem_of_getElem? (i := 992) (by decide +kernel), List.mem_of_getElem? (i := 993) (by decide +kernel)⟩
def lw_privs_3 : List (MethodName × Nat) := [(⟨"DanceStillOwedModel", "isOf", "(II)Z"⟩, 45), (⟨"DanceStillOwedModel", "areTwo", "(II)Z"⟩, 45), (⟨"DanceStillOwedModel", "isOne", "(I)Z"⟩, 45), (⟨"DanceStillOwedModel", "breathOf", "(I)I"⟩, 45), (⟨"DanceStillOwedModel", "says", "(III)I"⟩, 45), (⟨"DanceStillOwedModel", "owedTo", "(I)I"⟩, 45), (⟨"DanceStillOwedModel", "debtOf", "(II)I"⟩, 45), (⟨"DanceStillOwedModel", "read", "(II)I"⟩, 45), (⟨"DanceStillOwedModel", "next", "()V"⟩, 45), (⟨"DanceStillOwedModel", "byteAt", "(I)I"⟩, 45), (⟨"DanceStillOwedModel", "isWord", "(IIIIIIII)Z"⟩, 45), (⟨"DanceStillOwedModel", "isLetter", "(II)Z"⟩, 45), (⟨"DanceStillOwedModel", "part", "(Z)I"⟩, 45), (⟨"DanceStillOwedModel", "fail", "()V"⟩, 45), (⟨"DanceStillOwedModel", "either", "()I"⟩, 45), (⟨"DanceStillOwedModel", "both", "()I"⟩, 45)]
theorem lw_r3 : ∀ q ∈ lw_privs_3, lw_okq q := List.forall_mem_cons.mpr ⟨lw_p32, List.forall_mem_cons.mpr ⟨lw_p33, List.forall_mem_cons.mpr ⟨lw_p34, List.forall_mem_cons.mpr ⟨lw_p35, List.forall_mem_cons.mpr ⟨lw_p36, List.forall_mem_cons.mpr ⟨lw_p37, List.forall_mem_cons.mpr ⟨lw_p38, List.forall_mem_cons.mpr ⟨lw_p39, List.forall_mem_cons.mpr ⟨lw_p40, List.forall_mem_cons.mpr ⟨lw_p41, List.forall_mem_cons.mpr ⟨lw_p42, List.forall_mem_cons.mpr ⟨lw_p43, List.forall_mem_cons.mpr ⟨lw_p44, List.forall_mem_cons.mpr ⟨lw_p45, List.forall_mem_cons.mpr ⟨lw_p46, List.forall_mem_cons.mpr ⟨lw_p47, fun _ h => absurd h List.not_mem_nil⟩⟩⟩⟩⟩⟩⟩⟩⟩⟩⟩⟩⟩⟩⟩⟩
theorem lw_p48 : lw_okq (⟨"DanceStillOwedModel", "not", "()I"⟩, 45) := ⟨⟨by decide +kernel, by decide +kernel⟩, List.mem_of_getElem? (i := 756) (by decide +kernel), List.mem_of_getElem? (i := 996) (by decide +kernel), List.mem_of_getElem? (i := 997) (by decide +kernel)⟩
theorem lw_p49 : lw_okq (⟨"DanceStillOwedModel", "opens", "()Z"⟩, 45) := ⟨⟨by decide +kernel, by decide +kernel⟩, List.mem_of_getElem? (i := 756) (by decide +kernel), List.mem_of_getElem? (i := 1000) (by decide +kernel), List.mem_of_getElem? (i := 1001) (by decide +kernel)⟩
theorem lw_p50 : lw_okq (⟨"DanceStillOwedModel", "added", "()I"⟩, 45) := ⟨⟨by decide +kernel, by decide +kernel⟩, List.mem_of_getElem? (i := 756) (by decide +kernel), List.mem_of_getElem? (i := 1004) (by decide +kernel), List.mem_of_getElem? (i := 1005) (by decide +kernel)⟩
theorem lw_p51 : lw_okq (⟨"DanceStillOwedModel", "term", "()I"⟩, 45) := ⟨⟨by decide +kernel, by decide +kernel⟩, List.mem_of_getElem? (i := 756) (by decide +kernel), List.mem_of_getElem? (i := 1008) (by decide +kernel), List.mem_of_getElem? (i := 1009) (by decide +kernel)⟩
theorem lw_p52 : lw_okq (⟨"DanceStillOwedModel", "atom", "()I"⟩, 45) := ⟨⟨by decide +kernel, by decide +kernel⟩, List.mem_of_getElem? (i := 756) (by decide +kernel), List.mem_of_getElem? (i := 1012) (by decide +kernel), List.mem_of_getElem? (i := 1013) (by decide +kernel)⟩
theorem lw_p53 : lw_okq (⟨"DanceStillOwedModel", "isSign", "(I)Z"⟩, 45) := ⟨⟨by decide +kernel, by decide +kernel⟩, List.mem_of_getElem? (i := 756) (by decide +kernel), List.mem_of_getElem? (i := 1016) (by decide +kernel), List.mem_of_getElem? (i := 1017) (by decide +kernel)⟩
theorem lw_p54 : lw_okq (⟨"DanceStillOwedModel", "name", "()I"⟩, 45) := ⟨⟨by decide +kernel, by decide +kernel⟩, List.mem_of_getElem? (i := 756) (by decide +kernel), List.mem_of_getElem? (i := 1020) (by decide +kernel), List.mem_of_getElem? (i := 1021) (by decide +kernel)⟩
theorem lw_p55 : lw_okq (⟨"DanceStillOwedModel", "owesOf", "(I)I"⟩, 45) := ⟨⟨by decide +kernel, by decide +kernel⟩, List.mem_of_getElem? (i := 756) (by decide +kernel), List.mem_of_getElem? (i := 1029) (by decide +kernel), List.mem_of_getElem? (i := 1030) (by decide +kernel)⟩
theorem lw_p56 : lw_okq (⟨"DanceStillOwedModel", "lays", "(III)V"⟩, 45) := ⟨⟨by decide +kernel, by decide +kernel⟩, List.mem_of_getElem? (i := 756) (by decide +kernel), List.mem_of_getElem? (i := 1033) (by decide +kernel), List.mem_of_getElem? (i := 1034) (by decide +kernel)⟩
theorem lw_p57 : lw_okq (⟨"DanceStillOwedModel", "paysOf", "(II)I"⟩, 45) := ⟨⟨by decide +kernel, by decide +kernel⟩, List.mem_of_getElem? (i := 756) (by decide +kernel), List.mem_of_getElem? (i := 1062) (by decide +kernel), List.mem_of_getElem? (i := 1063) (by decide +kernel)⟩
theorem lw_p58 : lw_okq (⟨"DanceStillOwedModel", "willOf", "(II)Z"⟩, 45) := ⟨⟨by decide +kernel, by decide +kernel⟩, List.mem_of_getElem? (i := 756) (by decide +kernel), List.mem_of_getElem? (i := 1066) (by decide +kernel), List.mem_of_getElem? (i := 1067) (by decide +kernel)⟩
theorem lw_p59 : lw_okq (⟨"DanceStillOwedModel", "mayDance", "(II)Z"⟩, 45) := ⟨⟨by decide +kernel, by decide +kernel⟩, List.mem_of_getElem? (i := 756) (by decide +kernel), List.mem_of_getElem? (i := 1070) (by decide +kernel), List.mem_of_getElem? (i := 1071) (by decide +kernel)⟩
theorem lw_p60 : lw_okq (⟨"DanceStillOwedModel", "hasBreath", "(I)Z"⟩, 45) := ⟨⟨by decide +kernel, by decide +kernel⟩, List.mem_of_getElem? (i := 756) (by decide +kernel), List.mem_of_getElem? (i := 1074) (by decide +kernel), List.mem_of_getElem? (i := 1075) (by decide +kernel)⟩
theorem lw_p61 : lw_okq (⟨"DanceStillOwedModel", "danceBoth", "(II)I"⟩, 45) := ⟨⟨by decide +kernel, by decide +kernel⟩, List.mem_of_getElem? (i := 756) (by decide +kernel), List.mem_of_getElem? (i := 1082) (by decide +kernel), List.mem_of_getElem? (i := 1083) (by decide +kernel)⟩
theorem lw_p62 : lw_okq (⟨"DanceStillOwedModel", "dances", "(I)V"⟩, 45) := ⟨⟨by decide +kernel, by decide +kernel⟩, List.mem_of_getElem? (i := 756) (by decide +kernel), List.mem_of_getElem? (i := 1086) (by decide +kernel), List.mem_of_getElem? (i := 1087) (by decide +kernel)⟩
theorem lw_p63 : lw_okq (⟨"DanceStillOwedModel", "passes", "()I"⟩, 45) := ⟨⟨by decide +kernel, by decide +kernel⟩, List.mem_of_getElem? (i := 756) (by decide +kernel), List.mem_of_getElem? (i := 1094) (by decide +kernel), List.mem_of_getElem? (i := 1095) (by decide +kernel)⟩
def lw_privs_4 : List (MethodName × Nat) := [(⟨"DanceStillOwedModel", "not", "()I"⟩, 45), (⟨"DanceStillOwedModel", "opens", "()Z"⟩, 45), (⟨"DanceStillOwedModel", "added", "()I"⟩, 45), (⟨"DanceStillOwedModel", "term", "()I"⟩, 45), (⟨"DanceStillOwedModel", "atom", "()I"⟩, 45), (⟨"DanceStillOwedModel", "isSign", "(I)Z"⟩, 45), (⟨"DanceStillOwedModel", "name", "()I"⟩, 45), (⟨"DanceStillOwedModel", "owesOf", "(I)I"⟩, 45), (⟨"DanceStillOwedModel", "lays", "(III)V"⟩, 45), (⟨"DanceStillOwedModel", "paysOf", "(II)I"⟩, 45), (⟨"DanceStillOwedModel", "willOf", "(II)Z"⟩, 45), (⟨"DanceStillOwedModel", "mayDance", "(II)Z"⟩, 45), (⟨"DanceStillOwedModel", "hasBreath", "(I)Z"⟩, 45), (⟨"DanceStillOwedModel", "danceBoth", "(II)I"⟩, 45), (⟨"DanceStillOwedModel", "dances", "(I)V"⟩, 45), (⟨"DanceStillOwedModel", "passes", "()I"⟩, 45)]
theorem lw_r4 : ∀ q ∈ lw_privs_4, lw_okq q := List.forall_mem_cons.mpr ⟨lw_p48, List.forall_mem_cons.mpr ⟨lw_p49, List.forall_mem_cons.mpr ⟨lw_p50, List.forall_mem_cons.mpr ⟨lw_p51, List.forall_mem_cons.mpr ⟨lw_p52, List.forall_mem_cons.mpr ⟨lw_p53, List.forall_mem_cons.mpr ⟨lw_p54, List.forall_mem_cons.mpr ⟨lw_p55, List.forall_mem_cons.mpr ⟨lw_p56, List.forall_mem_cons.mpr ⟨lw_p57, List.forall_mem_cons.mpr ⟨lw_p58, List.forall_mem_cons.mpr ⟨lw_p59, List.forall_mem_cons.mpr ⟨lw_p60, List.forall_mem_cons.mpr ⟨lw_p61, List.forall_mem_cons.mpr ⟨lw_p62, List.forall_mem_cons.mpr ⟨lw_p63, fun _ h => absurd h List.not_mem_nil⟩⟩⟩⟩⟩⟩⟩⟩⟩⟩⟩⟩⟩⟩⟩⟩
theorem lw_p64 : lw_okq (⟨"DanceStillOwedModel", "ringOf", "(I)I"⟩, 45) := ⟨⟨by decide +kernel, by decide +kernel⟩, List.mem_of_getElem? (i := 756) (by decide +kernel), List.mem_of_getElem? (i := 1106) (by decide +kernel), List.mem_of_getElem? (i := 1107) (by decide +kernel)⟩
theorem lw_p65 : lw_okq (⟨"DanceStillOwedModel", "laysAside", "()V"⟩, 45) := ⟨⟨by decide +kernel, by decide +kernel⟩, List.mem_of_getElem? (i := 756) (by decide +kernel), List.mem_of_getElem? (i := 1116) (by decide +kernel), List.mem_of_getElem? (i := 1117) (by decide +kernel)⟩
theorem lw_p66 : lw_okq (⟨"DanceStillOwedModel", "owedAll", "()I"⟩, 45) := ⟨⟨by decide +kernel, by decide +kernel⟩, List.mem_of_getElem? (i := 756) (by decide +kernel), List.mem_of_getElem? (i := 1120) (by decide +kernel), List.mem_of_getElem? (i := 1121) (by decide +kernel)⟩
theorem lw_p67 : lw_okq (⟨"DanceStillOwedModel", "owedSet", "()I"⟩, 45) := ⟨⟨by decide +kernel, by decide +kernel⟩, List.mem_of_getElem? (i := 756) (by decide +kernel), List.mem_of_getElem? (i := 1124) (by decide +kernel), List.mem_of_getElem? (i := 1125) (by decide +kernel)⟩
theorem lw_p68 : lw_okq (⟨"DanceStillOwedModel", "laysBack", "()V"⟩, 45) := ⟨⟨by decide +kernel, by decide +kernel⟩, List.mem_of_getElem? (i := 756) (by decide +kernel), List.mem_of_getElem? (i := 1128) (by decide +kernel), List.mem_of_getElem? (i := 1129) (by decide +kernel)⟩
theorem lw_p69 : lw_okq (⟨"DanceStillOwedModel", "bestSet", "(I)I"⟩, 45) := ⟨⟨by decide +kernel, by decide +kernel⟩, List.mem_of_getElem? (i := 756) (by decide +kernel), List.mem_of_getElem? (i := 1136) (by decide +kernel), List.mem_of_getElem? (i := 1137) (by decide +kernel)⟩
theorem lw_p70 : lw_okq (⟨"DanceStillOwedModel", "isSet", "(I)Z"⟩, 45) := ⟨⟨by decide +kernel, by decide +kernel⟩, List.mem_of_getElem? (i := 756) (by decide +kernel), List.mem_of_getElem? (i := 1140) (by decide +kernel), List.mem_of_getElem? (i := 1141) (by decide +kernel)⟩
theorem lw_p71 : lw_okq (⟨"DanceStillOwedModel", "dancesOf", "(I)I"⟩, 45) := ⟨⟨by decide +kernel, by decide +kernel⟩, List.mem_of_getElem? (i := 756) (by decide +kernel), List.mem_of_getElem? (i := 1150) (by decide +kernel), List.mem_of_getElem? (i := 1151) (by decide +kernel)⟩
theorem lw_p72 : lw_okq (⟨"DanceStillOwedModel", "nextRound", "(I)I"⟩, 45) := ⟨⟨by decide +kernel, by decide +kernel⟩, List.mem_of_getElem? (i := 756) (by decide +kernel), List.mem_of_getElem? (i := 1154) (by decide +kernel), List.mem_of_getElem? (i := 1155) (by decide +kernel)⟩
theorem lw_p73 : lw_okq (⟨"DanceStillOwedModel", "soonest", "()I"⟩, 45) := ⟨⟨by decide +kernel, by decide +kernel⟩, List.mem_of_getElem? (i := 756) (by decide +kernel), List.mem_of_getElem? (i := 1158) (by decide +kernel), List.mem_of_getElem? (i := 1159) (by decide +kernel)⟩
theorem lw_p74 : lw_okq (⟨"DanceStillOwedModel", "isPaidBy", "(I)Z"⟩, 45) := ⟨⟨by decide +kernel, by decide +kernel⟩, List.mem_of_getElem? (i := 756) (by decide +kernel), List.mem_of_getElem? (i := 1162) (by decide +kernel), List.mem_of_getElem? (i := 1163) (by decide +kernel)⟩
theorem lw_p75 : lw_okq (⟨"DanceStillOwedModel", "leastOwed", "()I"⟩, 45) := ⟨⟨by decide +kernel, by decide +kernel⟩, List.mem_of_getElem? (i := 756) (by decide +kernel), List.mem_of_getElem? (i := 1166) (by decide +kernel), List.mem_of_getElem? (i := 1167) (by decide +kernel)⟩
theorem lw_p76 : lw_okq (⟨"DanceStillOwedModel", "longestRing", "()I"⟩, 45) := ⟨⟨by decide +kernel, by decide +kernel⟩, List.mem_of_getElem? (i := 756) (by decide +kernel), List.mem_of_getElem? (i := 1171) (by decide +kernel), List.mem_of_getElem? (i := 1172) (by decide +kernel)⟩
theorem lw_p77 : lw_okq (⟨"DanceStillOwedModel", "ringFrom", "(IIII)I"⟩, 45) := ⟨⟨by decide +kernel, by decide +kernel⟩, List.mem_of_getElem? (i := 756) (by decide +kernel), List.mem_of_getElem? (i := 1175) (by decide +kernel), List.mem_of_getElem? (i := 1176) (by decide +kernel)⟩
theorem lw_p78 : lw_okq (⟨"DanceStillOwedModel", "ends", "()I"⟩, 45) := ⟨⟨by decide +kernel, by decide +kernel⟩, List.mem_of_getElem? (i := 756) (by decide +kernel), List.mem_of_getElem? (i := 1179) (by decide +kernel), List.mem_of_getElem? (i := 1180) (by decide +kernel)⟩
theorem lw_p79 : lw_okq (⟨"DanceStillOwedModel", "keeper", "()I"⟩, 45) := ⟨⟨by decide +kernel, by decide +kernel⟩, List.mem_of_getElem? (i := 756) (by decide +kernel), List.mem_of_getElem? (i := 1183) (by decide +kernel), List.mem_of_getElem? (i := 1184) (by decide +kernel)⟩
def lw_privs_5 : List (MethodName × Nat) := [(⟨"DanceStillOwedModel", "ringOf", "(I)I"⟩, 45), (⟨"DanceStillOwedModel", "laysAside", "()V"⟩, 45), (⟨"DanceStillOwedModel", "owedAll", "()I"⟩, 45), (⟨"DanceStillOwedModel", "owedSet", "()I"⟩, 45), (⟨"DanceStillOwedModel", "laysBack", "()V"⟩, 45), (⟨"DanceStillOwedModel", "bestSet", "(I)I"⟩, 45), (⟨"DanceStillOwedModel", "isSet", "(I)Z"⟩, 45), (⟨"DanceStillOwedModel", "dancesOf", "(I)I"⟩, 45), (⟨"DanceStillOwedModel", "nextRound", "(I)I"⟩, 45), (⟨"DanceStillOwedModel", "soonest", "()I"⟩, 45), (⟨"DanceStillOwedModel", "isPaidBy", "(I)Z"⟩, 45), (⟨"DanceStillOwedModel", "leastOwed", "()I"⟩, 45), (⟨"DanceStillOwedModel", "longestRing", "()I"⟩, 45), (⟨"DanceStillOwedModel", "ringFrom", "(IIII)I"⟩, 45), (⟨"DanceStillOwedModel", "ends", "()I"⟩, 45), (⟨"DanceStillOwedModel", "keeper", "()I"⟩, 45)]
theorem lw_r5 : ∀ q ∈ lw_privs_5, lw_okq q := List.forall_mem_cons.mpr ⟨lw_p64, List.forall_mem_cons.mpr ⟨lw_p65, List.forall_mem_cons.mpr ⟨lw_p66, List.forall_mem_cons.mpr ⟨lw_p67, List.forall_mem_cons.mpr ⟨lw_p68, List.forall_mem_cons.mpr ⟨lw_p69, List.forall_mem_cons.mpr ⟨lw_p70, List.forall_mem_cons.mpr ⟨lw_p71, List.forall_mem_cons.mpr ⟨lw_p72, List.forall_mem_cons.mpr ⟨lw_p73, List.forall_mem_cons.mpr ⟨lw_p74, List.forall_mem_cons.mpr ⟨lw_p75, List.forall_mem_cons.mpr ⟨lw_p76, List.forall_mem_cons.mpr ⟨lw_p77, List.forall_mem_cons.mpr ⟨lw_p78, List.forall_mem_cons.mpr ⟨lw_p79, fun _ h => absurd h List.not_mem_nil⟩⟩⟩⟩⟩⟩⟩⟩⟩⟩⟩⟩⟩⟩⟩⟩
theorem lw_p80 : lw_okq (⟨"DanceStillOwedModel", "firstOther", "(II)I"⟩, 45) := ⟨⟨by decide +kernel, by decide +kernel⟩, List.mem_of_getElem? (i := 756) (by decide +kernel), List.mem_of_getElem? (i := 1203) (by decide +kernel), List.mem_of_getElem? (i := 1204) (by decide +kernel)⟩
theorem lw_p81 : lw_okq (⟨"DanceStillOwedModel", "likeSet", "(II)I"⟩, 45) := ⟨⟨by decide +kernel, by decide +kernel⟩, List.mem_of_getElem? (i := 756) (by decide +kernel), List.mem_of_getElem? (i := 1207) (by decide +kernel), List.mem_of_getElem? (i := 1208) (by decide +kernel)⟩
theorem lw_p82 : lw_okq (⟨"DanceStillOwedModel", "endsDrawn", "(I)I"⟩, 45) := ⟨⟨by decide +kernel, by decide +kernel⟩, List.mem_of_getElem? (i := 756) (by decide +kernel), List.mem_of_getElem? (i := 1225) (by decide +kernel), List.mem_of_getElem? (i := 1226) (by decide +kernel)⟩
def lw_privs_6 : List (MethodName × Nat) := [(⟨"DanceStillOwedModel", "firstOther", "(II)I"⟩, 45), (⟨"DanceStillOwedModel", "likeSet", "(II)I"⟩, 45), (⟨"DanceStillOwedModel", "endsDrawn", "(I)I"⟩, 45)]
theorem lw_r6 : ∀ q ∈ lw_privs_6, lw_okq q := List.forall_mem_cons.mpr ⟨lw_p80, List.forall_mem_cons.mpr ⟨lw_p81, List.forall_mem_cons.mpr ⟨lw_p82, fun _ h => absurd h List.not_mem_nil⟩⟩⟩
def lw_privs : List (MethodName × Nat) := lw_privs_1 ++ (lw_privs_2 ++ (lw_privs_3 ++ (lw_privs_4 ++ (lw_privs_5 ++ (lw_privs_6)))))
def lw_tbl : List Cond := k2_sels lw_privs ++ tables_1
theorem lw_privs_ok : ∀ q ∈ lw_privs, lw_okq q := by
  show ∀ q ∈ lw_privs_1 ++ (lw_privs_2 ++ (lw_privs_3 ++ (lw_privs_4 ++ (lw_privs_5 ++ (lw_privs_6))))), lw_okq q
  exact List.forall_mem_append.mpr ⟨lw_r1, List.forall_mem_append.mpr ⟨lw_r2, List.forall_mem_append.mpr ⟨lw_r3, List.forall_mem_append.mpr ⟨lw_r4, List.forall_mem_append.mpr ⟨lw_r5, lw_r6⟩⟩⟩⟩⟩
-- ===== end of PART A; then your names; then what follows =====
theorem goodIn_r {big : List Cond} (ws : List Cond) (ps : List Nat) (hp : ws = ps.filterMap (fun i => big[i]?)) (h : ws.all goodWord = true) : GoodIn big ws := by
  intro w hw
  have h1 := List.all_eq_true.mp h w hw
  rw [hp] at hw
  obtain ⟨i, -, hi⟩ := List.mem_filterMap.mp hw
  have hm : w ∈ big := by first | exact List.mem_of_getElem? hi | exact List.getElem?_mem hi
  exact ⟨hm, good_of_word h1⟩
theorem goodIn_app {big a b : List Cond} (ha : GoodIn big a) (hb : GoodIn big b) : GoodIn big (a ++ b) := fun w h => (List.mem_append.mp h).elim (ha w) (hb w)
theorem goodIn_ca {big a b : List Cond} {c : Cond} (ha : GoodIn big (c :: a)) (hb : GoodIn big b) : GoodIn big (c :: (a ++ b)) := fun w h => (List.mem_cons.mp h).elim (fun e => ha w (List.mem_cons.mpr (Or.inl e))) (fun h => (List.mem_append.mp h).elim (fun h => ha w (List.mem_cons.mpr (Or.inr h))) (hb w))
theorem goodIn_sub {big ws : List Cond} (hm : ∀ w ∈ ws, w ∈ big) (h : ws.all goodWord = true) : GoodIn big ws := fun w hw => ⟨hm w hw, good_of_word (List.all_eq_true.mp h w hw)⟩
def RX0 : String := "DanceStillOwed$Floor"
def TX0 : u_T := fun k => match k with
  | 0 => ("DanceStillOwed$Floor", "rules", "LDanceStillOwed$Rules;", true)
  | 1 => ("DanceStillOwed$Floor", "dancers", "I", false)
  | 2 => ("DanceStillOwed$Floor", "round", "I", false)
  | 3 => ("DanceStillOwed$Floor", "night", "I", false)
  | 4 => ("DanceStillOwed$Floor", "rule", "I", false)
  | 5 => ("DanceStillOwed$Floor", "kind", "[I", true)
  | 6 => ("DanceStillOwed$Floor", "number", "[I", true)
  | 7 => ("DanceStillOwed$Floor", "done", "[I", true)
  | 8 => ("DanceStillOwed$Floor", "debt", "[I", true)
  | 9 => ("DanceStillOwed$Floor", "danced", "I", false)
  | 10 => ("DanceStillOwed$Floor", "mayDance", "I", false)
  | 11 => ("DanceStillOwed$Floor", "paidByLesser", "[I", true)
  | _ => ("DanceStillOwed$Floor", "paidByGreater", "[I", true)
def tyX0 : Nat → FieldType := fun k => match k with
  | 0 => .object "DanceStillOwed$Rules"
  | 1 => .int
  | 2 => .int
  | 3 => .int
  | 4 => .int
  | 5 => .array .int
  | 6 => .array .int
  | 7 => .array .int
  | 8 => .array .int
  | 9 => .int
  | 10 => .int
  | 11 => .array .int
  | _ => .array .int
abbrev wsX00 : List Cond := u_ws RX0 TX0 13
theorem nmX0 : ∀ a, a < 13 → ∀ b, b < 13 → a ≠ b → (TX0 a).2.1 ≠ (TX0 b).2.1 := by decide +kernel
theorem tyX0_ok : ∀ k, k < 13 → parseFieldDescriptor (TX0 k).2.2.1 = some (tyX0 k) := by decide +kernel
abbrev cX0_init : ByteArray := prog_2_method_1_code
def yX0_init : MethodName := ⟨RX0, "<init>", "(LDanceStillOwed$Rules;)V"⟩
abbrev cX0_takeFrom : ByteArray := prog_2_method_2_code
def yX0_takeFrom : MethodName := ⟨RX0, "takeFrom", "(LDanceStillOwed$Floor;)V"⟩
abbrev cX0_join : ByteArray := prog_2_method_3_code
def yX0_join : MethodName := ⟨RX0, "join", "(II)I"⟩
abbrev cX0_owing : ByteArray := prog_2_method_4_code
def yX0_owing : MethodName := ⟨RX0, "owing", "(II)I"⟩
abbrev cX0_owes : ByteArray := prog_2_method_5_code
def yX0_owes : MethodName := ⟨RX0, "owes", "(I)I"⟩
abbrev cX0_owedTo : ByteArray := prog_2_method_6_code
def yX0_owedTo : MethodName := ⟨RX0, "owedTo", "(I)I"⟩
abbrev cX0_all : ByteArray := prog_2_method_7_code
def yX0_all : MethodName := ⟨RX0, "all", "()I"⟩
abbrev cX0_value : ByteArray := prog_2_method_8_code
def yX0_value : MethodName := ⟨RX0, "value", "(III)I"⟩
abbrev cX0_pays : ByteArray := prog_2_method_9_code
def yX0_pays : MethodName := ⟨RX0, "pays", "(II)I"⟩
abbrev cX0_will : ByteArray := prog_2_method_10_code
def yX0_will : MethodName := ⟨RX0, "will", "(II)Z"⟩
abbrev cX0_breath : ByteArray := prog_2_method_11_code
def yX0_breath : MethodName := ⟨RX0, "breath", "(I)I"⟩
abbrev cX0_may : ByteArray := prog_2_method_12_code
def yX0_may : MethodName := ⟨RX0, "may", "(II)Z"⟩
abbrev cX0_step : ByteArray := prog_2_method_13_code
def yX0_step : MethodName := ⟨RX0, "step", "(II)I"⟩
abbrev cX0_lessen : ByteArray := prog_2_method_14_code
def yX0_lessen : MethodName := ⟨RX0, "lessen", "(III)V"⟩
abbrev cX0_settle : ByteArray := prog_2_method_15_code
def yX0_settle : MethodName := ⟨RX0, "settle", "(IIII)V"⟩
abbrev cX0_danceRound : ByteArray := prog_2_method_16_code
def yX0_danceRound : MethodName := ⟨RX0, "danceRound", "()I"⟩
abbrev cX0_endNight : ByteArray := prog_2_method_17_code
def yX0_endNight : MethodName := ⟨RX0, "endNight", "()I"⟩
abbrev cX0_ends : ByteArray := prog_2_method_18_code
def yX0_ends : MethodName := ⟨RX0, "ends", "()I"⟩
abbrev cX0_draw : ByteArray := prog_2_method_19_code
def yX0_draw : MethodName := ⟨RX0, "draw", "(I)V"⟩
abbrev cX0_stillOwed : ByteArray := prog_2_method_20_code
def yX0_stillOwed : MethodName := ⟨RX0, "stillOwed", "()I"⟩
abbrev cX0_keeps : ByteArray := prog_2_method_21_code
def yX0_keeps : MethodName := ⟨RX0, "keeps", "()I"⟩
abbrev cX0_least : ByteArray := prog_2_method_22_code
def yX0_least : MethodName := ⟨RX0, "least", "()I"⟩
abbrev cX0_ring : ByteArray := prog_2_method_23_code
def yX0_ring : MethodName := ⟨RX0, "ring", "()I"⟩
abbrev cX0_longest : ByteArray := prog_2_method_24_code
def yX0_longest : MethodName := ⟨RX0, "longest", "(IIII)I"⟩
abbrev cX0_mostToMeet : ByteArray := prog_2_method_25_code
def yX0_mostToMeet : MethodName := ⟨RX0, "mostToMeet", "()I"⟩
abbrev cX0_weigh : ByteArray := prog_2_method_26_code
def yX0_weigh : MethodName := ⟨RX0, "weigh", "()V"⟩
abbrev cX0_mayAll : ByteArray := prog_2_method_27_code
def yX0_mayAll : MethodName := ⟨RX0, "mayAll", "(I)Z"⟩
abbrev cX0_paidBy : ByteArray := prog_2_method_28_code
def yX0_paidBy : MethodName := ⟨RX0, "paidBy", "(I)I"⟩
abbrev cX0_bestSet : ByteArray := prog_2_method_29_code
def yX0_bestSet : MethodName := ⟨RX0, "bestSet", "()I"⟩
abbrev cX0_danceSet : ByteArray := prog_2_method_30_code
def yX0_danceSet : MethodName := ⟨RX0, "danceSet", "(ILDanceStillOwed$Floor;)V"⟩
abbrev cX0_firstOtherwise : ByteArray := prog_2_method_31_code
def yX0_firstOtherwise : MethodName := ⟨RX0, "firstOtherwise", "(LDanceStillOwed$Sheet;I)I"⟩
abbrev cX0_paysAs : ByteArray := prog_2_method_32_code
def yX0_paysAs : MethodName := ⟨RX0, "paysAs", "(LDanceStillOwed$Sheet;I)Z"⟩
def RX1 : String := "DanceStillOwed$Reader"
def TX1 : u_T := fun k => match k with
  | 0 => ("DanceStillOwed$Reader", "tape", "[I", true)
  | 1 => ("DanceStillOwed$Reader", "size", "I", false)
  | 2 => ("DanceStillOwed$Reader", "code", "[I", true)
  | 3 => ("DanceStillOwed$Reader", "used", "I", false)
  | 4 => ("DanceStillOwed$Reader", "ends", "[I", true)
  | 5 => ("DanceStillOwed$Reader", "at", "I", false)
  | 6 => ("DanceStillOwed$Reader", "token", "I", false)
  | 7 => ("DanceStillOwed$Reader", "number", "I", false)
  | 8 => ("DanceStillOwed$Reader", "begin", "I", false)
  | _ => ("DanceStillOwed$Reader", "open", "I", false)
def tyX1 : Nat → FieldType := fun k => match k with
  | 0 => .array .int
  | 1 => .int
  | 2 => .array .int
  | 3 => .int
  | 4 => .array .int
  | 5 => .int
  | 6 => .int
  | 7 => .int
  | 8 => .int
  | _ => .int
abbrev wsX10 : List Cond := u_ws RX1 TX1 10
theorem nmX1 : ∀ a, a < 10 → ∀ b, b < 10 → a ≠ b → (TX1 a).2.1 ≠ (TX1 b).2.1 := by decide +kernel
theorem tyX1_ok : ∀ k, k < 10 → parseFieldDescriptor (TX1 k).2.2.1 = some (tyX1 k) := by decide +kernel
abbrev cX1_init : ByteArray := prog_3_method_1_code
def yX1_init : MethodName := ⟨RX1, "<init>", "()V"⟩
abbrev cX1_hold : ByteArray := prog_3_method_2_code
def yX1_hold : MethodName := ⟨RX1, "hold", "(I)Z"⟩
abbrev cX1_read : ByteArray := prog_3_method_3_code
def yX1_read : MethodName := ⟨RX1, "read", "()LDanceStillOwed$Text;"⟩
abbrev cX1_pass : ByteArray := prog_3_method_4_code
def yX1_pass : MethodName := ⟨RX1, "pass", "(I)Z"⟩
abbrev cX1_put : ByteArray := prog_3_method_5_code
def yX1_put : MethodName := ⟨RX1, "put", "(I)Z"⟩
abbrev cX1_either : ByteArray := prog_3_method_6_code
def yX1_either : MethodName := ⟨RX1, "either", "()Z"⟩
abbrev cX1_both : ByteArray := prog_3_method_7_code
def yX1_both : MethodName := ⟨RX1, "both", "()Z"⟩
abbrev cX1_denied : ByteArray := prog_3_method_8_code
def yX1_denied : MethodName := ⟨RX1, "denied", "()Z"⟩
abbrev cX1_compared : ByteArray := prog_3_method_9_code
def yX1_compared : MethodName := ⟨RX1, "compared", "()Z"⟩
abbrev cX1_sum : ByteArray := prog_3_method_10_code
def yX1_sum : MethodName := ⟨RX1, "sum", "()Z"⟩
abbrev cX1_term : ByteArray := prog_3_method_11_code
def yX1_term : MethodName := ⟨RX1, "term", "()Z"⟩
abbrev cX1_one : ByteArray := prog_3_method_12_code
def yX1_one : MethodName := ⟨RX1, "one", "()Z"⟩
abbrev cX1_opens : ByteArray := prog_3_method_13_code
def yX1_opens : MethodName := ⟨RX1, "opens", "()Z"⟩
abbrev cX1_next : ByteArray := prog_3_method_14_code
def yX1_next : MethodName := ⟨RX1, "next", "()V"⟩
abbrev cX1_nextNumber : ByteArray := prog_3_method_15_code
def yX1_nextNumber : MethodName := ⟨RX1, "nextNumber", "()V"⟩
abbrev cX1_nextWord : ByteArray := prog_3_method_16_code
def yX1_nextWord : MethodName := ⟨RX1, "nextWord", "()V"⟩
abbrev cX1_spells : ByteArray := prog_3_method_17_code
def yX1_spells : MethodName := ⟨RX1, "spells", "(Ljava/lang/String;)Z"⟩
abbrev cX1_isDigit : ByteArray := prog_3_method_18_code
def yX1_isDigit : MethodName := ⟨RX1, "isDigit", "(I)Z"⟩
abbrev cX1_isLetter : ByteArray := prog_3_method_19_code
def yX1_isLetter : MethodName := ⟨RX1, "isLetter", "(I)Z"⟩
def RX2 : String := "DanceStillOwed$Rules"
def TX2 : u_T := fun k => match k with
  | 0 => ("DanceStillOwed$Rules", "texts", "[LDanceStillOwed$Text;", true)
  | 1 => ("DanceStillOwed$Rules", "count", "I", false)
  | 2 => ("DanceStillOwed$Rules", "names", "[I", true)
  | _ => ("DanceStillOwed$Rules", "stack", "[I", true)
def tyX2 : Nat → FieldType := fun k => match k with
  | 0 => .array (.object "DanceStillOwed$Text")
  | 1 => .int
  | 2 => .array .int
  | _ => .array .int
abbrev wsX20 : List Cond := u_ws RX2 TX2 4
theorem nmX2 : ∀ a, a < 4 → ∀ b, b < 4 → a ≠ b → (TX2 a).2.1 ≠ (TX2 b).2.1 := by decide +kernel
theorem tyX2_ok : ∀ k, k < 4 → parseFieldDescriptor (TX2 k).2.2.1 = some (tyX2 k) := by decide +kernel
abbrev cX2_init : ByteArray := prog_4_method_1_code
def yX2_init : MethodName := ⟨RX2, "<init>", "()V"⟩
abbrev cX2_keep : ByteArray := prog_4_method_2_code
def yX2_keep : MethodName := ⟨RX2, "keep", "(LDanceStillOwed$Text;)I"⟩
abbrev cX2_value : ByteArray := prog_4_method_3_code
def yX2_value : MethodName := ⟨RX2, "value", "(II)I"⟩
def RX3 : String := "DanceStillOwed$Sheet"
def TX3 : u_T := fun k => match k with
  | 0 => ("DanceStillOwed$Sheet", "sort", "I", false)
  | 1 => ("DanceStillOwed$Sheet", "size", "I", false)
  | _ => ("DanceStillOwed$Sheet", "row", "[I", true)
def tyX3 : Nat → FieldType := fun k => match k with
  | 0 => .int
  | 1 => .int
  | _ => .array .int
abbrev wsX30 : List Cond := u_ws RX3 TX3 3
theorem nmX3 : ∀ a, a < 3 → ∀ b, b < 3 → a ≠ b → (TX3 a).2.1 ≠ (TX3 b).2.1 := by decide +kernel
theorem tyX3_ok : ∀ k, k < 3 → parseFieldDescriptor (TX3 k).2.2.1 = some (tyX3 k) := by decide +kernel
abbrev cX3_init : ByteArray := prog_5_method_1_code
def yX3_init : MethodName := ⟨RX3, "<init>", "()V"⟩
abbrev cX3_become : ByteArray := prog_5_method_2_code
def yX3_become : MethodName := ⟨RX3, "become", "(II)V"⟩
abbrev cX3_holds : ByteArray := prog_5_method_3_code
def yX3_holds : MethodName := ⟨RX3, "holds", "(II)Z"⟩
abbrev cX3_put : ByteArray := prog_5_method_4_code
def yX3_put : MethodName := ⟨RX3, "put", "(II)V"⟩
def RX4 : String := "DanceStillOwed$Text"
def TX4 : u_T := fun k => match k with
  | 0 => ("DanceStillOwed$Text", "code", "[I", true)
  | _ => ("DanceStillOwed$Text", "ends", "[I", true)
def tyX4 : Nat → FieldType := fun k => match k with
  | 0 => .array .int
  | _ => .array .int
abbrev wsX40 : List Cond := u_ws RX4 TX4 2
theorem nmX4 : ∀ a, a < 2 → ∀ b, b < 2 → a ≠ b → (TX4 a).2.1 ≠ (TX4 b).2.1 := by decide +kernel
theorem tyX4_ok : ∀ k, k < 2 → parseFieldDescriptor (TX4 k).2.2.1 = some (tyX4 k) := by decide +kernel
abbrev cX4_init : ByteArray := prog_6_method_1_code
def yX4_init : MethodName := ⟨RX4, "<init>", "([I[I)V"⟩
def RX5 : String := "DanceStillOwed"
def TX5 : u_T := fun k => match k with
  | 0 => ("DanceStillOwed", "rules", "LDanceStillOwed$Rules;", true)
  | 1 => ("DanceStillOwed", "now", "LDanceStillOwed$Floor;", true)
  | 2 => ("DanceStillOwed", "kept", "LDanceStillOwed$Floor;", true)
  | 3 => ("DanceStillOwed", "thoughts", "[LDanceStillOwed$Floor;", true)
  | 4 => ("DanceStillOwed", "reader", "LDanceStillOwed$Reader;", true)
  | 5 => ("DanceStillOwed", "sheets", "[LDanceStillOwed$Sheet;", true)
  | 6 => ("DanceStillOwed", "imageKept", "Z", false)
  | _ => ("DanceStillOwed", "ring", "[I", true)
def tyX5 : Nat → FieldType := fun k => match k with
  | 0 => .object "DanceStillOwed$Rules"
  | 1 => .object "DanceStillOwed$Floor"
  | 2 => .object "DanceStillOwed$Floor"
  | 3 => .array (.object "DanceStillOwed$Floor")
  | 4 => .object "DanceStillOwed$Reader"
  | 5 => .array (.object "DanceStillOwed$Sheet")
  | 6 => .boolean
  | _ => .array .int
abbrev wsX50 : List Cond := u_ws RX5 TX5 8
theorem nmX5 : ∀ a, a < 8 → ∀ b, b < 8 → a ≠ b → (TX5 a).2.1 ≠ (TX5 b).2.1 := by decide +kernel
theorem tyX5_ok : ∀ k, k < 8 → parseFieldDescriptor (TX5 k).2.2.1 = some (tyX5 k) := by decide +kernel
abbrev cX5_init : ByteArray := prog_1_method_1_code
def yX5_init : MethodName := ⟨RX5, "<init>", "()V"⟩
abbrev cX5_set : ByteArray := prog_1_method_2_code
def yX5_set : MethodName := ⟨RX5, "set", "(III)I"⟩
abbrev cX5_dancer : ByteArray := prog_1_method_3_code
def yX5_dancer : MethodName := ⟨RX5, "dancer", "(II)I"⟩
abbrev cX5_told : ByteArray := prog_1_method_4_code
def yX5_told : MethodName := ⟨RX5, "told", "(II)I"⟩
abbrev cX5_asks : ByteArray := prog_1_method_5_code
def yX5_asks : MethodName := ⟨RX5, "asks", "(III)I"⟩
abbrev cX5_isDancer : ByteArray := prog_1_method_6_code
def yX5_isDancer : MethodName := ⟨RX5, "isDancer", "(I)Z"⟩
abbrev cX5_isTwo : ByteArray := prog_1_method_7_code
def yX5_isTwo : MethodName := ⟨RX5, "isTwo", "(II)Z"⟩
abbrev cX5_debtPlace : ByteArray := prog_1_method_8_code
def yX5_debtPlace : MethodName := ⟨RX5, "debtPlace", "(I)I"⟩
abbrev cX5_feed : ByteArray := prog_1_method_9_code
def yX5_feed : MethodName := ⟨RX5, "feed", "(I)I"⟩
abbrev cX5_text : ByteArray := prog_1_method_10_code
def yX5_text : MethodName := ⟨RX5, "text", "()I"⟩
abbrev cX5_force : ByteArray := prog_1_method_11_code
def yX5_force : MethodName := ⟨RX5, "force", "(I)I"⟩
abbrev cX5_dance : ByteArray := prog_1_method_12_code
def yX5_dance : MethodName := ⟨RX5, "dance", "(II)I"⟩
abbrev cX5_round : ByteArray := prog_1_method_13_code
def yX5_round : MethodName := ⟨RX5, "round", "()I"⟩
abbrev cX5_night : ByteArray := prog_1_method_14_code
def yX5_night : MethodName := ⟨RX5, "night", "()I"⟩
abbrev cX5_strike : ByteArray := prog_1_method_15_code
def yX5_strike : MethodName := ⟨RX5, "strike", "(I)I"⟩
abbrev cX5_readRing : ByteArray := prog_1_method_16_code
def yX5_readRing : MethodName := ⟨RX5, "readRing", "(I)I"⟩
abbrev cX5_run : ByteArray := prog_1_method_17_code
def yX5_run : MethodName := ⟨RX5, "run", "(IIII)I"⟩
abbrev cX5_think : ByteArray := prog_1_method_18_code
def yX5_think : MethodName := ⟨RX5, "think", "()LDanceStillOwed$Floor;"⟩
abbrev cX5_best : ByteArray := prog_1_method_19_code
def yX5_best : MethodName := ⟨RX5, "best", "(I)I"⟩
abbrev cX5_share : ByteArray := prog_1_method_20_code
def yX5_share : MethodName := ⟨RX5, "share", "(II)J"⟩
abbrev cX5_sitters : ByteArray := prog_1_method_21_code
def yX5_sitters : MethodName := ⟨RX5, "sitters", "()I"⟩
abbrev cX5_soonest : ByteArray := prog_1_method_22_code
def yX5_soonest : MethodName := ⟨RX5, "soonest", "()I"⟩
abbrev cX5_clears : ByteArray := prog_1_method_23_code
def yX5_clears : MethodName := ⟨RX5, "clears", "(II)Z"⟩
abbrev cX5_lowest : ByteArray := prog_1_method_24_code
def yX5_lowest : MethodName := ⟨RX5, "lowest", "(III)J"⟩
abbrev cX5_tells : ByteArray := prog_1_method_25_code
def yX5_tells : MethodName := ⟨RX5, "tells", "(IIII)I"⟩
abbrev cX5_kindsTold : ByteArray := prog_1_method_26_code
def yX5_kindsTold : MethodName := ⟨RX5, "kindsTold", "(LDanceStillOwed$Sheet;I)I"⟩
abbrev cX5_numbersTold : ByteArray := prog_1_method_27_code
def yX5_numbersTold : MethodName := ⟨RX5, "numbersTold", "(LDanceStillOwed$Sheet;I)I"⟩
abbrev cX5_roundsTold : ByteArray := prog_1_method_28_code
def yX5_roundsTold : MethodName := ⟨RX5, "roundsTold", "(LDanceStillOwed$Sheet;IZ)I"⟩
abbrev cX5_donesTold : ByteArray := prog_1_method_29_code
def yX5_donesTold : MethodName := ⟨RX5, "donesTold", "(LDanceStillOwed$Sheet;IZ)I"⟩
abbrev cX5_textsTold : ByteArray := prog_1_method_30_code
def yX5_textsTold : MethodName := ⟨RX5, "textsTold", "(LDanceStillOwed$Sheet;I)I"⟩
abbrev cX5_dancersTold : ByteArray := prog_1_method_31_code
def yX5_dancersTold : MethodName := ⟨RX5, "dancersTold", "(LDanceStillOwed$Sheet;I)I"⟩
abbrev cX5_film : ByteArray := prog_1_method_32_code
def yX5_film : MethodName := ⟨RX5, "film", "(IIII)I"⟩
abbrev cX5_drawn : ByteArray := prog_1_method_33_code
def yX5_drawn : MethodName := ⟨RX5, "drawn", "(I)I"⟩
abbrev cX5_chance : ByteArray := prog_1_method_34_code
def yX5_chance : MethodName := ⟨RX5, "chance", "(IIII)J"⟩
abbrev cX5_image : ByteArray := prog_1_method_35_code
def yX5_image : MethodName := ⟨RX5, "image", "()I"⟩
abbrev cX5_back : ByteArray := prog_1_method_36_code
def yX5_back : MethodName := ⟨RX5, "back", "()I"⟩
abbrev cX5_count : ByteArray := prog_1_method_37_code
def yX5_count : MethodName := ⟨RX5, "count", "(I)I"⟩
abbrev cX5_sheet : ByteArray := prog_1_method_38_code
def yX5_sheet : MethodName := ⟨RX5, "sheet", "(III)I"⟩
abbrev cX5_cell : ByteArray := prog_1_method_39_code
def yX5_cell : MethodName := ⟨RX5, "cell", "(III)I"⟩
abbrev cX5_copy : ByteArray := prog_1_method_40_code
def yX5_copy : MethodName := ⟨RX5, "copy", "(IIIII)I"⟩
abbrev cX5_room : ByteArray := prog_1_method_41_code
def yX5_room : MethodName := ⟨RX5, "room", "(IIII)I"⟩
abbrev cX5_taken : ByteArray := prog_1_method_42_code
def yX5_taken : MethodName := ⟨RX5, "taken", "(II)I"⟩
abbrev cX5_isSheet : ByteArray := prog_1_method_43_code
def yX5_isSheet : MethodName := ⟨RX5, "isSheet", "(I)Z"⟩
abbrev cX5_isSort : ByteArray := prog_1_method_44_code
def yX5_isSort : MethodName := ⟨RX5, "isSort", "(I)Z"⟩
abbrev cX5_within : ByteArray := prog_1_method_45_code
def yX5_within : MethodName := ⟨RX5, "within", "(II)I"⟩
def RX6 : String := "DanceStillOwedModel"
def TX6 : u_T := fun k => match k with
  | 0 => ("DanceStillOwedModel", "thrown", "I", false)
  | 1 => ("DanceStillOwedModel", "texts", "[I", true)
  | 2 => ("DanceStillOwedModel", "textSize", "[I", true)
  | 3 => ("DanceStillOwedModel", "textCount", "I", false)
  | 4 => ("DanceStillOwedModel", "rule", "I", false)
  | 5 => ("DanceStillOwedModel", "tape", "[I", true)
  | 6 => ("DanceStillOwedModel", "taped", "I", false)
  | 7 => ("DanceStillOwedModel", "roundNow", "I", false)
  | 8 => ("DanceStillOwedModel", "nightNow", "I", false)
  | 9 => ("DanceStillOwedModel", "kinds", "[I", true)
  | 10 => ("DanceStillOwedModel", "rows", "[I", true)
  | 11 => ("DanceStillOwedModel", "debts", "[I", true)
  | 12 => ("DanceStillOwedModel", "many", "I", false)
  | 13 => ("DanceStillOwedModel", "matches", "[I", true)
  | 14 => ("DanceStillOwedModel", "ofDebt", "I", false)
  | 15 => ("DanceStillOwedModel", "ofOwed", "I", false)
  | 16 => ("DanceStillOwedModel", "ofNumber", "I", false)
  | 17 => ("DanceStillOwedModel", "ofRound", "I", false)
  | 18 => ("DanceStillOwedModel", "ofDone", "I", false)
  | 19 => ("DanceStillOwedModel", "ofNight", "I", false)
  | 20 => ("DanceStillOwedModel", "from", "I", false)
  | 21 => ("DanceStillOwedModel", "size", "I", false)
  | 22 => ("DanceStillOwedModel", "here", "I", false)
  | 23 => ("DanceStillOwedModel", "token", "I", false)
  | 24 => ("DanceStillOwedModel", "tokenAt", "I", false)
  | 25 => ("DanceStillOwedModel", "tokenWorth", "J", false)
  | 26 => ("DanceStillOwedModel", "open", "I", false)
  | 27 => ("DanceStillOwedModel", "bad", "Z", false)
  | 28 => ("DanceStillOwedModel", "fault", "I", false)
  | 29 => ("DanceStillOwedModel", "dancedSet", "I", false)
  | 30 => ("DanceStillOwedModel", "ring1", "[I", true)
  | 31 => ("DanceStillOwedModel", "was", "[I", true)
  | 32 => ("DanceStillOwedModel", "debtsThen", "[I", true)
  | 33 => ("DanceStillOwedModel", "rowsThen", "[I", true)
  | 34 => ("DanceStillOwedModel", "debtsWas", "[I", true)
  | 35 => ("DanceStillOwedModel", "debtsKept", "[I", true)
  | 36 => ("DanceStillOwedModel", "rowsKept", "[I", true)
  | 37 => ("DanceStillOwedModel", "manyKept", "I", false)
  | 38 => ("DanceStillOwedModel", "roundKept", "I", false)
  | 39 => ("DanceStillOwedModel", "nightKept", "I", false)
  | 40 => ("DanceStillOwedModel", "ruleKept", "I", false)
  | 41 => ("DanceStillOwedModel", "isThere", "[Z", true)
  | 42 => ("DanceStillOwedModel", "sorts", "[I", true)
  | 43 => ("DanceStillOwedModel", "sheetSize", "[I", true)
  | _ => ("DanceStillOwedModel", "items", "[I", true)
def tyX6 : Nat → FieldType := fun k => match k with
  | 0 => .int
  | 1 => .array .int
  | 2 => .array .int
  | 3 => .int
  | 4 => .int
  | 5 => .array .int
  | 6 => .int
  | 7 => .int
  | 8 => .int
  | 9 => .array .int
  | 10 => .array .int
  | 11 => .array .int
  | 12 => .int
  | 13 => .array .int
  | 14 => .int
  | 15 => .int
  | 16 => .int
  | 17 => .int
  | 18 => .int
  | 19 => .int
  | 20 => .int
  | 21 => .int
  | 22 => .int
  | 23 => .int
  | 24 => .int
  | 25 => .long
  | 26 => .int
  | 27 => .boolean
  | 28 => .int
  | 29 => .int
  | 30 => .array .int
  | 31 => .array .int
  | 32 => .array .int
  | 33 => .array .int
  | 34 => .array .int
  | 35 => .array .int
  | 36 => .array .int
  | 37 => .int
  | 38 => .int
  | 39 => .int
  | 40 => .int
  | 41 => .array .boolean
  | 42 => .array .int
  | 43 => .array .int
  | _ => .array .int
abbrev wsX60 : List Cond := u_ws RX6 TX6 45
theorem nmX6 : ∀ a, a < 45 → ∀ b, b < 45 → a ≠ b → (TX6 a).2.1 ≠ (TX6 b).2.1 := by decide +kernel
theorem tyX6_ok : ∀ k, k < 45 → parseFieldDescriptor (TX6 k).2.2.1 = some (tyX6 k) := by decide +kernel
abbrev cX6_in : ByteArray := prog_8_method_2_code
def yX6_in : MethodName := ⟨RX6, "in", "(JJJ)Z"⟩
abbrev cX6_within : ByteArray := prog_8_method_3_code
def yX6_within : MethodName := ⟨RX6, "within", "(III)I"⟩
abbrev cX6_init : ByteArray := prog_8_method_4_code
def yX6_init : MethodName := ⟨RX6, "<init>", "()V"⟩
abbrev cX6_spell : ByteArray := prog_8_method_5_code
def yX6_spell : MethodName := ⟨RX6, "spell", "(IIIIIIIII)V"⟩
abbrev cX6_isOne : ByteArray := prog_8_method_6_code
def yX6_isOne : MethodName := ⟨RX6, "isOne", "(I)Z"⟩
abbrev cX6_areTwo : ByteArray := prog_8_method_7_code
def yX6_areTwo : MethodName := ⟨RX6, "areTwo", "(II)Z"⟩
abbrev cX6_isOf : ByteArray := prog_8_method_8_code
def yX6_isOf : MethodName := ⟨RX6, "isOf", "(II)Z"⟩
abbrev cX6_placeOf : ByteArray := prog_8_method_9_code
def yX6_placeOf : MethodName := ⟨RX6, "placeOf", "(I)I"⟩
abbrev cX6_mostOf : ByteArray := prog_8_method_10_code
def yX6_mostOf : MethodName := ⟨RX6, "mostOf", "(I)I"⟩
abbrev cX6_set : ByteArray := prog_8_method_11_code
def yX6_set : MethodName := ⟨RX6, "set", "(III)I"⟩
abbrev cX6_lays : ByteArray := prog_8_method_12_code
def yX6_lays : MethodName := ⟨RX6, "lays", "(III)V"⟩
abbrev cX6_dancer : ByteArray := prog_8_method_13_code
def yX6_dancer : MethodName := ⟨RX6, "dancer", "(II)I"⟩
abbrev cX6_told : ByteArray := prog_8_method_14_code
def yX6_told : MethodName := ⟨RX6, "told", "(II)I"⟩
abbrev cX6_debtOf : ByteArray := prog_8_method_15_code
def yX6_debtOf : MethodName := ⟨RX6, "debtOf", "(II)I"⟩
abbrev cX6_owesOf : ByteArray := prog_8_method_16_code
def yX6_owesOf : MethodName := ⟨RX6, "owesOf", "(I)I"⟩
abbrev cX6_owedTo : ByteArray := prog_8_method_17_code
def yX6_owedTo : MethodName := ⟨RX6, "owedTo", "(I)I"⟩
abbrev cX6_owedAll : ByteArray := prog_8_method_18_code
def yX6_owedAll : MethodName := ⟨RX6, "owedAll", "()I"⟩
abbrev cX6_feed : ByteArray := prog_8_method_19_code
def yX6_feed : MethodName := ⟨RX6, "feed", "(I)I"⟩
abbrev cX6_byteAt : ByteArray := prog_8_method_20_code
def yX6_byteAt : MethodName := ⟨RX6, "byteAt", "(I)I"⟩
abbrev cX6_next : ByteArray := prog_8_method_21_code
def yX6_next : MethodName := ⟨RX6, "next", "()V"⟩
abbrev cX6_fail : ByteArray := prog_8_method_22_code
def yX6_fail : MethodName := ⟨RX6, "fail", "()V"⟩
abbrev cX6_isLetter : ByteArray := prog_8_method_23_code
def yX6_isLetter : MethodName := ⟨RX6, "isLetter", "(II)Z"⟩
abbrev cX6_isWord : ByteArray := prog_8_method_24_code
def yX6_isWord : MethodName := ⟨RX6, "isWord", "(IIIIIIII)Z"⟩
abbrev cX6_isSign : ByteArray := prog_8_method_25_code
def yX6_isSign : MethodName := ⟨RX6, "isSign", "(I)Z"⟩
abbrev cX6_opens : ByteArray := prog_8_method_26_code
def yX6_opens : MethodName := ⟨RX6, "opens", "()Z"⟩
abbrev cX6_name : ByteArray := prog_8_method_27_code
def yX6_name : MethodName := ⟨RX6, "name", "()I"⟩
abbrev cX6_atom : ByteArray := prog_8_method_28_code
def yX6_atom : MethodName := ⟨RX6, "atom", "()I"⟩
abbrev cX6_term : ByteArray := prog_8_method_29_code
def yX6_term : MethodName := ⟨RX6, "term", "()I"⟩
abbrev cX6_added : ByteArray := prog_8_method_30_code
def yX6_added : MethodName := ⟨RX6, "added", "()I"⟩
abbrev cX6_not : ByteArray := prog_8_method_31_code
def yX6_not : MethodName := ⟨RX6, "not", "()I"⟩
abbrev cX6_both : ByteArray := prog_8_method_32_code
def yX6_both : MethodName := ⟨RX6, "both", "()I"⟩
abbrev cX6_either : ByteArray := prog_8_method_33_code
def yX6_either : MethodName := ⟨RX6, "either", "()I"⟩
abbrev cX6_part : ByteArray := prog_8_method_34_code
def yX6_part : MethodName := ⟨RX6, "part", "(Z)I"⟩
abbrev cX6_read : ByteArray := prog_8_method_35_code
def yX6_read : MethodName := ⟨RX6, "read", "(II)I"⟩
abbrev cX6_text : ByteArray := prog_8_method_36_code
def yX6_text : MethodName := ⟨RX6, "text", "()I"⟩
abbrev cX6_force : ByteArray := prog_8_method_37_code
def yX6_force : MethodName := ⟨RX6, "force", "(I)I"⟩
abbrev cX6_says : ByteArray := prog_8_method_38_code
def yX6_says : MethodName := ⟨RX6, "says", "(III)I"⟩
abbrev cX6_paysOf : ByteArray := prog_8_method_39_code
def yX6_paysOf : MethodName := ⟨RX6, "paysOf", "(II)I"⟩
abbrev cX6_willOf : ByteArray := prog_8_method_40_code
def yX6_willOf : MethodName := ⟨RX6, "willOf", "(II)Z"⟩
abbrev cX6_breathOf : ByteArray := prog_8_method_41_code
def yX6_breathOf : MethodName := ⟨RX6, "breathOf", "(I)I"⟩
abbrev cX6_hasBreath : ByteArray := prog_8_method_42_code
def yX6_hasBreath : MethodName := ⟨RX6, "hasBreath", "(I)Z"⟩
abbrev cX6_mayDance : ByteArray := prog_8_method_43_code
def yX6_mayDance : MethodName := ⟨RX6, "mayDance", "(II)Z"⟩
abbrev cX6_asks : ByteArray := prog_8_method_44_code
def yX6_asks : MethodName := ⟨RX6, "asks", "(III)I"⟩
abbrev cX6_dances : ByteArray := prog_8_method_45_code
def yX6_dances : MethodName := ⟨RX6, "dances", "(I)V"⟩
abbrev cX6_danceBoth : ByteArray := prog_8_method_46_code
def yX6_danceBoth : MethodName := ⟨RX6, "danceBoth", "(II)I"⟩
abbrev cX6_dance : ByteArray := prog_8_method_47_code
def yX6_dance : MethodName := ⟨RX6, "dance", "(II)I"⟩
abbrev cX6_passes : ByteArray := prog_8_method_48_code
def yX6_passes : MethodName := ⟨RX6, "passes", "()I"⟩
abbrev cX6_round : ByteArray := prog_8_method_49_code
def yX6_round : MethodName := ⟨RX6, "round", "()I"⟩
abbrev cX6_night : ByteArray := prog_8_method_50_code
def yX6_night : MethodName := ⟨RX6, "night", "()I"⟩
abbrev cX6_ringOf : ByteArray := prog_8_method_51_code
def yX6_ringOf : MethodName := ⟨RX6, "ringOf", "(I)I"⟩
abbrev cX6_strike : ByteArray := prog_8_method_52_code
def yX6_strike : MethodName := ⟨RX6, "strike", "(I)I"⟩
abbrev cX6_laysAside : ByteArray := prog_8_method_53_code
def yX6_laysAside : MethodName := ⟨RX6, "laysAside", "()V"⟩
abbrev cX6_laysBack : ByteArray := prog_8_method_54_code
def yX6_laysBack : MethodName := ⟨RX6, "laysBack", "()V"⟩
abbrev cX6_owedSet : ByteArray := prog_8_method_55_code
def yX6_owedSet : MethodName := ⟨RX6, "owedSet", "()I"⟩
abbrev cX6_run : ByteArray := prog_8_method_56_code
def yX6_run : MethodName := ⟨RX6, "run", "(IIII)I"⟩
abbrev cX6_both_ : ByteArray := prog_8_method_57_code
def yX6_both_ : MethodName := ⟨RX6, "both", "(I)I"⟩
abbrev cX6_lesser : ByteArray := prog_8_method_58_code
def yX6_lesser : MethodName := ⟨RX6, "lesser", "(I)I"⟩
abbrev cX6_greater : ByteArray := prog_8_method_59_code
def yX6_greater : MethodName := ⟨RX6, "greater", "(I)I"⟩
abbrev cX6_isApart : ByteArray := prog_8_method_60_code
def yX6_isApart : MethodName := ⟨RX6, "isApart", "(I)Z"⟩
abbrev cX6_isSet : ByteArray := prog_8_method_61_code
def yX6_isSet : MethodName := ⟨RX6, "isSet", "(I)Z"⟩
abbrev cX6_dancesOf : ByteArray := prog_8_method_62_code
def yX6_dancesOf : MethodName := ⟨RX6, "dancesOf", "(I)I"⟩
abbrev cX6_bestSet : ByteArray := prog_8_method_63_code
def yX6_bestSet : MethodName := ⟨RX6, "bestSet", "(I)I"⟩
abbrev cX6_nextRound : ByteArray := prog_8_method_64_code
def yX6_nextRound : MethodName := ⟨RX6, "nextRound", "(I)I"⟩
abbrev cX6_isPaidBy : ByteArray := prog_8_method_65_code
def yX6_isPaidBy : MethodName := ⟨RX6, "isPaidBy", "(I)Z"⟩
abbrev cX6_soonest : ByteArray := prog_8_method_66_code
def yX6_soonest : MethodName := ⟨RX6, "soonest", "()I"⟩
abbrev cX6_leastOwed : ByteArray := prog_8_method_67_code
def yX6_leastOwed : MethodName := ⟨RX6, "leastOwed", "()I"⟩
abbrev cX6_ringFrom : ByteArray := prog_8_method_68_code
def yX6_ringFrom : MethodName := ⟨RX6, "ringFrom", "(IIII)I"⟩
abbrev cX6_longestRing : ByteArray := prog_8_method_69_code
def yX6_longestRing : MethodName := ⟨RX6, "longestRing", "()I"⟩
abbrev cX6_ends : ByteArray := prog_8_method_70_code
def yX6_ends : MethodName := ⟨RX6, "ends", "()I"⟩
abbrev cX6_keeper : ByteArray := prog_8_method_71_code
def yX6_keeper : MethodName := ⟨RX6, "keeper", "()I"⟩
abbrev cX6_best : ByteArray := prog_8_method_72_code
def yX6_best : MethodName := ⟨RX6, "best", "(I)I"⟩
abbrev cX6_lowest : ByteArray := prog_8_method_73_code
def yX6_lowest : MethodName := ⟨RX6, "lowest", "(JJI)J"⟩
abbrev cX6_share : ByteArray := prog_8_method_74_code
def yX6_share : MethodName := ⟨RX6, "share", "(II)J"⟩
abbrev cX6_firstOther : ByteArray := prog_8_method_75_code
def yX6_firstOther : MethodName := ⟨RX6, "firstOther", "(II)I"⟩
abbrev cX6_likeSet : ByteArray := prog_8_method_76_code
def yX6_likeSet : MethodName := ⟨RX6, "likeSet", "(II)I"⟩
abbrev cX6_tells : ByteArray := prog_8_method_77_code
def yX6_tells : MethodName := ⟨RX6, "tells", "(IIII)I"⟩
abbrev cX6_film : ByteArray := prog_8_method_78_code
def yX6_film : MethodName := ⟨RX6, "film", "(IIII)I"⟩
abbrev cX6_endsDrawn : ByteArray := prog_8_method_79_code
def yX6_endsDrawn : MethodName := ⟨RX6, "endsDrawn", "(I)I"⟩
abbrev cX6_drawn : ByteArray := prog_8_method_80_code
def yX6_drawn : MethodName := ⟨RX6, "drawn", "(I)I"⟩
abbrev cX6_chance : ByteArray := prog_8_method_81_code
def yX6_chance : MethodName := ⟨RX6, "chance", "(IIII)J"⟩
abbrev cX6_image : ByteArray := prog_8_method_82_code
def yX6_image : MethodName := ⟨RX6, "image", "()I"⟩
abbrev cX6_back : ByteArray := prog_8_method_83_code
def yX6_back : MethodName := ⟨RX6, "back", "()I"⟩
abbrev cX6_count : ByteArray := prog_8_method_84_code
def yX6_count : MethodName := ⟨RX6, "count", "(I)I"⟩
abbrev cX6_isSheet : ByteArray := prog_8_method_85_code
def yX6_isSheet : MethodName := ⟨RX6, "isSheet", "(I)Z"⟩
abbrev cX6_sheet : ByteArray := prog_8_method_86_code
def yX6_sheet : MethodName := ⟨RX6, "sheet", "(III)I"⟩
abbrev cX6_cell : ByteArray := prog_8_method_87_code
def yX6_cell : MethodName := ⟨RX6, "cell", "(III)I"⟩
abbrev cX6_copy : ByteArray := prog_8_method_88_code
def yX6_copy : MethodName := ⟨RX6, "copy", "(IIIII)I"⟩
abbrev cX6_room : ByteArray := prog_8_method_89_code
def yX6_room : MethodName := ⟨RX6, "room", "(IIII)I"⟩
abbrev cX6_over : ByteArray := prog_8_method_90_code
def yX6_over : MethodName := ⟨RX6, "over", "(I)I"⟩
abbrev cX6_taken : ByteArray := prog_8_method_91_code
def yX6_taken : MethodName := ⟨RX6, "taken", "(II)I"⟩
def RJ11 : String := "java/lang/Character"
def TJ11 : u_T := fun k => match k with
  | _ => ("", "", "", false)
def tyJ11 : Nat → FieldType := fun k => match k with
  | _ => .int
theorem nmJ11 : ∀ a, a < 0 → ∀ b, b < 0 → a ≠ b → (TJ11 a).2.1 ≠ (TJ11 b).2.1 := by decide +kernel
theorem tyJ11_ok : ∀ k, k < 0 → parseFieldDescriptor (TJ11 k).2.2.1 = some (tyJ11 k) := by decide +kernel
abbrev cJ11_isValidCodePoint_9a6ad : ByteArray := prog_9_method_11_code
def yJ11_isValidCodePoint_9a6ad : MethodName := ⟨RJ11, "isValidCodePoint", "(I)Z"⟩
abbrev cJ11_highSurrogate_5068e : ByteArray := prog_9_method_28_code
def yJ11_highSurrogate_5068e : MethodName := ⟨RJ11, "highSurrogate", "(I)C"⟩
abbrev cJ11_lowSurrogate_5068e : ByteArray := prog_9_method_29_code
def yJ11_lowSurrogate_5068e : MethodName := ⟨RJ11, "lowSurrogate", "(I)C"⟩
def RJx8e188 : String := "java/lang/Cloneable"
def TJx8e188 : u_T := fun k => match k with
  | _ => ("", "", "", false)
def tyJx8e188 : Nat → FieldType := fun k => match k with
  | _ => .int
theorem nmJx8e188 : ∀ a, a < 0 → ∀ b, b < 0 → a ≠ b → (TJx8e188 a).2.1 ≠ (TJx8e188 b).2.1 := by decide +kernel
theorem tyJx8e188_ok : ∀ k, k < 0 → parseFieldDescriptor (TJx8e188 k).2.2.1 = some (tyJx8e188 k) := by decide +kernel
def RJ9 : String := "java/lang/Math"
def TJ9 : u_T := fun k => match k with
  | _ => ("", "", "", false)
def tyJ9 : Nat → FieldType := fun k => match k with
  | _ => .int
theorem nmJ9 : ∀ a, a < 0 → ∀ b, b < 0 → a ≠ b → (TJ9 a).2.1 ≠ (TJ9 b).2.1 := by decide +kernel
theorem tyJ9_ok : ∀ k, k < 0 → parseFieldDescriptor (TJ9 k).2.2.1 = some (tyJ9 k) := by decide +kernel
abbrev cJ9_max_7cf53 : ByteArray := prog_11_method_65_code
def yJ9_max_7cf53 : MethodName := ⟨RJ9, "max", "(II)I"⟩
abbrev cJ9_min_7cf53 : ByteArray := prog_11_method_69_code
def yJ9_min_7cf53 : MethodName := ⟨RJ9, "min", "(II)I"⟩
def RJ0 : String := "java/lang/String"
def TJ0 : u_T := fun k => match k with
  | _ => ("", "", "", false)
def tyJ0 : Nat → FieldType := fun k => match k with
  | _ => .int
theorem nmJ0 : ∀ a, a < 0 → ∀ b, b < 0 → a ≠ b → (TJ0 a).2.1 ≠ (TJ0 b).2.1 := by decide +kernel
theorem tyJ0_ok : ∀ k, k < 0 → parseFieldDescriptor (TJ0 k).2.2.1 = some (tyJ0 k) := by decide +kernel
abbrev cJ0_length_8abf5 : ByteArray := prog_12_method_54_code
def yJ0_length_8abf5 : MethodName := ⟨RJ0, "length", "()I"⟩
abbrev cJ0_charAt_5068e : ByteArray := prog_12_method_56_code
def yJ0_charAt_5068e : MethodName := ⟨RJ0, "charAt", "(I)C"⟩
abbrev cJ0_indexOf_0f7a4 : ByteArray := prog_12_method_79_code
def yJ0_indexOf_0f7a4 : MethodName := ⟨RJ0, "indexOf", "(I)I"⟩
abbrev cJ0_indexOf_7cf53 : ByteArray := prog_12_method_80_code
def yJ0_indexOf_7cf53 : MethodName := ⟨RJ0, "indexOf", "(II)I"⟩
abbrev cJ0_coder_7d493 : ByteArray := prog_12_method_152_code
def yJ0_coder_7d493 : MethodName := ⟨RJ0, "coder", "()B"⟩
abbrev cJ0_isLatin1_aae02 : ByteArray := prog_12_method_154_code
def yJ0_isLatin1_aae02 : MethodName := ⟨RJ0, "isLatin1", "()Z"⟩
abbrev cJ0_checkIndex_df160 : ByteArray := prog_12_method_155_code
def yJ0_checkIndex_df160 : MethodName := ⟨RJ0, "checkIndex", "(II)V"⟩
abbrev cJ0_checkBoundsBeginEnd_23922 : ByteArray := prog_12_method_158_code
def yJ0_checkBoundsBeginEnd_23922 : MethodName := ⟨RJ0, "checkBoundsBeginEnd", "(III)V"⟩
def RJ1 : String := "java/lang/StringLatin1"
def TJ1 : u_T := fun k => match k with
  | _ => ("", "", "", false)
def tyJ1 : Nat → FieldType := fun k => match k with
  | _ => .int
theorem nmJ1 : ∀ a, a < 0 → ∀ b, b < 0 → a ≠ b → (TJ1 a).2.1 ≠ (TJ1 b).2.1 := by decide +kernel
theorem tyJ1_ok : ∀ k, k < 0 → parseFieldDescriptor (TJ1 k).2.2.1 = some (tyJ1 k) := by decide +kernel
abbrev cJ1_charAt_3b067 : ByteArray := prog_13_method_2_code
def yJ1_charAt_3b067 : MethodName := ⟨RJ1, "charAt", "([BI)C"⟩
abbrev cJ1_canEncode_9a6ad : ByteArray := prog_13_method_4_code
def yJ1_canEncode_9a6ad : MethodName := ⟨RJ1, "canEncode", "(I)Z"⟩
abbrev cJ1_indexOf_4cfef : ByteArray := prog_13_method_22_code
def yJ1_indexOf_4cfef : MethodName := ⟨RJ1, "indexOf", "([BIII)I"⟩
abbrev cJ1_indexOfChar_4cfef : ByteArray := prog_13_method_23_code
def yJ1_indexOfChar_4cfef : MethodName := ⟨RJ1, "indexOfChar", "([BIII)I"⟩
def RJ2 : String := "java/lang/StringUTF16"
def TJ2 : u_T := fun k => match k with
  | _ => ("", "", "", false)
def tyJ2 : Nat → FieldType := fun k => match k with
  | _ => .int
theorem nmJ2 : ∀ a, a < 0 → ∀ b, b < 0 → a ≠ b → (TJ2 a).2.1 ≠ (TJ2 b).2.1 := by decide +kernel
theorem tyJ2_ok : ∀ k, k < 0 → parseFieldDescriptor (TJ2 k).2.2.1 = some (tyJ2 k) := by decide +kernel
abbrev cJ2_getChar_3b067 : ByteArray := prog_14_method_5_code
def yJ2_getChar_3b067 : MethodName := ⟨RJ2, "getChar", "([BI)C"⟩
abbrev cJ2_length_9d52b : ByteArray := prog_14_method_6_code
def yJ2_length_9d52b : MethodName := ⟨RJ2, "length", "([B)I"⟩
abbrev cJ2_indexOf_4cfef : ByteArray := prog_14_method_40_code
def yJ2_indexOf_4cfef : MethodName := ⟨RJ2, "indexOf", "([BIII)I"⟩
abbrev cJ2_indexOfChar_4cfef : ByteArray := prog_14_method_47_code
def yJ2_indexOfChar_4cfef : MethodName := ⟨RJ2, "indexOfChar", "([BIII)I"⟩
abbrev cJ2_indexOfCharUnsafe_4cfef : ByteArray := prog_14_method_48_code
def yJ2_indexOfCharUnsafe_4cfef : MethodName := ⟨RJ2, "indexOfCharUnsafe", "([BIII)I"⟩
abbrev cJ2_indexOfSupplementary_4cfef : ByteArray := prog_14_method_49_code
def yJ2_indexOfSupplementary_4cfef : MethodName := ⟨RJ2, "indexOfSupplementary", "([BIII)I"⟩
abbrev cJ2_charAt_3b067 : ByteArray := prog_14_method_83_code
def yJ2_charAt_3b067 : MethodName := ⟨RJ2, "charAt", "([BI)C"⟩
abbrev cJ2_checkIndex_2214a : ByteArray := prog_14_method_91_code
def yJ2_checkIndex_2214a : MethodName := ⟨RJ2, "checkIndex", "(I[B)V"⟩
abbrev cJ2_checkBoundsBeginEnd_d044e : ByteArray := prog_14_method_93_code
def yJ2_checkBoundsBeginEnd_d044e : MethodName := ⟨RJ2, "checkBoundsBeginEnd", "(II[B)V"⟩
def RJ10 : String := "java/lang/System"
def TJ10 : u_T := fun k => match k with
  | _ => ("", "", "", false)
def tyJ10 : Nat → FieldType := fun k => match k with
  | _ => .int
theorem nmJ10 : ∀ a, a < 0 → ∀ b, b < 0 → a ≠ b → (TJ10 a).2.1 ≠ (TJ10 b).2.1 := by decide +kernel
theorem tyJ10_ok : ∀ k, k < 0 → parseFieldDescriptor (TJ10 k).2.2.1 = some (tyJ10 k) := by decide +kernel
def RJ3 : String := "jdk/internal/util/Preconditions"
def TJ3 : u_T := fun k => match k with
  | _ => ("", "", "", false)
def tyJ3 : Nat → FieldType := fun k => match k with
  | _ => .int
theorem nmJ3 : ∀ a, a < 0 → ∀ b, b < 0 → a ≠ b → (TJ3 a).2.1 ≠ (TJ3 b).2.1 := by decide +kernel
theorem tyJ3_ok : ∀ k, k < 0 → parseFieldDescriptor (TJ3 k).2.2.1 = some (tyJ3 k) := by decide +kernel
abbrev cJ3_checkIndex_8e157 : ByteArray := prog_16_method_11_code
def yJ3_checkIndex_8e157 : MethodName := ⟨RJ3, "checkIndex", "(IILjava/util/function/BiFunction;)I"⟩
abbrev cJ3_checkFromToIndex_8c36e : ByteArray := prog_16_method_12_code
def yJ3_checkFromToIndex_8c36e : MethodName := ⟨RJ3, "checkFromToIndex", "(IIILjava/util/function/BiFunction;)I"⟩
def RL : String := "DanceStillOwedLaw"
abbrev cL_law : ByteArray := code
def yL_law : MethodName := ⟨RL, "law", "([I)Z"⟩
abbrev vwCl : List vw_C := [(RX0, TX0, 13), (RX1, TX1, 10), (RX2, TX2, 4), (RX3, TX3, 3), (RX4, TX4, 2), (RX5, TX5, 8), (RX6, TX6, 45)]
end
section
/-! THE MACHINE AM: the bytecode over a state whose cells have fixed names (part, group): 'F' says what one instruction asks of the next place 'P'; 'WP' is the least such 'P'; 'Call' is a method's run at a depth. -/
abbrev AV : Type := Int32 ⊕ (Int64 ⊕ Option (Nat × Nat))
abbrev aI (x : Int32) : AV := Sum.inl x
abbrev aL (x : Int64) : AV := Sum.inr (Sum.inl x)
abbrev aN : AV := Sum.inr (Sum.inr none)
abbrev aR (j g : Nat) : AV := Sum.inr (Sum.inr (some (j, g)))
/-- the ints (part, group, slot), the one long, which references are set, lengths that vary, how many cells there are -/
abbrev St : Type := (Nat → Nat → Nat → Int32) × Int64 × (Nat → Nat → Nat → Bool) × (Nat → Nat) × Nat
def up3 {α : Type} (f : Nat → Nat → Nat → α) (j g k : Nat) (v : α) : Nat → Nat → Nat → α := fun a b c => if a = j ∧ b = g ∧ c = k then v else f a b c
def zr3 {α : Type} (f : Nat → Nat → Nat → α) (j g : Nat) (v : α) : Nat → Nat → Nat → α := fun a b c => if a = j ∧ b = g then v else f a b c
def upN {α : Type} (f : Nat → α) (k : Nat) (v : α) : Nat → α := fun a => if a = k then v else f a
/-- an instruction, the next place, where it jumps to, its number, its switch -/
abbrev Ent : Type := Instr × Nat × Nat × Int32 × List (Int32 × Nat)
/-- a method: its code in pieces of 16 places, its class's number, cells and slots that it may make, what it answers (0 nothing, 1 int, 2 long, 3 a reference, 4 boolean); its name, bytes, locals, type -/
abbrev MT : Type := (List (List (Option Ent)) × Nat × Nat × Nat × Nat) × (MethodName × ByteArray × Nat × Option FieldType)
def nth {α : Type} : List α → Nat → Option α
  | [], _ => none
  | a :: _, 0 => some a
  | _ :: l, n + 1 => nth l n
def lkp {α : Type} : List (Nat × α) → Nat → Option α
  | [], _ => none
  | a :: l, i => cond (Nat.beq a.1 i) (some a.2) (lkp l i)
def codeAt (Y : MT) (pc : Nat) : Option Ent := match nth Y.1.1 (pc / 16) with
  | none => none
  | some l => match nth l (pc % 16) with
    | none => none
    | some e => e
def isL : Option AV → Bool
  | some (Sum.inr (Sum.inl _)) => true
  | _ => false
/-- a store into the locals -/
def putL : List (Option AV) → Nat → AV → List (Option AV)
  | [], _, _ => []
  | _ :: l, 0, v => match v with
    | Sum.inr (Sum.inl _) => some v :: (match l with
      | [] => []
      | _ :: t => none :: t)
    | _ => some v :: l
  | a :: l, 1, v => (match a with
    | some (Sum.inr (Sum.inl _)) => none
    | _ => a) :: putL l 0 v
  | a :: l, n + 2, v => a :: putL l (n + 1) v
def mkL : Nat → List AV → List (Option AV)
  | 0, _ => []
  | n + 1, [] => none :: mkL n []
  | n + 1, v :: r => match v with
    | Sum.inr (Sum.inl _) => some v :: (match n with
      | 0 => []
      | k + 1 => none :: mkL k r)
    | _ => some v :: mkL n r
def popI (st : List AV) (k : Int32 → List AV → Prop) : Prop := match st with
  | Sum.inl x :: r => k x r
  | _ => False
def popJ (st : List AV) (k : Int64 → List AV → Prop) : Prop := match st with
  | Sum.inr (Sum.inl x) :: r => k x r
  | _ => False
def popR (st : List AV) (k : Nat → Nat → List AV → Prop) : Prop := match st with
  | Sum.inr (Sum.inr (some q)) :: r => k q.1 q.2 r
  | _ => False
def popS (st : List AV) (k : AV → List AV → Prop) : Prop := match st with
  | Sum.inl x :: r => k (Sum.inl x) r
  | Sum.inr (Sum.inr q) :: r => k (Sum.inr (Sum.inr q)) r
  | _ => False
def getI (L : List (Option AV)) (i : Nat) (k : Int32 → Prop) : Prop := match nth L i with
  | some (some (Sum.inl x)) => k x
  | _ => False
def getJ (L : List (Option AV)) (i : Nat) (k : Int64 → Prop) : Prop := match nth L i with
  | some (some (Sum.inr (Sum.inl x))) => k x
  | _ => False
def getA (L : List (Option AV)) (i : Nat) (k : Option (Nat × Nat) → Prop) : Prop := match nth L i with
  | some (some (Sum.inr (Sum.inr x))) => k x
  | _ => False
/-- so many from the top, the lowest first; and the rest -/
def popN : Nat → List AV → List AV → Option (List AV × List AV)
  | 0, st, acc => some (acc, st)
  | n + 1, v :: st, acc => popN n st (v :: acc)
  | _ + 1, [], _ => none
def catS : List AV → Nat
  | [] => 0
  | v :: r => (match v with
    | Sum.inr (Sum.inl _) => 2
    | _ => 1) + catS r
abbrev PT : Type := Nat → List (Option AV) → List AV → St → Nat → Nat → Prop
abbrev KT : Type := Option AV → St → Prop
abbrev CT : Type := MT → List AV → St → KT → Prop
def swP (x : Int32) (P : Nat → Prop) : List (Int32 × Nat) → Nat → Prop
  | [], d => P d
  | a :: l, d => (x = a.1 → P a.2) ∧ (¬ x = a.1 → swP x P l d)
-- the names of the cells
def clsP (j : Nat) : Nat := match j with
  | 0 => 5
  | 1 => 2
  | 7 => 1
  | 10 => 0
  | 20 => 3
  | 30 => 4
  | 40 => 6
  | _ => 9
/-- whom a reference field holds, once it is set -/
def frf (j g k : Nat) : Nat × Nat := match j with
  | 0 => (match k with
    | 0 => (1, 0)
    | 1 => (10, 0)
    | 2 => (10, 1)
    | 3 => (6, 0)
    | 4 => (7, 0)
    | 5 => (18, 0)
    | _ => (19, 0))
  | 1 => (match k with
    | 0 => (3, 0)
    | 2 => (4, 0)
    | _ => (5, 0))
  | 7 => (match k with
    | 0 => (8, 0)
    | 2 => (9, 0)
    | _ => (17, 0))
  | 10 => (match k with
    | 0 => (1, 0)
    | 5 => (11, g)
    | 6 => (12, g)
    | 7 => (13, g)
    | 8 => (14, g)
    | 11 => (15, g)
    | _ => (16, g))
  | 20 => (21, g)
  | 30 => (match k with
    | 0 => (31, g)
    | _ => (32, g))
  | 40 => (match k with
    | 1 => (41, 0)
    | 2 => (42, 0)
    | 5 => (43, 0)
    | 9 => (44, 0)
    | 10 => (45, 0)
    | 11 => (46, 0)
    | 13 => (47, 0)
    | 30 => (48, 0)
    | 31 => (49, 0)
    | 32 => (50, 0)
    | 33 => (51, 0)
    | 34 => (52, 0)
    | 35 => (53, 0)
    | 36 => (54, 0)
    | 41 => (55, 0)
    | 42 => (56, 0)
    | 43 => (57, 0)
    | _ => (58, 0))
  | _ => (99, 0)
/-- an array of references: which class's (1 Floor, 2 Sheet, 3 Text), and whom its place k holds once it is set -/
def rfk (j : Nat) : Nat := match j with
  | 6 => 1
  | 18 => 2
  | 3 => 3
  | _ => 0
def erf (j k : Nat) : Nat × Nat := match j with
  | 6 => (10, k + 2)
  | 18 => (20, k)
  | 3 => (30, k)
  | _ => (99, 0)
/-- 1: an array of ints; 2: of booleans; 3: a static array of ints, only read -/
def iak (j : Nat) : Nat := match j with
  | 4 => 1 | 5 => 1 | 8 => 1 | 9 => 1 | 11 => 1 | 12 => 1 | 13 => 1 | 14 => 1 | 15 => 1 | 16 => 1 | 17 => 1 | 19 => 1 | 21 => 1 | 31 => 1 | 32 => 1
  | 41 => 1 | 42 => 1 | 43 => 1 | 44 => 1 | 45 => 1 | 46 => 1 | 47 => 1 | 48 => 1 | 49 => 1 | 50 => 1 | 51 => 1 | 52 => 1 | 53 => 1 | 54 => 1 | 56 => 1 | 57 => 1 | 58 => 1
  | 55 => 2
  | 60 => 3 | 61 => 3 | 62 => 3 | 63 => 3 | 64 => 3 | 65 => 3
  | _ => 0
/-- the lengths -/
def aln (tl : Nat → Nat) (j g : Nat) : Nat := match j with
  | 3 => 6 | 4 => 6 | 5 => 160 | 6 => 3 | 8 => 160 | 9 => 160
  | 11 => 5 | 12 => 5 | 13 => 5 | 14 => 25 | 15 => 10 | 16 => 10 | 17 => 3
  | 18 => 4 | 19 => 5 | 21 => 40 | 31 => tl g | 32 => 3
  | 41 => 960 | 42 => 6 | 43 => 160 | 44 => 5 | 45 => 10 | 46 => 25 | 47 => 26 | 48 => 5 | 49 => 37 | 50 => 100 | 51 => 40 | 52 => 25 | 53 => 25 | 54 => 10 | 55 => 4 | 56 => 4 | 57 => 4 | 58 => 160
  | 60 => tl 1000 | 61 => 10 | 62 => 10 | 63 => 26 | 64 => 5 | 65 => 6
  | _ => 0
/-- the cells in the order in which they are made -/
def idsT : List (Nat × Nat) := [(0, 0), (1, 0), (3, 0), (4, 0), (5, 0), (31, 0), (32, 0), (30, 0),
  (10, 0), (11, 0), (12, 0), (13, 0), (14, 0), (15, 0), (16, 0), (10, 1), (11, 1), (12, 1), (13, 1), (14, 1), (15, 1), (16, 1), (6, 0),
  (10, 2), (11, 2), (12, 2), (13, 2), (14, 2), (15, 2), (16, 2), (10, 3), (11, 3), (12, 3), (13, 3), (14, 3), (15, 3), (16, 3), (10, 4), (11, 4), (12, 4), (13, 4), (14, 4), (15, 4), (16, 4),
  (7, 0), (8, 0), (9, 0), (17, 0), (18, 0), (20, 0), (21, 0), (20, 1), (21, 1), (20, 2), (21, 2), (20, 3), (21, 3), (19, 0), (40, 0),
  (41, 0), (42, 0), (43, 0), (44, 0), (45, 0), (46, 0), (47, 0), (48, 0), (49, 0), (50, 0), (51, 0), (52, 0), (53, 0), (54, 0), (55, 0), (56, 0), (57, 0), (58, 0)]
def idOf (n : Nat) : Nat × Nat := match nth idsT n with
  | some q => q
  | none => (if (n - 77) % 3 = 0 then 31 else if (n - 77) % 3 = 1 then 30 else 32, (n - 77) / 3 + 1)
def numP (j g : Nat) : Nat := match j with
  | 0 => 0 | 1 => 1 | 3 => 2 | 4 => 3 | 5 => 4
  | 31 => if g = 0 then 5 else 77 + 3 * (g - 1)
  | 32 => if g = 0 then 6 else 77 + 3 * (g - 1) + 2
  | 30 => if g = 0 then 7 else 77 + 3 * (g - 1) + 1
  | 10 => if g < 2 then 8 + 7 * g else 9 + 7 * g
  | 11 => if g < 2 then 9 + 7 * g else 10 + 7 * g
  | 12 => if g < 2 then 10 + 7 * g else 11 + 7 * g
  | 13 => if g < 2 then 11 + 7 * g else 12 + 7 * g
  | 14 => if g < 2 then 12 + 7 * g else 13 + 7 * g
  | 15 => if g < 2 then 13 + 7 * g else 14 + 7 * g
  | 16 => if g < 2 then 14 + 7 * g else 15 + 7 * g
  | 6 => 22 | 7 => 44 | 8 => 45 | 9 => 46 | 17 => 47 | 18 => 48
  | 20 => 49 + 2 * g
  | 21 => 50 + 2 * g
  | 19 => 57
  | n => n + 18
end
section
/-! printed by gencode.py: the code, the links, the fields for the machine AM -/
def m_none : MT := (([], 9, 0, 0, 0), (yL_law, cL_law, 0, none))
def cd_X0_init : List (List (Option Ent)) := [[some (.aload_n 0, 1, 0, 0, []), some (.invokespecial 3, 4, 0, 0, []), none, none, some (.aload_n 0, 5, 0, 0, []), some (.iconst 5, 6, 0, 5, []), some (.newarray .int, 8, 0, 0, []), none, some (.putfield 9, 11, 0, 0, []), none, none, some (.aload_n 0, 12, 0, 0, []), some (.iconst 5, 13, 0, 5, []), some (.newarray .int, 15, 0, 0, []), none, some (.putfield 15, 18, 0, 0, [])],
  [none, none, some (.aload_n 0, 19, 0, 0, []), some (.iconst 5, 20, 0, 5, []), some (.newarray .int, 22, 0, 0, []), none, some (.putfield 18, 25, 0, 0, []), none, none, some (.aload_n 0, 26, 0, 0, []), some (.bipush 25, 28, 0, 25, []), none, some (.newarray .int, 30, 0, 0, []), none, some (.putfield 21, 33, 0, 0, []), none],
  [none, some (.aload_n 0, 34, 0, 0, []), some (.getstatic 24, 37, 0, 0, []), none, none, some (.arraylength, 38, 0, 0, []), some (.newarray .int, 40, 0, 0, []), none, some (.putfield 27, 43, 0, 0, []), none, none, some (.aload_n 0, 44, 0, 0, []), some (.getstatic 24, 47, 0, 0, []), none, none, some (.arraylength, 48, 0, 0, [])],
  [some (.newarray .int, 50, 0, 0, []), none, some (.putfield 30, 53, 0, 0, []), none, none, some (.aload_n 0, 54, 0, 0, []), some (.aload_n 1, 55, 0, 0, []), some (.putfield 33, 58, 0, 0, []), none, none, some (.return_, 59, 0, 0, [])]]
def m_X0_init : MT := ((cd_X0_init, 0, 6, 60, 0), (yX0_init, cX0_init, 2, none))
def cd_X0_takeFrom : List (List (Option Ent)) := [[some (.aload_n 0, 1, 0, 0, []), some (.aload_n 1, 2, 0, 0, []), some (.getfield 37, 5, 0, 0, []), none, none, some (.putfield 37, 8, 0, 0, []), none, none, some (.aload_n 0, 9, 0, 0, []), some (.aload_n 1, 10, 0, 0, []), some (.getfield 41, 13, 0, 0, []), none, none, some (.putfield 41, 16, 0, 0, []), none, none],
  [some (.aload_n 0, 17, 0, 0, []), some (.aload_n 1, 18, 0, 0, []), some (.getfield 44, 21, 0, 0, []), none, none, some (.putfield 44, 24, 0, 0, []), none, none, some (.aload_n 0, 25, 0, 0, []), some (.aload_n 1, 26, 0, 0, []), some (.getfield 47, 29, 0, 0, []), none, none, some (.putfield 47, 32, 0, 0, []), none, none],
  [some (.aload_n 1, 33, 0, 0, []), some (.getfield 9, 36, 0, 0, []), none, none, some (.iconst 0, 37, 0, 0, []), some (.aload_n 0, 38, 0, 0, []), some (.getfield 9, 41, 0, 0, []), none, none, some (.iconst 0, 42, 0, 0, []), some (.aload_n 0, 43, 0, 0, []), some (.getfield 9, 46, 0, 0, []), none, none, some (.arraylength, 47, 0, 0, []), some (.invokestatic 50, 50, 0, 0, [])],
  [none, none, some (.aload_n 1, 51, 0, 0, []), some (.getfield 15, 54, 0, 0, []), none, none, some (.iconst 0, 55, 0, 0, []), some (.aload_n 0, 56, 0, 0, []), some (.getfield 15, 59, 0, 0, []), none, none, some (.iconst 0, 60, 0, 0, []), some (.aload_n 0, 61, 0, 0, []), some (.getfield 15, 64, 0, 0, []), none, none],
  [some (.arraylength, 65, 0, 0, []), some (.invokestatic 50, 68, 0, 0, []), none, none, some (.aload_n 1, 69, 0, 0, []), some (.getfield 18, 72, 0, 0, []), none, none, some (.iconst 0, 73, 0, 0, []), some (.aload_n 0, 74, 0, 0, []), some (.getfield 18, 77, 0, 0, []), none, none, some (.iconst 0, 78, 0, 0, []), some (.aload_n 0, 79, 0, 0, []), some (.getfield 18, 82, 0, 0, [])],
  [none, none, some (.arraylength, 83, 0, 0, []), some (.invokestatic 50, 86, 0, 0, []), none, none, some (.aload_n 1, 87, 0, 0, []), some (.getfield 21, 90, 0, 0, []), none, none, some (.iconst 0, 91, 0, 0, []), some (.aload_n 0, 92, 0, 0, []), some (.getfield 21, 95, 0, 0, []), none, none, some (.iconst 0, 96, 0, 0, [])],
  [some (.aload_n 0, 97, 0, 0, []), some (.getfield 21, 100, 0, 0, []), none, none, some (.arraylength, 101, 0, 0, []), some (.invokestatic 50, 104, 0, 0, []), none, none, some (.return_, 105, 0, 0, [])]]
def m_X0_takeFrom : MT := ((cd_X0_takeFrom, 0, 0, 0, 0), (yX0_takeFrom, cX0_takeFrom, 2, none))
def cd_X0_join : List (List (Option Ent)) := [[some (.aload_n 0, 1, 0, 0, []), some (.getfield 9, 4, 0, 0, []), none, none, some (.aload_n 0, 5, 0, 0, []), some (.getfield 37, 8, 0, 0, []), none, none, some (.iload_n 1, 9, 0, 0, []), some (.iastore, 10, 0, 0, []), some (.aload_n 0, 11, 0, 0, []), some (.getfield 15, 14, 0, 0, []), none, none, some (.aload_n 0, 15, 0, 0, []), some (.getfield 37, 18, 0, 0, [])],
  [none, none, some (.iload_n 2, 19, 0, 0, []), some (.iastore, 20, 0, 0, []), some (.aload_n 0, 21, 0, 0, []), some (.dup, 22, 0, 0, []), some (.getfield 37, 25, 0, 0, []), none, none, some (.iconst 1, 26, 0, 1, []), some (.iadd, 27, 0, 0, []), some (.putfield 37, 30, 0, 0, []), none, none, some (.aload_n 0, 31, 0, 0, []), some (.getfield 37, 34, 0, 0, [])],
  [none, none, some (.iconst 1, 35, 0, 1, []), some (.isub, 36, 0, 0, []), some (.ireturn, 37, 0, 0, [])]]
def m_X0_join : MT := ((cd_X0_join, 0, 0, 0, 1), (yX0_join, cX0_join, 3, (some .int)))
def cd_X0_owing : List (List (Option Ent)) := [[some (.aload_n 0, 1, 0, 0, []), some (.getfield 21, 4, 0, 0, []), none, none, some (.iload_n 1, 5, 0, 0, []), some (.iconst 5, 6, 0, 5, []), some (.imul, 7, 0, 0, []), some (.iload_n 2, 8, 0, 0, []), some (.iadd, 9, 0, 0, []), some (.iaload, 10, 0, 0, []), some (.ireturn, 11, 0, 0, [])]]
def m_X0_owing : MT := ((cd_X0_owing, 0, 0, 0, 1), (yX0_owing, cX0_owing, 3, (some .int)))
def cd_X0_owes : List (List (Option Ent)) := [[some (.iconst 0, 1, 0, 0, []), some (.istore_n 2, 2, 0, 0, []), some (.iconst 0, 3, 0, 0, []), some (.istore_n 3, 4, 0, 0, []), some (.iload_n 3, 5, 0, 0, []), some (.aload_n 0, 6, 0, 0, []), some (.getfield 37, 9, 0, 0, []), none, none, some (.if_icmp .ge 22, 12, 31, 0, []), none, none, some (.iload_n 2, 13, 0, 0, []), some (.aload_n 0, 14, 0, 0, []), some (.getfield 21, 17, 0, 0, []), none],
  [none, some (.iload_n 1, 18, 0, 0, []), some (.iconst 5, 19, 0, 5, []), some (.imul, 20, 0, 0, []), some (.iload_n 3, 21, 0, 0, []), some (.iadd, 22, 0, 0, []), some (.iaload, 23, 0, 0, []), some (.iadd, 24, 0, 0, []), some (.istore_n 2, 25, 0, 0, []), some (.iinc 3 1, 28, 0, 1, []), none, none, some (.goto (-24), 31, 4, 0, []), none, none, some (.iload_n 2, 32, 0, 0, [])],
  [some (.ireturn, 33, 0, 0, [])]]
def m_X0_owes : MT := ((cd_X0_owes, 0, 0, 0, 1), (yX0_owes, cX0_owes, 4, (some .int)))
def cd_X0_owedTo : List (List (Option Ent)) := [[some (.iconst 0, 1, 0, 0, []), some (.istore_n 2, 2, 0, 0, []), some (.iconst 0, 3, 0, 0, []), some (.istore_n 3, 4, 0, 0, []), some (.iload_n 3, 5, 0, 0, []), some (.aload_n 0, 6, 0, 0, []), some (.getfield 37, 9, 0, 0, []), none, none, some (.if_icmp .ge 22, 12, 31, 0, []), none, none, some (.iload_n 2, 13, 0, 0, []), some (.aload_n 0, 14, 0, 0, []), some (.getfield 21, 17, 0, 0, []), none],
  [none, some (.iload_n 3, 18, 0, 0, []), some (.iconst 5, 19, 0, 5, []), some (.imul, 20, 0, 0, []), some (.iload_n 1, 21, 0, 0, []), some (.iadd, 22, 0, 0, []), some (.iaload, 23, 0, 0, []), some (.iadd, 24, 0, 0, []), some (.istore_n 2, 25, 0, 0, []), some (.iinc 3 1, 28, 0, 1, []), none, none, some (.goto (-24), 31, 4, 0, []), none, none, some (.iload_n 2, 32, 0, 0, [])],
  [some (.ireturn, 33, 0, 0, [])]]
def m_X0_owedTo : MT := ((cd_X0_owedTo, 0, 0, 0, 1), (yX0_owedTo, cX0_owedTo, 4, (some .int)))
def cd_X0_all : List (List (Option Ent)) := [[some (.iconst 0, 1, 0, 0, []), some (.istore_n 1, 2, 0, 0, []), some (.iconst 0, 3, 0, 0, []), some (.istore_n 2, 4, 0, 0, []), some (.iload_n 2, 5, 0, 0, []), some (.aload_n 0, 6, 0, 0, []), some (.getfield 37, 9, 0, 0, []), none, none, some (.if_icmp .ge 17, 12, 26, 0, []), none, none, some (.iload_n 1, 13, 0, 0, []), some (.aload_n 0, 14, 0, 0, []), some (.iload_n 2, 15, 0, 0, []), some (.invokevirtual 56, 18, 0, 0, [])],
  [none, none, some (.iadd, 19, 0, 0, []), some (.istore_n 1, 20, 0, 0, []), some (.iinc 2 1, 23, 0, 1, []), none, none, some (.goto (-19), 26, 4, 0, []), none, none, some (.iload_n 1, 27, 0, 0, []), some (.ireturn, 28, 0, 0, [])]]
def m_X0_all : MT := ((cd_X0_all, 0, 0, 0, 1), (yX0_all, cX0_all, 3, (some .int)))
def cd_X0_value : List (List (Option Ent)) := [[some (.aload_n 0, 1, 0, 0, []), some (.getfield 33, 4, 0, 0, []), none, none, some (.getfield 60, 7, 0, 0, []), none, none, some (.astore 4, 9, 0, 0, []), none, some (.aload 4, 11, 0, 0, []), none, some (.iconst 0, 12, 0, 0, []), some (.iload_n 3, 13, 0, 0, []), some (.iastore, 14, 0, 0, []), some (.aload 4, 16, 0, 0, []), none],
  [some (.iconst 1, 17, 0, 1, []), some (.aload_n 0, 18, 0, 0, []), some (.iload_n 2, 19, 0, 0, []), some (.invokevirtual 65, 22, 0, 0, []), none, none, some (.iastore, 23, 0, 0, []), some (.aload 4, 25, 0, 0, []), none, some (.iconst 2, 26, 0, 2, []), some (.aload_n 0, 27, 0, 0, []), some (.getfield 15, 30, 0, 0, []), none, none, some (.iload_n 2, 31, 0, 0, []), some (.iaload, 32, 0, 0, [])],
  [some (.iastore, 33, 0, 0, []), some (.aload 4, 35, 0, 0, []), none, some (.iconst 3, 36, 0, 3, []), some (.aload_n 0, 37, 0, 0, []), some (.getfield 41, 40, 0, 0, []), none, none, some (.iastore, 41, 0, 0, []), some (.aload 4, 43, 0, 0, []), none, some (.iconst 4, 44, 0, 4, []), some (.aload_n 0, 45, 0, 0, []), some (.getfield 18, 48, 0, 0, []), none, none],
  [some (.iload_n 2, 49, 0, 0, []), some (.iaload, 50, 0, 0, []), some (.iastore, 51, 0, 0, []), some (.aload 4, 53, 0, 0, []), none, some (.iconst 5, 54, 0, 5, []), some (.aload_n 0, 55, 0, 0, []), some (.getfield 44, 58, 0, 0, []), none, none, some (.iastore, 59, 0, 0, []), some (.aload_n 0, 60, 0, 0, []), some (.getfield 33, 63, 0, 0, []), none, none, some (.aload_n 0, 64, 0, 0, [])],
  [some (.getfield 47, 67, 0, 0, []), none, none, some (.iload_n 1, 68, 0, 0, []), some (.invokevirtual 68, 71, 0, 0, []), none, none, some (.istore 5, 73, 0, 0, []), none, some (.iload_n 1, 74, 0, 0, []), some (.iconst 1, 75, 0, 1, []), some (.if_icmp .ne 8, 78, 83, 0, []), none, none, some (.iload 5, 80, 0, 0, []), none],
  [some (.goto 10, 83, 90, 0, []), none, none, some (.iload 5, 85, 0, 0, []), none, some (.bipush 99, 87, 0, 99, []), none, some (.invokestatic 72, 90, 0, 0, []), none, none, some (.ireturn, 91, 0, 0, [])]]
def m_X0_value : MT := ((cd_X0_value, 0, 0, 0, 1), (yX0_value, cX0_value, 6, (some .int)))
def cd_X0_pays : List (List (Option Ent)) := [[some (.aload_n 0, 1, 0, 0, []), some (.getfield 9, 4, 0, 0, []), none, none, some (.iload_n 1, 5, 0, 0, []), some (.iaload, 6, 0, 0, []), some (.tableswitch 95 1 5 #[34, 47, 52, 85, 90], 40, 101, 0, [(1, 40), (2, 53), (3, 58), (4, 91), (5, 96)]), none, none, none, none, none, none, none, none, none],
  [none, none, none, none, none, none, none, none, none, none, none, none, none, none, none, none],
  [none, none, none, none, none, none, none, none, some (.iconst 2, 41, 0, 2, []), some (.aload_n 0, 42, 0, 0, []), some (.iconst 0, 43, 0, 0, []), some (.iload_n 1, 44, 0, 0, []), some (.iload_n 2, 45, 0, 0, []), some (.invokevirtual 75, 48, 0, 0, []), none, none],
  [some (.imul, 49, 0, 0, []), some (.istore_n 3, 50, 0, 0, []), some (.goto 59, 53, 109, 0, []), none, none, some (.iconst 1, 54, 0, 1, []), some (.istore_n 3, 55, 0, 0, []), some (.goto 54, 58, 109, 0, []), none, none, some (.iconst 2, 59, 0, 2, []), some (.aload_n 0, 60, 0, 0, []), some (.iconst 0, 61, 0, 0, []), some (.iload_n 1, 62, 0, 0, []), some (.iload_n 2, 63, 0, 0, []), some (.invokevirtual 75, 66, 0, 0, [])],
  [none, none, some (.imul, 67, 0, 0, []), some (.aload_n 0, 68, 0, 0, []), some (.getfield 41, 71, 0, 0, []), none, none, some (.iconst 2, 72, 0, 2, []), some (.irem, 73, 0, 0, []), some (.ifCond .ne 12, 76, 85, 0, []), none, none, some (.aload_n 0, 77, 0, 0, []), some (.getfield 15, 80, 0, 0, []), none, none],
  [some (.iload_n 1, 81, 0, 0, []), some (.iaload, 82, 0, 0, []), some (.goto 4, 85, 86, 0, []), none, none, some (.iconst 0, 86, 0, 0, []), some (.iadd, 87, 0, 0, []), some (.istore_n 3, 88, 0, 0, []), some (.goto 21, 91, 109, 0, []), none, none, some (.iload_n 2, 92, 0, 0, []), some (.istore_n 3, 93, 0, 0, []), some (.goto 16, 96, 109, 0, []), none, none],
  [some (.iconst 0, 97, 0, 0, []), some (.istore_n 3, 98, 0, 0, []), some (.goto 11, 101, 109, 0, []), none, none, some (.aload_n 0, 102, 0, 0, []), some (.iconst 0, 103, 0, 0, []), some (.iload_n 1, 104, 0, 0, []), some (.iload_n 2, 105, 0, 0, []), some (.invokevirtual 75, 108, 0, 0, []), none, none, some (.istore_n 3, 109, 0, 0, []), some (.iload_n 3, 110, 0, 0, []), some (.iload_n 2, 111, 0, 0, []), some (.invokestatic 72, 114, 0, 0, [])],
  [none, none, some (.ireturn, 115, 0, 0, [])]]
def m_X0_pays : MT := ((cd_X0_pays, 0, 0, 0, 1), (yX0_pays, cX0_pays, 4, (some .int)))
def cd_X0_will : List (List (Option Ent)) := [[some (.aload_n 0, 1, 0, 0, []), some (.iload_n 1, 2, 0, 0, []), some (.iload_n 2, 3, 0, 0, []), some (.invokevirtual 78, 6, 0, 0, []), none, none, some (.istore_n 3, 7, 0, 0, []), some (.aload_n 0, 8, 0, 0, []), some (.iload_n 2, 9, 0, 0, []), some (.iload_n 1, 10, 0, 0, []), some (.invokevirtual 78, 13, 0, 0, []), none, none, some (.ifCond .le 7, 16, 20, 0, []), none, none],
  [some (.iconst 1, 17, 0, 1, []), some (.goto 4, 20, 21, 0, []), none, none, some (.iconst 0, 21, 0, 0, []), some (.istore 4, 23, 0, 0, []), none, some (.aload_n 0, 24, 0, 0, []), some (.getfield 9, 27, 0, 0, []), none, none, some (.iload_n 1, 28, 0, 0, []), some (.iaload, 29, 0, 0, []), some (.tableswitch 110 1 5 #[35, 37, 58, 79, 108], 64, 139, 0, [(1, 64), (2, 66), (3, 87), (4, 108), (5, 137)]), none, none],
  [none, none, none, none, none, none, none, none, none, none, none, none, none, none, none, none],
  [none, none, none, none, none, none, none, none, none, none, none, none, none, none, none, none],
  [some (.iconst 1, 65, 0, 1, []), some (.ireturn, 66, 0, 0, []), some (.iload 4, 68, 0, 0, []), none, some (.ifCond .eq 17, 71, 85, 0, []), none, none, some (.aload_n 0, 72, 0, 0, []), some (.iconst 1, 73, 0, 1, []), some (.iload_n 1, 74, 0, 0, []), some (.iload_n 3, 75, 0, 0, []), some (.invokevirtual 75, 78, 0, 0, []), none, none, some (.ifCond .eq 7, 81, 85, 0, []), none],
  [none, some (.iconst 1, 82, 0, 1, []), some (.goto 4, 85, 86, 0, []), none, none, some (.iconst 0, 86, 0, 0, []), some (.ireturn, 87, 0, 0, []), some (.aload_n 0, 88, 0, 0, []), some (.getfield 18, 91, 0, 0, []), none, none, some (.iload_n 1, 92, 0, 0, []), some (.iaload, 93, 0, 0, []), some (.aload_n 0, 94, 0, 0, []), some (.getfield 15, 97, 0, 0, []), none],
  [none, some (.iload_n 1, 98, 0, 0, []), some (.iaload, 99, 0, 0, []), some (.if_icmp .eq 7, 102, 106, 0, []), none, none, some (.iconst 1, 103, 0, 1, []), some (.goto 4, 106, 107, 0, []), none, none, some (.iconst 0, 107, 0, 0, []), some (.ireturn, 108, 0, 0, []), some (.aload_n 0, 109, 0, 0, []), some (.iload_n 1, 110, 0, 0, []), some (.invokevirtual 65, 113, 0, 0, []), none],
  [none, some (.ifCond .eq 18, 116, 131, 0, []), none, none, some (.iload 4, 118, 0, 0, []), none, some (.ifCond .eq 17, 121, 135, 0, []), none, none, some (.aload_n 0, 122, 0, 0, []), some (.iconst 1, 123, 0, 1, []), some (.iload_n 1, 124, 0, 0, []), some (.iload_n 3, 125, 0, 0, []), some (.invokevirtual 75, 128, 0, 0, []), none, none],
  [some (.ifCond .eq 7, 131, 135, 0, []), none, none, some (.iconst 1, 132, 0, 1, []), some (.goto 4, 135, 136, 0, []), none, none, some (.iconst 0, 136, 0, 0, []), some (.ireturn, 137, 0, 0, []), some (.iconst 0, 138, 0, 0, []), some (.ireturn, 139, 0, 0, []), some (.aload_n 0, 140, 0, 0, []), some (.iconst 1, 141, 0, 1, []), some (.iload_n 1, 142, 0, 0, []), some (.iload_n 3, 143, 0, 0, []), some (.invokevirtual 75, 146, 0, 0, [])],
  [none, none, some (.ifCond .eq 7, 149, 153, 0, []), none, none, some (.iconst 1, 150, 0, 1, []), some (.goto 4, 153, 154, 0, []), none, none, some (.iconst 0, 154, 0, 0, []), some (.ireturn, 155, 0, 0, [])]]
def m_X0_will : MT := ((cd_X0_will, 0, 0, 0, 4), (yX0_will, cX0_will, 5, (some .boolean)))
def cd_X0_breath : List (List (Option Ent)) := [[some (.aload_n 0, 1, 0, 0, []), some (.getfield 9, 4, 0, 0, []), none, none, some (.iload_n 1, 5, 0, 0, []), some (.iaload, 6, 0, 0, []), some (.tableswitch 76 1 5 #[34, 47, 34, 60, 66], 40, 82, 0, [(1, 40), (2, 53), (3, 40), (4, 66), (5, 72)]), none, none, none, none, none, none, none, none, none],
  [none, none, none, none, none, none, none, none, none, none, none, none, none, none, none, none],
  [none, none, none, none, none, none, none, none, some (.aload_n 0, 41, 0, 0, []), some (.iconst 2, 42, 0, 2, []), some (.iload_n 1, 43, 0, 0, []), some (.iconst 0, 44, 0, 0, []), some (.invokevirtual 75, 47, 0, 0, []), none, none, some (.iconst 3, 48, 0, 3, [])],
  [some (.iadd, 49, 0, 0, []), some (.istore_n 2, 50, 0, 0, []), some (.goto 40, 53, 90, 0, []), none, none, some (.aload_n 0, 54, 0, 0, []), some (.iconst 2, 55, 0, 2, []), some (.iload_n 1, 56, 0, 0, []), some (.iconst 0, 57, 0, 0, []), some (.invokevirtual 75, 60, 0, 0, []), none, none, some (.iconst 2, 61, 0, 2, []), some (.idiv, 62, 0, 0, []), some (.istore_n 2, 63, 0, 0, []), some (.goto 27, 66, 90, 0, [])],
  [none, none, some (.bipush 99, 68, 0, 99, []), none, some (.istore_n 2, 69, 0, 0, []), some (.goto 21, 72, 90, 0, []), none, none, some (.aload_n 0, 73, 0, 0, []), some (.getfield 15, 76, 0, 0, []), none, none, some (.iload_n 1, 77, 0, 0, []), some (.iaload, 78, 0, 0, []), some (.istore_n 2, 79, 0, 0, []), some (.goto 11, 82, 90, 0, [])],
  [none, none, some (.aload_n 0, 83, 0, 0, []), some (.iconst 2, 84, 0, 2, []), some (.iload_n 1, 85, 0, 0, []), some (.iconst 0, 86, 0, 0, []), some (.invokevirtual 75, 89, 0, 0, []), none, none, some (.istore_n 2, 90, 0, 0, []), some (.iload_n 2, 91, 0, 0, []), some (.bipush 99, 93, 0, 99, []), none, some (.invokestatic 72, 96, 0, 0, []), none, none],
  [some (.ireturn, 97, 0, 0, [])]]
def m_X0_breath : MT := ((cd_X0_breath, 0, 0, 0, 1), (yX0_breath, cX0_breath, 3, (some .int)))
def cd_X0_may : List (List (Option Ent)) := [[some (.aload_n 0, 1, 0, 0, []), some (.iload_n 1, 2, 0, 0, []), some (.iload_n 2, 3, 0, 0, []), some (.invokevirtual 78, 6, 0, 0, []), none, none, some (.ifCond .gt 12, 9, 18, 0, []), none, none, some (.aload_n 0, 10, 0, 0, []), some (.iload_n 2, 11, 0, 0, []), some (.iload_n 1, 12, 0, 0, []), some (.invokevirtual 78, 15, 0, 0, []), none, none, some (.ifCond .le 53, 18, 68, 0, [])],
  [none, none, some (.aload_n 0, 19, 0, 0, []), some (.iload_n 1, 20, 0, 0, []), some (.iload_n 2, 21, 0, 0, []), some (.invokevirtual 81, 24, 0, 0, []), none, none, some (.ifCond .eq 44, 27, 68, 0, []), none, none, some (.aload_n 0, 28, 0, 0, []), some (.iload_n 2, 29, 0, 0, []), some (.iload_n 1, 30, 0, 0, []), some (.invokevirtual 81, 33, 0, 0, []), none],
  [none, some (.ifCond .eq 35, 36, 68, 0, []), none, none, some (.aload_n 0, 37, 0, 0, []), some (.getfield 18, 40, 0, 0, []), none, none, some (.iload_n 1, 41, 0, 0, []), some (.iaload, 42, 0, 0, []), some (.aload_n 0, 43, 0, 0, []), some (.iload_n 1, 44, 0, 0, []), some (.invokevirtual 85, 47, 0, 0, []), none, none, some (.if_icmp .ge 21, 50, 68, 0, [])],
  [none, none, some (.aload_n 0, 51, 0, 0, []), some (.getfield 18, 54, 0, 0, []), none, none, some (.iload_n 2, 55, 0, 0, []), some (.iaload, 56, 0, 0, []), some (.aload_n 0, 57, 0, 0, []), some (.iload_n 2, 58, 0, 0, []), some (.invokevirtual 85, 61, 0, 0, []), none, none, some (.if_icmp .ge 7, 64, 68, 0, []), none, none],
  [some (.iconst 1, 65, 0, 1, []), some (.goto 4, 68, 69, 0, []), none, none, some (.iconst 0, 69, 0, 0, []), some (.ireturn, 70, 0, 0, [])]]
def m_X0_may : MT := ((cd_X0_may, 0, 0, 0, 4), (yX0_may, cX0_may, 3, (some .boolean)))
def cd_X0_step : List (List (Option Ent)) := [[some (.aload_n 0, 1, 0, 0, []), some (.iload_n 1, 2, 0, 0, []), some (.aload_n 0, 3, 0, 0, []), some (.iload_n 1, 4, 0, 0, []), some (.iload_n 2, 5, 0, 0, []), some (.invokevirtual 78, 8, 0, 0, []), none, none, some (.invokevirtual 88, 11, 0, 0, []), none, none, some (.istore_n 3, 12, 0, 0, []), some (.aload_n 0, 13, 0, 0, []), some (.iload_n 2, 14, 0, 0, []), some (.aload_n 0, 15, 0, 0, []), some (.iload_n 2, 16, 0, 0, [])],
  [some (.iload_n 1, 17, 0, 0, []), some (.invokevirtual 78, 20, 0, 0, []), none, none, some (.invokevirtual 88, 23, 0, 0, []), none, none, some (.istore 4, 25, 0, 0, []), none, some (.aload_n 0, 26, 0, 0, []), some (.iload_n 1, 27, 0, 0, []), some (.iload_n 2, 28, 0, 0, []), some (.iload_n 3, 29, 0, 0, []), some (.iload 4, 31, 0, 0, []), none, some (.invokevirtual 91, 34, 0, 0, [])],
  [none, none, some (.iload_n 3, 35, 0, 0, []), some (.iload 4, 37, 0, 0, []), none, some (.iadd, 38, 0, 0, []), some (.ireturn, 39, 0, 0, [])]]
def m_X0_step : MT := ((cd_X0_step, 0, 0, 0, 1), (yX0_step, cX0_step, 5, (some .int)))
def cd_X0_lessen : List (List (Option Ent)) := [[some (.aload_n 0, 1, 0, 0, []), some (.getfield 21, 4, 0, 0, []), none, none, some (.iload_n 1, 5, 0, 0, []), some (.iconst 5, 6, 0, 5, []), some (.imul, 7, 0, 0, []), some (.iload_n 2, 8, 0, 0, []), some (.iadd, 9, 0, 0, []), some (.dup2, 10, 0, 0, []), some (.iaload, 11, 0, 0, []), some (.iload_n 3, 12, 0, 0, []), some (.isub, 13, 0, 0, []), some (.iastore, 14, 0, 0, []), some (.return_, 15, 0, 0, [])]]
def m_X0_lessen : MT := ((cd_X0_lessen, 0, 0, 0, 0), (yX0_lessen, cX0_lessen, 4, none))
def cd_X0_settle : List (List (Option Ent)) := [[some (.aload_n 0, 1, 0, 0, []), some (.iload_n 1, 2, 0, 0, []), some (.iload_n 2, 3, 0, 0, []), some (.iload_n 3, 4, 0, 0, []), some (.invokevirtual 95, 7, 0, 0, []), none, none, some (.aload_n 0, 8, 0, 0, []), some (.iload_n 2, 9, 0, 0, []), some (.iload_n 1, 10, 0, 0, []), some (.iload 4, 12, 0, 0, []), none, some (.invokevirtual 95, 15, 0, 0, []), none, none, some (.aload_n 0, 16, 0, 0, [])],
  [some (.getfield 18, 19, 0, 0, []), none, none, some (.iload_n 1, 20, 0, 0, []), some (.aload_n 0, 21, 0, 0, []), some (.getfield 18, 24, 0, 0, []), none, none, some (.iload_n 1, 25, 0, 0, []), some (.iaload, 26, 0, 0, []), some (.iconst 1, 27, 0, 1, []), some (.iadd, 28, 0, 0, []), some (.bipush 99, 30, 0, 99, []), none, some (.invokestatic 99, 33, 0, 0, []), none],
  [none, some (.iastore, 34, 0, 0, []), some (.aload_n 0, 35, 0, 0, []), some (.getfield 18, 38, 0, 0, []), none, none, some (.iload_n 2, 39, 0, 0, []), some (.aload_n 0, 40, 0, 0, []), some (.getfield 18, 43, 0, 0, []), none, none, some (.iload_n 2, 44, 0, 0, []), some (.iaload, 45, 0, 0, []), some (.iconst 1, 46, 0, 1, []), some (.iadd, 47, 0, 0, []), some (.bipush 99, 49, 0, 99, [])],
  [none, some (.invokestatic 99, 52, 0, 0, []), none, none, some (.iastore, 53, 0, 0, []), some (.return_, 54, 0, 0, [])]]
def m_X0_settle : MT := ((cd_X0_settle, 0, 0, 0, 0), (yX0_settle, cX0_settle, 5, none))
def cd_X0_danceRound : List (List (Option Ent)) := [[some (.aload_n 0, 1, 0, 0, []), some (.iconst 0, 2, 0, 0, []), some (.putfield 104, 5, 0, 0, []), none, none, some (.iconst 0, 6, 0, 0, []), some (.istore_n 1, 7, 0, 0, []), some (.iconst 0, 8, 0, 0, []), some (.istore_n 2, 9, 0, 0, []), some (.iload_n 2, 10, 0, 0, []), some (.getstatic 24, 13, 0, 0, []), none, none, some (.arraylength, 14, 0, 0, []), some (.if_icmp .ge 82, 17, 96, 0, []), none],
  [none, some (.getstatic 24, 20, 0, 0, []), none, none, some (.iload_n 2, 21, 0, 0, []), some (.iaload, 22, 0, 0, []), some (.istore_n 3, 23, 0, 0, []), some (.getstatic 107, 26, 0, 0, []), none, none, some (.iload_n 2, 27, 0, 0, []), some (.iaload, 28, 0, 0, []), some (.istore 4, 30, 0, 0, []), none, some (.iconst 1, 31, 0, 1, []), some (.iload_n 3, 32, 0, 0, [])],
  [some (.ishl, 33, 0, 0, []), some (.iconst 1, 34, 0, 1, []), some (.iload 4, 36, 0, 0, []), none, some (.ishl, 37, 0, 0, []), some (.ior, 38, 0, 0, []), some (.istore 5, 40, 0, 0, []), none, some (.iload 4, 42, 0, 0, []), none, some (.aload_n 0, 43, 0, 0, []), some (.getfield 37, 46, 0, 0, []), none, none, some (.if_icmp .ge 44, 49, 90, 0, []), none],
  [none, some (.aload_n 0, 50, 0, 0, []), some (.getfield 104, 53, 0, 0, []), none, none, some (.iload 5, 55, 0, 0, []), none, some (.iand, 56, 0, 0, []), some (.ifCond .ne 34, 59, 90, 0, []), none, none, some (.aload_n 0, 60, 0, 0, []), some (.iload_n 3, 61, 0, 0, []), some (.iload 4, 63, 0, 0, []), none, some (.invokevirtual 110, 66, 0, 0, [])],
  [none, none, some (.ifCond .eq 24, 69, 90, 0, []), none, none, some (.iload_n 1, 70, 0, 0, []), some (.aload_n 0, 71, 0, 0, []), some (.iload_n 3, 72, 0, 0, []), some (.iload 4, 74, 0, 0, []), none, some (.invokevirtual 113, 77, 0, 0, []), none, none, some (.iadd, 78, 0, 0, []), some (.istore_n 1, 79, 0, 0, []), some (.aload_n 0, 80, 0, 0, [])],
  [some (.dup, 81, 0, 0, []), some (.getfield 104, 84, 0, 0, []), none, none, some (.iload 5, 86, 0, 0, []), none, some (.ior, 87, 0, 0, []), some (.putfield 104, 90, 0, 0, []), none, none, some (.iinc 2 1, 93, 0, 1, []), none, none, some (.goto (-84), 96, 9, 0, []), none, none],
  [some (.aload_n 0, 97, 0, 0, []), some (.dup, 98, 0, 0, []), some (.getfield 41, 101, 0, 0, []), none, none, some (.iconst 1, 102, 0, 1, []), some (.iadd, 103, 0, 0, []), some (.putfield 41, 106, 0, 0, []), none, none, some (.iload_n 1, 107, 0, 0, []), some (.ireturn, 108, 0, 0, [])]]
def m_X0_danceRound : MT := ((cd_X0_danceRound, 0, 0, 0, 1), (yX0_danceRound, cX0_danceRound, 6, (some .int)))
def cd_X0_endNight : List (List (Option Ent)) := [[some (.iconst 0, 1, 0, 0, []), some (.istore_n 1, 2, 0, 0, []), some (.iconst 0, 3, 0, 0, []), some (.istore_n 2, 4, 0, 0, []), some (.iload_n 2, 5, 0, 0, []), some (.aload_n 0, 6, 0, 0, []), some (.getfield 37, 9, 0, 0, []), none, none, some (.if_icmp .ge 25, 12, 34, 0, []), none, none, some (.iload_n 1, 13, 0, 0, []), some (.aload_n 0, 14, 0, 0, []), some (.getfield 18, 17, 0, 0, []), none],
  [none, some (.iload_n 2, 18, 0, 0, []), some (.iaload, 19, 0, 0, []), some (.iadd, 20, 0, 0, []), some (.istore_n 1, 21, 0, 0, []), some (.aload_n 0, 22, 0, 0, []), some (.getfield 18, 25, 0, 0, []), none, none, some (.iload_n 2, 26, 0, 0, []), some (.iconst 0, 27, 0, 0, []), some (.iastore, 28, 0, 0, []), some (.iinc 2 1, 31, 0, 1, []), none, none, some (.goto (-27), 34, 4, 0, [])],
  [none, none, some (.aload_n 0, 35, 0, 0, []), some (.dup, 36, 0, 0, []), some (.getfield 44, 39, 0, 0, []), none, none, some (.iconst 1, 40, 0, 1, []), some (.iadd, 41, 0, 0, []), some (.putfield 44, 44, 0, 0, []), none, none, some (.iload_n 1, 45, 0, 0, []), some (.ireturn, 46, 0, 0, [])]]
def m_X0_endNight : MT := ((cd_X0_endNight, 0, 0, 0, 1), (yX0_endNight, cX0_endNight, 3, (some .int)))
def cd_X0_ends : List (List (Option Ent)) := [[some (.iconst 0, 1, 0, 0, []), some (.istore_n 1, 2, 0, 0, []), some (.iload_n 1, 3, 0, 0, []), some (.bipush 60, 5, 0, 60, []), none, some (.if_icmp .gt 18, 8, 23, 0, []), none, none, some (.aload_n 0, 9, 0, 0, []), some (.invokevirtual 116, 12, 0, 0, []), none, none, some (.ifCond .ne 5, 15, 17, 0, []), none, none, some (.iload_n 1, 16, 0, 0, [])],
  [some (.ireturn, 17, 0, 0, []), some (.iinc 1 1, 20, 0, 1, []), none, none, some (.goto (-18), 23, 2, 0, []), none, none, some (.iconst (-1), 24, 0, (-1), []), some (.ireturn, 25, 0, 0, [])]]
def m_X0_ends : MT := ((cd_X0_ends, 0, 0, 0, 1), (yX0_ends, cX0_ends, 2, (some .int)))
def cd_X0_draw : List (List (Option Ent)) := [[some (.iload_n 1, 1, 0, 0, []), some (.istore_n 2, 2, 0, 0, []), some (.iconst 0, 3, 0, 0, []), some (.istore_n 3, 4, 0, 0, []), some (.iload_n 3, 5, 0, 0, []), some (.aload_n 0, 6, 0, 0, []), some (.getfield 37, 9, 0, 0, []), none, none, some (.if_icmp .ge 59, 12, 68, 0, []), none, none, some (.iconst 0, 13, 0, 0, []), some (.istore 4, 15, 0, 0, []), none, some (.iload 4, 17, 0, 0, [])],
  [none, some (.aload_n 0, 18, 0, 0, []), some (.getfield 37, 21, 0, 0, []), none, none, some (.if_icmp .ge 41, 24, 62, 0, []), none, none, some (.iload_n 3, 25, 0, 0, []), some (.iload 4, 27, 0, 0, []), none, some (.if_icmp .eq 29, 30, 56, 0, []), none, none, some (.iload_n 2, 31, 0, 0, []), some (.ldc 120, 33, 0, 0, [])],
  [none, some (.imul, 34, 0, 0, []), some (.sipush 12345, 37, 0, 12345, []), none, none, some (.iadd, 38, 0, 0, []), some (.istore_n 2, 39, 0, 0, []), some (.aload_n 0, 40, 0, 0, []), some (.getfield 21, 43, 0, 0, []), none, none, some (.iload_n 3, 44, 0, 0, []), some (.iconst 5, 45, 0, 5, []), some (.imul, 46, 0, 0, []), some (.iload 4, 48, 0, 0, []), none],
  [some (.iadd, 49, 0, 0, []), some (.iload_n 2, 50, 0, 0, []), some (.bipush 9, 52, 0, 9, []), none, some (.iushr, 53, 0, 0, []), some (.iconst 4, 54, 0, 4, []), some (.irem, 55, 0, 0, []), some (.iastore, 56, 0, 0, []), some (.iinc 4 1, 59, 0, 1, []), none, none, some (.goto (-44), 62, 15, 0, []), none, none, some (.iinc 3 1, 65, 0, 1, []), none],
  [none, some (.goto (-61), 68, 4, 0, []), none, none, some (.return_, 69, 0, 0, [])]]
def m_X0_draw : MT := ((cd_X0_draw, 0, 0, 0, 0), (yX0_draw, cX0_draw, 5, none))
def cd_X0_stillOwed : List (List (Option Ent)) := [[some (.iconst 0, 1, 0, 0, []), some (.istore_n 1, 2, 0, 0, []), some (.iconst 0, 3, 0, 0, []), some (.istore_n 2, 4, 0, 0, []), some (.iload_n 2, 5, 0, 0, []), some (.aload_n 0, 6, 0, 0, []), some (.getfield 37, 9, 0, 0, []), none, none, some (.if_icmp .ge 23, 12, 32, 0, []), none, none, some (.aload_n 0, 13, 0, 0, []), some (.iload_n 2, 14, 0, 0, []), some (.invokevirtual 65, 17, 0, 0, []), none],
  [none, some (.ifCond .le 9, 20, 26, 0, []), none, none, some (.iload_n 1, 21, 0, 0, []), some (.iconst 1, 22, 0, 1, []), some (.iload_n 2, 23, 0, 0, []), some (.ishl, 24, 0, 0, []), some (.ior, 25, 0, 0, []), some (.istore_n 1, 26, 0, 0, []), some (.iinc 2 1, 29, 0, 1, []), none, none, some (.goto (-25), 32, 4, 0, []), none, none],
  [some (.iload_n 1, 33, 0, 0, []), some (.ireturn, 34, 0, 0, [])]]
def m_X0_stillOwed : MT := ((cd_X0_stillOwed, 0, 0, 0, 1), (yX0_stillOwed, cX0_stillOwed, 3, (some .int)))
def cd_X0_keeps : List (List (Option Ent)) := [[some (.iconst (-1), 1, 0, (-1), []), some (.istore_n 1, 2, 0, 0, []), some (.iconst 0, 3, 0, 0, []), some (.istore_n 2, 4, 0, 0, []), some (.iconst 0, 5, 0, 0, []), some (.istore_n 3, 6, 0, 0, []), some (.iload_n 3, 7, 0, 0, []), some (.aload_n 0, 8, 0, 0, []), some (.getfield 37, 11, 0, 0, []), none, none, some (.if_icmp .ge 27, 14, 38, 0, []), none, none, some (.aload_n 0, 15, 0, 0, []), some (.iload_n 3, 16, 0, 0, [])],
  [some (.invokevirtual 65, 19, 0, 0, []), none, none, some (.istore 4, 21, 0, 0, []), none, some (.iload 4, 23, 0, 0, []), none, some (.iload_n 2, 24, 0, 0, []), some (.if_icmp .le 8, 27, 32, 0, []), none, none, some (.iload_n 3, 28, 0, 0, []), some (.istore_n 1, 29, 0, 0, []), some (.iload 4, 31, 0, 0, []), none, some (.istore_n 2, 32, 0, 0, [])],
  [some (.iinc 3 1, 35, 0, 1, []), none, none, some (.goto (-29), 38, 6, 0, []), none, none, some (.iload_n 1, 39, 0, 0, []), some (.ireturn, 40, 0, 0, [])]]
def m_X0_keeps : MT := ((cd_X0_keeps, 0, 0, 0, 1), (yX0_keeps, cX0_keeps, 5, (some .int)))
def cd_X0_least : List (List (Option Ent)) := [[some (.iconst 0, 1, 0, 0, []), some (.istore_n 1, 2, 0, 0, []), some (.iconst 0, 3, 0, 0, []), some (.istore_n 2, 4, 0, 0, []), some (.iload_n 2, 5, 0, 0, []), some (.aload_n 0, 6, 0, 0, []), some (.getfield 37, 9, 0, 0, []), none, none, some (.if_icmp .ge 27, 12, 36, 0, []), none, none, some (.iload_n 1, 13, 0, 0, []), some (.iconst 0, 14, 0, 0, []), some (.aload_n 0, 15, 0, 0, []), some (.iload_n 2, 16, 0, 0, [])],
  [some (.invokevirtual 56, 19, 0, 0, []), none, none, some (.aload_n 0, 20, 0, 0, []), some (.iload_n 2, 21, 0, 0, []), some (.invokevirtual 65, 24, 0, 0, []), none, none, some (.isub, 25, 0, 0, []), some (.invokestatic 121, 28, 0, 0, []), none, none, some (.iadd, 29, 0, 0, []), some (.istore_n 1, 30, 0, 0, []), some (.iinc 2 1, 33, 0, 1, []), none],
  [none, some (.goto (-29), 36, 4, 0, []), none, none, some (.iload_n 1, 37, 0, 0, []), some (.ireturn, 38, 0, 0, [])]]
def m_X0_least : MT := ((cd_X0_least, 0, 0, 0, 1), (yX0_least, cX0_least, 3, (some .int)))
def cd_X0_ring : List (List (Option Ent)) := [[some (.iconst 0, 1, 0, 0, []), some (.istore_n 1, 2, 0, 0, []), some (.iconst 0, 3, 0, 0, []), some (.istore_n 2, 4, 0, 0, []), some (.iload_n 2, 5, 0, 0, []), some (.aload_n 0, 6, 0, 0, []), some (.getfield 37, 9, 0, 0, []), none, none, some (.if_icmp .ge 24, 12, 33, 0, []), none, none, some (.iload_n 1, 13, 0, 0, []), some (.aload_n 0, 14, 0, 0, []), some (.iload_n 2, 15, 0, 0, []), some (.iload_n 2, 16, 0, 0, [])],
  [some (.iconst 1, 17, 0, 1, []), some (.iload_n 2, 18, 0, 0, []), some (.ishl, 19, 0, 0, []), some (.iconst 1, 20, 0, 1, []), some (.invokevirtual 124, 23, 0, 0, []), none, none, some (.invokestatic 121, 26, 0, 0, []), none, none, some (.istore_n 1, 27, 0, 0, []), some (.iinc 2 1, 30, 0, 1, []), none, none, some (.goto (-26), 33, 4, 0, []), none],
  [none, some (.iload_n 1, 34, 0, 0, []), some (.ireturn, 35, 0, 0, [])]]
def m_X0_ring : MT := ((cd_X0_ring, 0, 0, 0, 1), (yX0_ring, cX0_ring, 3, (some .int)))
def cd_X0_longest : List (List (Option Ent)) := [[some (.iload 4, 2, 0, 0, []), none, some (.iconst 1, 3, 0, 1, []), some (.if_icmp .le 17, 6, 20, 0, []), none, none, some (.aload_n 0, 7, 0, 0, []), some (.iload_n 2, 8, 0, 0, []), some (.iload_n 1, 9, 0, 0, []), some (.invokevirtual 78, 12, 0, 0, []), none, none, some (.ifCond .le 8, 15, 20, 0, []), none, none, some (.iload 4, 17, 0, 0, [])],
  [none, some (.goto 4, 20, 21, 0, []), none, none, some (.iconst 0, 21, 0, 0, []), some (.istore 5, 23, 0, 0, []), none, some (.iload_n 1, 24, 0, 0, []), some (.iconst 1, 25, 0, 1, []), some (.iadd, 26, 0, 0, []), some (.istore 6, 28, 0, 0, []), none, some (.iload 6, 30, 0, 0, []), none, some (.aload_n 0, 31, 0, 0, []), some (.getfield 37, 34, 0, 0, [])],
  [none, none, some (.if_icmp .ge 58, 37, 92, 0, []), none, none, some (.iload 4, 39, 0, 0, []), none, some (.iconst 5, 40, 0, 5, []), some (.if_icmp .ge 52, 43, 92, 0, []), none, none, some (.iload_n 3, 44, 0, 0, []), some (.iload 6, 46, 0, 0, []), none, some (.ishr, 47, 0, 0, []), some (.iconst 1, 48, 0, 1, [])],
  [some (.iand, 49, 0, 0, []), some (.ifCond .ne 37, 52, 86, 0, []), none, none, some (.aload_n 0, 53, 0, 0, []), some (.iload_n 2, 54, 0, 0, []), some (.iload 6, 56, 0, 0, []), none, some (.invokevirtual 78, 59, 0, 0, []), none, none, some (.ifCond .le 27, 62, 86, 0, []), none, none, some (.iload 5, 64, 0, 0, []), none],
  [some (.aload_n 0, 65, 0, 0, []), some (.iload_n 1, 66, 0, 0, []), some (.iload 6, 68, 0, 0, []), none, some (.iload_n 3, 69, 0, 0, []), some (.iconst 1, 70, 0, 1, []), some (.iload 6, 72, 0, 0, []), none, some (.ishl, 73, 0, 0, []), some (.ior, 74, 0, 0, []), some (.iload 4, 76, 0, 0, []), none, some (.iconst 1, 77, 0, 1, []), some (.iadd, 78, 0, 0, []), some (.invokevirtual 124, 81, 0, 0, []), none],
  [none, some (.invokestatic 121, 84, 0, 0, []), none, none, some (.istore 5, 86, 0, 0, []), none, some (.iinc 6 1, 89, 0, 1, []), none, none, some (.goto (-61), 92, 28, 0, []), none, none, some (.iload 5, 94, 0, 0, []), none, some (.ireturn, 95, 0, 0, [])]]
def m_X0_longest : MT := ((cd_X0_longest, 0, 0, 0, 1), (yX0_longest, cX0_longest, 7, (some .int)))
def cd_X0_mostToMeet : List (List (Option Ent)) := [[some (.iconst 0, 1, 0, 0, []), some (.istore_n 1, 2, 0, 0, []), some (.iconst 0, 3, 0, 0, []), some (.istore_n 2, 4, 0, 0, []), some (.iload_n 2, 5, 0, 0, []), some (.aload_n 0, 6, 0, 0, []), some (.getfield 37, 9, 0, 0, []), none, none, some (.if_icmp .ge 58, 12, 67, 0, []), none, none, some (.iconst 0, 13, 0, 0, []), some (.istore_n 3, 14, 0, 0, []), some (.iconst 0, 15, 0, 0, []), some (.istore 4, 17, 0, 0, [])],
  [none, some (.iload 4, 19, 0, 0, []), none, some (.aload_n 0, 20, 0, 0, []), some (.getfield 37, 23, 0, 0, []), none, none, some (.if_icmp .ge 32, 26, 55, 0, []), none, none, some (.aload_n 0, 27, 0, 0, []), some (.iload_n 2, 28, 0, 0, []), some (.iload 4, 30, 0, 0, []), none, some (.invokevirtual 78, 33, 0, 0, []), none],
  [none, some (.ifCond .gt 13, 36, 46, 0, []), none, none, some (.aload_n 0, 37, 0, 0, []), some (.iload 4, 39, 0, 0, []), none, some (.iload_n 2, 40, 0, 0, []), some (.invokevirtual 78, 43, 0, 0, []), none, none, some (.ifCond .le 6, 46, 49, 0, []), none, none, some (.iinc 3 1, 49, 0, 1, []), none],
  [none, some (.iinc 4 1, 52, 0, 1, []), none, none, some (.goto (-35), 55, 17, 0, []), none, none, some (.iload_n 1, 56, 0, 0, []), some (.iload_n 3, 57, 0, 0, []), some (.invokestatic 121, 60, 0, 0, []), none, none, some (.istore_n 1, 61, 0, 0, []), some (.iinc 2 1, 64, 0, 1, []), none, none],
  [some (.goto (-60), 67, 4, 0, []), none, none, some (.iload_n 1, 68, 0, 0, []), some (.ireturn, 69, 0, 0, [])]]
def m_X0_mostToMeet : MT := ((cd_X0_mostToMeet, 0, 0, 0, 1), (yX0_mostToMeet, cX0_mostToMeet, 5, (some .int)))
def cd_X0_weigh : List (List (Option Ent)) := [[some (.aload_n 0, 1, 0, 0, []), some (.iconst 0, 2, 0, 0, []), some (.putfield 128, 5, 0, 0, []), none, none, some (.iconst 0, 6, 0, 0, []), some (.istore_n 1, 7, 0, 0, []), some (.iload_n 1, 8, 0, 0, []), some (.getstatic 24, 11, 0, 0, []), none, none, some (.arraylength, 12, 0, 0, []), some (.if_icmp .ge 84, 15, 96, 0, []), none, none, some (.getstatic 24, 18, 0, 0, [])],
  [none, none, some (.iload_n 1, 19, 0, 0, []), some (.iaload, 20, 0, 0, []), some (.istore_n 2, 21, 0, 0, []), some (.getstatic 107, 24, 0, 0, []), none, none, some (.iload_n 1, 25, 0, 0, []), some (.iaload, 26, 0, 0, []), some (.istore_n 3, 27, 0, 0, []), some (.iload_n 3, 28, 0, 0, []), some (.aload_n 0, 29, 0, 0, []), some (.getfield 37, 32, 0, 0, []), none, none],
  [some (.if_icmp .ge 58, 35, 90, 0, []), none, none, some (.aload_n 0, 36, 0, 0, []), some (.iload_n 2, 37, 0, 0, []), some (.iload_n 3, 38, 0, 0, []), some (.invokevirtual 110, 41, 0, 0, []), none, none, some (.ifCond .eq 49, 44, 90, 0, []), none, none, some (.aload_n 0, 45, 0, 0, []), some (.dup, 46, 0, 0, []), some (.getfield 128, 49, 0, 0, []), none],
  [none, some (.iconst 1, 50, 0, 1, []), some (.iload_n 1, 51, 0, 0, []), some (.ishl, 52, 0, 0, []), some (.ior, 53, 0, 0, []), some (.putfield 128, 56, 0, 0, []), none, none, some (.aload_n 0, 57, 0, 0, []), some (.getfield 27, 60, 0, 0, []), none, none, some (.iload_n 1, 61, 0, 0, []), some (.aload_n 0, 62, 0, 0, []), some (.iload_n 2, 63, 0, 0, []), some (.aload_n 0, 64, 0, 0, [])],
  [some (.iload_n 2, 65, 0, 0, []), some (.iload_n 3, 66, 0, 0, []), some (.invokevirtual 78, 69, 0, 0, []), none, none, some (.invokevirtual 88, 72, 0, 0, []), none, none, some (.iastore, 73, 0, 0, []), some (.aload_n 0, 74, 0, 0, []), some (.getfield 30, 77, 0, 0, []), none, none, some (.iload_n 1, 78, 0, 0, []), some (.aload_n 0, 79, 0, 0, []), some (.iload_n 3, 80, 0, 0, [])],
  [some (.aload_n 0, 81, 0, 0, []), some (.iload_n 3, 82, 0, 0, []), some (.iload_n 2, 83, 0, 0, []), some (.invokevirtual 78, 86, 0, 0, []), none, none, some (.invokevirtual 88, 89, 0, 0, []), none, none, some (.iastore, 90, 0, 0, []), some (.iinc 1 1, 93, 0, 1, []), none, none, some (.goto (-86), 96, 7, 0, []), none, none],
  [some (.return_, 97, 0, 0, [])]]
def m_X0_weigh : MT := ((cd_X0_weigh, 0, 0, 0, 0), (yX0_weigh, cX0_weigh, 4, none))
def cd_X0_mayAll : List (List (Option Ent)) := [[some (.iload_n 1, 1, 0, 0, []), some (.aload_n 0, 2, 0, 0, []), some (.getfield 128, 5, 0, 0, []), none, none, some (.iconst (-1), 6, 0, (-1), []), some (.ixor, 7, 0, 0, []), some (.iand, 8, 0, 0, []), some (.ifCond .ne 7, 11, 15, 0, []), none, none, some (.iconst 1, 12, 0, 1, []), some (.goto 4, 15, 16, 0, []), none, none, some (.iconst 0, 16, 0, 0, [])],
  [some (.ireturn, 17, 0, 0, [])]]
def m_X0_mayAll : MT := ((cd_X0_mayAll, 0, 0, 0, 4), (yX0_mayAll, cX0_mayAll, 2, (some .boolean)))
def cd_X0_paidBy : List (List (Option Ent)) := [[some (.iconst 0, 1, 0, 0, []), some (.istore_n 2, 2, 0, 0, []), some (.iconst 0, 3, 0, 0, []), some (.istore_n 3, 4, 0, 0, []), some (.iload_n 3, 5, 0, 0, []), some (.getstatic 24, 8, 0, 0, []), none, none, some (.arraylength, 9, 0, 0, []), some (.if_icmp .ge 34, 12, 43, 0, []), none, none, some (.iload_n 1, 13, 0, 0, []), some (.iload_n 3, 14, 0, 0, []), some (.ishr, 15, 0, 0, []), some (.iconst 1, 16, 0, 1, [])],
  [some (.iand, 17, 0, 0, []), some (.iconst 1, 18, 0, 1, []), some (.if_icmp .ne 19, 21, 37, 0, []), none, none, some (.iload_n 2, 22, 0, 0, []), some (.aload_n 0, 23, 0, 0, []), some (.getfield 27, 26, 0, 0, []), none, none, some (.iload_n 3, 27, 0, 0, []), some (.iaload, 28, 0, 0, []), some (.aload_n 0, 29, 0, 0, []), some (.getfield 30, 32, 0, 0, []), none, none],
  [some (.iload_n 3, 33, 0, 0, []), some (.iaload, 34, 0, 0, []), some (.iadd, 35, 0, 0, []), some (.iadd, 36, 0, 0, []), some (.istore_n 2, 37, 0, 0, []), some (.iinc 3 1, 40, 0, 1, []), none, none, some (.goto (-36), 43, 4, 0, []), none, none, some (.iload_n 2, 44, 0, 0, []), some (.ireturn, 45, 0, 0, [])]]
def m_X0_paidBy : MT := ((cd_X0_paidBy, 0, 0, 0, 1), (yX0_paidBy, cX0_paidBy, 4, (some .int)))
def cd_X0_bestSet : List (List (Option Ent)) := [[some (.iconst 0, 1, 0, 0, []), some (.istore_n 1, 2, 0, 0, []), some (.iconst 0, 3, 0, 0, []), some (.istore_n 2, 4, 0, 0, []), some (.iconst 0, 5, 0, 0, []), some (.istore_n 3, 6, 0, 0, []), some (.iload_n 3, 7, 0, 0, []), some (.getstatic 131, 10, 0, 0, []), none, none, some (.arraylength, 11, 0, 0, []), some (.if_icmp .ge 51, 14, 62, 0, []), none, none, some (.aload_n 0, 15, 0, 0, []), some (.getstatic 131, 18, 0, 0, [])],
  [none, none, some (.iload_n 3, 19, 0, 0, []), some (.iaload, 20, 0, 0, []), some (.invokevirtual 134, 23, 0, 0, []), none, none, some (.ifCond .eq 15, 26, 38, 0, []), none, none, some (.aload_n 0, 27, 0, 0, []), some (.getstatic 131, 30, 0, 0, []), none, none, some (.iload_n 3, 31, 0, 0, []), some (.iaload, 32, 0, 0, [])],
  [some (.invokevirtual 138, 35, 0, 0, []), none, none, some (.goto 4, 38, 39, 0, []), none, none, some (.iconst 0, 39, 0, 0, []), some (.istore 4, 41, 0, 0, []), none, some (.iload 4, 43, 0, 0, []), none, some (.iload_n 2, 44, 0, 0, []), some (.if_icmp .le 12, 47, 56, 0, []), none, none, some (.getstatic 131, 50, 0, 0, [])],
  [none, none, some (.iload_n 3, 51, 0, 0, []), some (.iaload, 52, 0, 0, []), some (.istore_n 1, 53, 0, 0, []), some (.iload 4, 55, 0, 0, []), none, some (.istore_n 2, 56, 0, 0, []), some (.iinc 3 1, 59, 0, 1, []), none, none, some (.goto (-53), 62, 6, 0, []), none, none, some (.iload_n 1, 63, 0, 0, []), some (.ireturn, 64, 0, 0, [])]]
def m_X0_bestSet : MT := ((cd_X0_bestSet, 0, 0, 0, 1), (yX0_bestSet, cX0_bestSet, 5, (some .int)))
def cd_X0_danceSet : List (List (Option Ent)) := [[some (.iconst 0, 1, 0, 0, []), some (.istore_n 3, 2, 0, 0, []), some (.iload_n 3, 3, 0, 0, []), some (.getstatic 24, 6, 0, 0, []), none, none, some (.arraylength, 7, 0, 0, []), some (.if_icmp .ge 44, 10, 51, 0, []), none, none, some (.iload_n 1, 11, 0, 0, []), some (.iload_n 3, 12, 0, 0, []), some (.ishr, 13, 0, 0, []), some (.iconst 1, 14, 0, 1, []), some (.iand, 15, 0, 0, []), some (.iconst 1, 16, 0, 1, [])],
  [some (.if_icmp .ne 29, 19, 45, 0, []), none, none, some (.aload_n 0, 20, 0, 0, []), some (.getstatic 24, 23, 0, 0, []), none, none, some (.iload_n 3, 24, 0, 0, []), some (.iaload, 25, 0, 0, []), some (.getstatic 107, 28, 0, 0, []), none, none, some (.iload_n 3, 29, 0, 0, []), some (.iaload, 30, 0, 0, []), some (.aload_n 2, 31, 0, 0, []), some (.getfield 27, 34, 0, 0, [])],
  [none, none, some (.iload_n 3, 35, 0, 0, []), some (.iaload, 36, 0, 0, []), some (.aload_n 2, 37, 0, 0, []), some (.getfield 30, 40, 0, 0, []), none, none, some (.iload_n 3, 41, 0, 0, []), some (.iaload, 42, 0, 0, []), some (.invokevirtual 91, 45, 0, 0, []), none, none, some (.iinc 3 1, 48, 0, 1, []), none, none],
  [some (.goto (-46), 51, 2, 0, []), none, none, some (.aload_n 0, 52, 0, 0, []), some (.dup, 53, 0, 0, []), some (.getfield 41, 56, 0, 0, []), none, none, some (.iconst 1, 57, 0, 1, []), some (.iadd, 58, 0, 0, []), some (.putfield 41, 61, 0, 0, []), none, none, some (.return_, 62, 0, 0, [])]]
def m_X0_danceSet : MT := ((cd_X0_danceSet, 0, 0, 0, 0), (yX0_danceSet, cX0_danceSet, 4, none))
def cd_X0_firstOtherwise : List (List (Option Ent)) := [[some (.iconst 0, 1, 0, 0, []), some (.istore_n 3, 2, 0, 0, []), some (.iload_n 3, 3, 0, 0, []), some (.aload_n 1, 4, 0, 0, []), some (.getfield 141, 7, 0, 0, []), none, none, some (.if_icmp .ge 26, 10, 33, 0, []), none, none, some (.aload_n 0, 11, 0, 0, []), some (.iload_n 2, 12, 0, 0, []), some (.iload_n 3, 13, 0, 0, []), some (.invokevirtual 88, 16, 0, 0, []), none, none],
  [some (.aload_n 1, 17, 0, 0, []), some (.getfield 146, 20, 0, 0, []), none, none, some (.iload_n 3, 21, 0, 0, []), some (.iaload, 22, 0, 0, []), some (.if_icmp .eq 5, 25, 27, 0, []), none, none, some (.iload_n 3, 26, 0, 0, []), some (.ireturn, 27, 0, 0, []), some (.iinc 3 1, 30, 0, 1, []), none, none, some (.goto (-28), 33, 2, 0, []), none],
  [none, some (.iconst (-1), 34, 0, (-1), []), some (.ireturn, 35, 0, 0, [])]]
def m_X0_firstOtherwise : MT := ((cd_X0_firstOtherwise, 0, 0, 0, 1), (yX0_firstOtherwise, cX0_firstOtherwise, 4, (some .int)))
def cd_X0_paysAs : List (List (Option Ent)) := [[some (.aload_n 0, 1, 0, 0, []), some (.aload_n 1, 2, 0, 0, []), some (.iload_n 2, 3, 0, 0, []), some (.invokevirtual 149, 6, 0, 0, []), none, none, some (.iconst (-1), 7, 0, (-1), []), some (.if_icmp .ne 7, 10, 14, 0, []), none, none, some (.iconst 1, 11, 0, 1, []), some (.goto 4, 14, 15, 0, []), none, none, some (.iconst 0, 15, 0, 0, []), some (.ireturn, 16, 0, 0, [])]]
def m_X0_paysAs : MT := ((cd_X0_paysAs, 0, 0, 0, 4), (yX0_paysAs, cX0_paysAs, 3, (some .boolean)))
def cd_X1_init : List (List (Option Ent)) := [[some (.aload_n 0, 1, 0, 0, []), some (.invokespecial 3, 4, 0, 0, []), none, none, some (.aload_n 0, 5, 0, 0, []), some (.sipush 160, 8, 0, 160, []), none, none, some (.newarray .int, 10, 0, 0, []), none, some (.putfield 9, 13, 0, 0, []), none, none, some (.aload_n 0, 14, 0, 0, []), some (.sipush 160, 17, 0, 160, []), none],
  [none, some (.newarray .int, 19, 0, 0, []), none, some (.putfield 15, 22, 0, 0, []), none, none, some (.aload_n 0, 23, 0, 0, []), some (.iconst 3, 24, 0, 3, []), some (.newarray .int, 26, 0, 0, []), none, some (.putfield 18, 29, 0, 0, []), none, none, some (.return_, 30, 0, 0, [])]]
def m_X1_init : MT := ((cd_X1_init, 1, 3, 323, 0), (yX1_init, cX1_init, 1, none))
def cd_X1_hold : List (List (Option Ent)) := [[some (.aload_n 0, 1, 0, 0, []), some (.getfield 21, 4, 0, 0, []), none, none, some (.aload_n 0, 5, 0, 0, []), some (.getfield 9, 8, 0, 0, []), none, none, some (.arraylength, 9, 0, 0, []), some (.if_icmp .lt 5, 12, 14, 0, []), none, none, some (.iconst 0, 13, 0, 0, []), some (.ireturn, 14, 0, 0, []), some (.aload_n 0, 15, 0, 0, []), some (.getfield 9, 18, 0, 0, [])],
  [none, none, some (.aload_n 0, 19, 0, 0, []), some (.getfield 21, 22, 0, 0, []), none, none, some (.iload_n 1, 23, 0, 0, []), some (.iastore, 24, 0, 0, []), some (.aload_n 0, 25, 0, 0, []), some (.dup, 26, 0, 0, []), some (.getfield 21, 29, 0, 0, []), none, none, some (.iconst 1, 30, 0, 1, []), some (.iadd, 31, 0, 0, []), some (.putfield 21, 34, 0, 0, [])],
  [none, none, some (.iconst 1, 35, 0, 1, []), some (.ireturn, 36, 0, 0, [])]]
def m_X1_hold : MT := ((cd_X1_hold, 1, 0, 0, 4), (yX1_hold, cX1_hold, 2, (some .boolean)))
def cd_X1_read : List (List (Option Ent)) := [[some (.aload_n 0, 1, 0, 0, []), some (.iconst 0, 2, 0, 0, []), some (.putfield 25, 5, 0, 0, []), none, none, some (.aload_n 0, 6, 0, 0, []), some (.iconst 0, 7, 0, 0, []), some (.putfield 28, 10, 0, 0, []), none, none, some (.aload_n 0, 11, 0, 0, []), some (.iconst 0, 12, 0, 0, []), some (.putfield 31, 15, 0, 0, []), none, none, some (.aload_n 0, 16, 0, 0, [])],
  [some (.invokevirtual 34, 19, 0, 0, []), none, none, some (.iconst 1, 20, 0, 1, []), some (.istore_n 1, 21, 0, 0, []), some (.iconst 0, 22, 0, 0, []), some (.istore_n 2, 23, 0, 0, []), some (.iload_n 2, 24, 0, 0, []), some (.iconst 2, 25, 0, 2, []), some (.if_icmp .gt 57, 28, 82, 0, []), none, none, some (.iload_n 1, 29, 0, 0, []), some (.ifCond .eq 53, 32, 82, 0, []), none, none],
  [some (.aload_n 0, 33, 0, 0, []), some (.sipush 200, 36, 0, 200, []), none, none, some (.iload_n 2, 37, 0, 0, []), some (.iadd, 38, 0, 0, []), some (.invokevirtual 37, 41, 0, 0, []), none, none, some (.ifCond .eq 23, 44, 64, 0, []), none, none, some (.aload_n 0, 45, 0, 0, []), some (.invokevirtual 41, 48, 0, 0, []), none, none],
  [some (.ifCond .eq 16, 51, 64, 0, []), none, none, some (.aload_n 0, 52, 0, 0, []), some (.bipush 59, 54, 0, 59, []), none, some (.invokevirtual 37, 57, 0, 0, []), none, none, some (.ifCond .eq 7, 60, 64, 0, []), none, none, some (.iconst 1, 61, 0, 1, []), some (.goto 4, 64, 65, 0, []), none, none],
  [some (.iconst 0, 65, 0, 0, []), some (.istore_n 1, 66, 0, 0, []), some (.aload_n 0, 67, 0, 0, []), some (.getfield 18, 70, 0, 0, []), none, none, some (.iload_n 2, 71, 0, 0, []), some (.aload_n 0, 72, 0, 0, []), some (.getfield 25, 75, 0, 0, []), none, none, some (.iastore, 76, 0, 0, []), some (.iinc 2 1, 79, 0, 1, []), none, none, some (.goto (-56), 82, 23, 0, [])],
  [none, none, some (.iload_n 1, 83, 0, 0, []), some (.ifCond .eq 14, 86, 97, 0, []), none, none, some (.aload_n 0, 87, 0, 0, []), some (.getfield 45, 90, 0, 0, []), none, none, some (.ifCond .ne 7, 93, 97, 0, []), none, none, some (.iconst 1, 94, 0, 1, []), some (.goto 4, 97, 98, 0, []), none],
  [none, some (.iconst 0, 98, 0, 0, []), some (.istore_n 1, 99, 0, 0, []), some (.aload_n 0, 100, 0, 0, []), some (.iconst 0, 101, 0, 0, []), some (.putfield 21, 104, 0, 0, []), none, none, some (.iload_n 1, 105, 0, 0, []), some (.ifCond .ne 5, 108, 110, 0, []), none, none, some (.aconst_null, 109, 0, 0, []), some (.areturn, 110, 0, 0, []), some (.aload_n 0, 111, 0, 0, []), some (.getfield 25, 114, 0, 0, [])],
  [none, none, some (.newarray .int, 116, 0, 0, []), none, some (.astore_n 2, 117, 0, 0, []), some (.aload_n 0, 118, 0, 0, []), some (.getfield 15, 121, 0, 0, []), none, none, some (.iconst 0, 122, 0, 0, []), some (.aload_n 2, 123, 0, 0, []), some (.iconst 0, 124, 0, 0, []), some (.aload_n 0, 125, 0, 0, []), some (.getfield 25, 128, 0, 0, []), none, none],
  [some (.invokestatic 48, 131, 0, 0, []), none, none, some (.new 54, 134, 0, 0, []), none, none, some (.dup, 135, 0, 0, []), some (.aload_n 2, 136, 0, 0, []), some (.aload_n 0, 137, 0, 0, []), some (.getfield 18, 140, 0, 0, []), none, none, some (.invokevirtual 56, 143, 0, 0, []), none, none, some (.checkcast 57, 146, 0, 0, [])],
  [none, none, some (.invokespecial 61, 149, 0, 0, []), none, none, some (.areturn, 150, 0, 0, [])]]
def m_X1_read : MT := ((cd_X1_read, 1, 3, 165, 3), (yX1_read, cX1_read, 3, (some (.object "DanceStillOwed$Text"))))
def cd_X1_pass : List (List (Option Ent)) := [[some (.aload_n 0, 1, 0, 0, []), some (.getfield 45, 4, 0, 0, []), none, none, some (.iload_n 1, 5, 0, 0, []), some (.if_icmp .eq 5, 8, 10, 0, []), none, none, some (.iconst 0, 9, 0, 0, []), some (.ireturn, 10, 0, 0, []), some (.aload_n 0, 11, 0, 0, []), some (.invokevirtual 34, 14, 0, 0, []), none, none, some (.iconst 1, 15, 0, 1, []), some (.ireturn, 16, 0, 0, [])]]
def m_X1_pass : MT := ((cd_X1_pass, 1, 0, 0, 4), (yX1_pass, cX1_pass, 2, (some .boolean)))
def cd_X1_put : List (List (Option Ent)) := [[some (.aload_n 0, 1, 0, 0, []), some (.getfield 25, 4, 0, 0, []), none, none, some (.aload_n 0, 5, 0, 0, []), some (.getfield 15, 8, 0, 0, []), none, none, some (.arraylength, 9, 0, 0, []), some (.if_icmp .lt 5, 12, 14, 0, []), none, none, some (.iconst 0, 13, 0, 0, []), some (.ireturn, 14, 0, 0, []), some (.aload_n 0, 15, 0, 0, []), some (.getfield 15, 18, 0, 0, [])],
  [none, none, some (.aload_n 0, 19, 0, 0, []), some (.getfield 25, 22, 0, 0, []), none, none, some (.iload_n 1, 23, 0, 0, []), some (.iastore, 24, 0, 0, []), some (.aload_n 0, 25, 0, 0, []), some (.dup, 26, 0, 0, []), some (.getfield 25, 29, 0, 0, []), none, none, some (.iconst 1, 30, 0, 1, []), some (.iadd, 31, 0, 0, []), some (.putfield 25, 34, 0, 0, [])],
  [none, none, some (.iconst 1, 35, 0, 1, []), some (.ireturn, 36, 0, 0, [])]]
def m_X1_put : MT := ((cd_X1_put, 1, 0, 0, 4), (yX1_put, cX1_put, 2, (some .boolean)))
def cd_X1_either : List (List (Option Ent)) := [[some (.aload_n 0, 1, 0, 0, []), some (.invokevirtual 64, 4, 0, 0, []), none, none, some (.istore_n 1, 5, 0, 0, []), some (.iconst 0, 6, 0, 0, []), some (.istore_n 2, 7, 0, 0, []), some (.iload_n 2, 8, 0, 0, []), some (.sipush 160, 11, 0, 160, []), none, none, some (.if_icmp .ge 50, 14, 61, 0, []), none, none, some (.iload_n 1, 15, 0, 0, []), some (.ifCond .eq 46, 18, 61, 0, [])],
  [none, none, some (.aload_n 0, 19, 0, 0, []), some (.getfield 45, 22, 0, 0, []), none, none, some (.sipush 203, 25, 0, 203, []), none, none, some (.if_icmp .ne 36, 28, 61, 0, []), none, none, some (.aload_n 0, 29, 0, 0, []), some (.invokevirtual 34, 32, 0, 0, []), none, none],
  [some (.aload_n 0, 33, 0, 0, []), some (.invokevirtual 64, 36, 0, 0, []), none, none, some (.ifCond .eq 17, 39, 53, 0, []), none, none, some (.aload_n 0, 40, 0, 0, []), some (.sipush 10008, 43, 0, 10008, []), none, none, some (.invokevirtual 67, 46, 0, 0, []), none, none, some (.ifCond .eq 7, 49, 53, 0, []), none],
  [none, some (.iconst 1, 50, 0, 1, []), some (.goto 4, 53, 54, 0, []), none, none, some (.iconst 0, 54, 0, 0, []), some (.istore_n 1, 55, 0, 0, []), some (.iinc 2 1, 58, 0, 1, []), none, none, some (.goto (-51), 61, 7, 0, []), none, none, some (.iload_n 1, 62, 0, 0, []), some (.ireturn, 63, 0, 0, [])]]
def m_X1_either : MT := ((cd_X1_either, 1, 0, 0, 4), (yX1_either, cX1_either, 3, (some .boolean)))
def cd_X1_both : List (List (Option Ent)) := [[some (.aload_n 0, 1, 0, 0, []), some (.invokevirtual 70, 4, 0, 0, []), none, none, some (.istore_n 1, 5, 0, 0, []), some (.iconst 0, 6, 0, 0, []), some (.istore_n 2, 7, 0, 0, []), some (.iload_n 2, 8, 0, 0, []), some (.sipush 160, 11, 0, 160, []), none, none, some (.if_icmp .ge 50, 14, 61, 0, []), none, none, some (.iload_n 1, 15, 0, 0, []), some (.ifCond .eq 46, 18, 61, 0, [])],
  [none, none, some (.aload_n 0, 19, 0, 0, []), some (.getfield 45, 22, 0, 0, []), none, none, some (.sipush 204, 25, 0, 204, []), none, none, some (.if_icmp .ne 36, 28, 61, 0, []), none, none, some (.aload_n 0, 29, 0, 0, []), some (.invokevirtual 34, 32, 0, 0, []), none, none],
  [some (.aload_n 0, 33, 0, 0, []), some (.invokevirtual 70, 36, 0, 0, []), none, none, some (.ifCond .eq 17, 39, 53, 0, []), none, none, some (.aload_n 0, 40, 0, 0, []), some (.sipush 10009, 43, 0, 10009, []), none, none, some (.invokevirtual 67, 46, 0, 0, []), none, none, some (.ifCond .eq 7, 49, 53, 0, []), none],
  [none, some (.iconst 1, 50, 0, 1, []), some (.goto 4, 53, 54, 0, []), none, none, some (.iconst 0, 54, 0, 0, []), some (.istore_n 1, 55, 0, 0, []), some (.iinc 2 1, 58, 0, 1, []), none, none, some (.goto (-51), 61, 7, 0, []), none, none, some (.iload_n 1, 62, 0, 0, []), some (.ireturn, 63, 0, 0, [])]]
def m_X1_both : MT := ((cd_X1_both, 1, 0, 0, 4), (yX1_both, cX1_both, 3, (some .boolean)))
def cd_X1_denied : List (List (Option Ent)) := [[some (.aload_n 0, 1, 0, 0, []), some (.getfield 45, 4, 0, 0, []), none, none, some (.sipush 205, 7, 0, 205, []), none, none, some (.if_icmp .eq 8, 10, 15, 0, []), none, none, some (.aload_n 0, 11, 0, 0, []), some (.invokevirtual 73, 14, 0, 0, []), none, none, some (.ireturn, 15, 0, 0, []), some (.aload_n 0, 16, 0, 0, [])],
  [some (.invokevirtual 76, 19, 0, 0, []), none, none, some (.ifCond .ne 5, 22, 24, 0, []), none, none, some (.iconst 0, 23, 0, 0, []), some (.ireturn, 24, 0, 0, []), some (.aload_n 0, 25, 0, 0, []), some (.invokevirtual 70, 28, 0, 0, []), none, none, some (.ifCond .eq 17, 31, 45, 0, []), none, none, some (.aload_n 0, 32, 0, 0, [])],
  [some (.sipush 10007, 35, 0, 10007, []), none, none, some (.invokevirtual 67, 38, 0, 0, []), none, none, some (.ifCond .eq 7, 41, 45, 0, []), none, none, some (.iconst 1, 42, 0, 1, []), some (.goto 4, 45, 46, 0, []), none, none, some (.iconst 0, 46, 0, 0, []), some (.istore_n 1, 47, 0, 0, []), some (.aload_n 0, 48, 0, 0, [])],
  [some (.dup, 49, 0, 0, []), some (.getfield 31, 52, 0, 0, []), none, none, some (.iconst 1, 53, 0, 1, []), some (.isub, 54, 0, 0, []), some (.putfield 31, 57, 0, 0, []), none, none, some (.iload_n 1, 58, 0, 0, []), some (.ireturn, 59, 0, 0, [])]]
def m_X1_denied : MT := ((cd_X1_denied, 1, 0, 0, 4), (yX1_denied, cX1_denied, 2, (some .boolean)))
def cd_X1_compared : List (List (Option Ent)) := [[some (.aload_n 0, 1, 0, 0, []), some (.invokevirtual 79, 4, 0, 0, []), none, none, some (.ifCond .ne 5, 7, 9, 0, []), none, none, some (.iconst 0, 8, 0, 0, []), some (.ireturn, 9, 0, 0, []), some (.aload_n 0, 10, 0, 0, []), some (.getfield 45, 13, 0, 0, []), none, none, some (.istore_n 1, 14, 0, 0, []), some (.iload_n 1, 15, 0, 0, []), some (.bipush 60, 17, 0, 60, [])],
  [none, some (.if_icmp .eq 11, 20, 28, 0, []), none, none, some (.iload_n 1, 21, 0, 0, []), some (.bipush 61, 23, 0, 61, []), none, some (.if_icmp .eq 5, 26, 28, 0, []), none, none, some (.iconst 1, 27, 0, 1, []), some (.ireturn, 28, 0, 0, []), some (.aload_n 0, 29, 0, 0, []), some (.invokevirtual 34, 32, 0, 0, []), none, none],
  [some (.aload_n 0, 33, 0, 0, []), some (.invokevirtual 79, 36, 0, 0, []), none, none, some (.ifCond .eq 29, 39, 65, 0, []), none, none, some (.aload_n 0, 40, 0, 0, []), some (.iload_n 1, 41, 0, 0, []), some (.bipush 60, 43, 0, 60, []), none, some (.if_icmp .ne 9, 46, 52, 0, []), none, none, some (.sipush 10010, 49, 0, 10010, []), none],
  [none, some (.goto 6, 52, 55, 0, []), none, none, some (.sipush 10011, 55, 0, 10011, []), none, none, some (.invokevirtual 67, 58, 0, 0, []), none, none, some (.ifCond .eq 7, 61, 65, 0, []), none, none, some (.iconst 1, 62, 0, 1, []), some (.goto 4, 65, 66, 0, []), none],
  [none, some (.iconst 0, 66, 0, 0, []), some (.ireturn, 67, 0, 0, [])]]
def m_X1_compared : MT := ((cd_X1_compared, 1, 0, 0, 4), (yX1_compared, cX1_compared, 2, (some .boolean)))
def cd_X1_sum : List (List (Option Ent)) := [[some (.aload_n 0, 1, 0, 0, []), some (.invokevirtual 82, 4, 0, 0, []), none, none, some (.istore_n 1, 5, 0, 0, []), some (.iconst 0, 6, 0, 0, []), some (.istore_n 2, 7, 0, 0, []), some (.iload_n 2, 8, 0, 0, []), some (.sipush 160, 11, 0, 160, []), none, none, some (.if_icmp .ge 75, 14, 86, 0, []), none, none, some (.iload_n 1, 15, 0, 0, []), some (.ifCond .eq 71, 18, 86, 0, [])],
  [none, none, some (.aload_n 0, 19, 0, 0, []), some (.getfield 45, 22, 0, 0, []), none, none, some (.bipush 43, 24, 0, 43, []), none, some (.if_icmp .eq 12, 27, 36, 0, []), none, none, some (.aload_n 0, 28, 0, 0, []), some (.getfield 45, 31, 0, 0, []), none, none, some (.bipush 45, 33, 0, 45, [])],
  [none, some (.if_icmp .ne 53, 36, 86, 0, []), none, none, some (.aload_n 0, 37, 0, 0, []), some (.getfield 45, 40, 0, 0, []), none, none, some (.istore_n 3, 41, 0, 0, []), some (.aload_n 0, 42, 0, 0, []), some (.invokevirtual 34, 45, 0, 0, []), none, none, some (.aload_n 0, 46, 0, 0, []), some (.invokevirtual 82, 49, 0, 0, []), none],
  [none, some (.ifCond .eq 29, 52, 78, 0, []), none, none, some (.aload_n 0, 53, 0, 0, []), some (.iload_n 3, 54, 0, 0, []), some (.bipush 43, 56, 0, 43, []), none, some (.if_icmp .ne 9, 59, 65, 0, []), none, none, some (.sipush 10012, 62, 0, 10012, []), none, none, some (.goto 6, 65, 68, 0, []), none],
  [none, some (.sipush 10013, 68, 0, 10013, []), none, none, some (.invokevirtual 67, 71, 0, 0, []), none, none, some (.ifCond .eq 7, 74, 78, 0, []), none, none, some (.iconst 1, 75, 0, 1, []), some (.goto 4, 78, 79, 0, []), none, none, some (.iconst 0, 79, 0, 0, []), some (.istore_n 1, 80, 0, 0, [])],
  [some (.iinc 2 1, 83, 0, 1, []), none, none, some (.goto (-76), 86, 7, 0, []), none, none, some (.iload_n 1, 87, 0, 0, []), some (.ireturn, 88, 0, 0, [])]]
def m_X1_sum : MT := ((cd_X1_sum, 1, 0, 0, 4), (yX1_sum, cX1_sum, 4, (some .boolean)))
def cd_X1_term : List (List (Option Ent)) := [[some (.aload_n 0, 1, 0, 0, []), some (.invokevirtual 85, 4, 0, 0, []), none, none, some (.istore_n 1, 5, 0, 0, []), some (.iconst 0, 6, 0, 0, []), some (.istore_n 2, 7, 0, 0, []), some (.iload_n 2, 8, 0, 0, []), some (.sipush 160, 11, 0, 160, []), none, none, some (.if_icmp .ge 49, 14, 60, 0, []), none, none, some (.iload_n 1, 15, 0, 0, []), some (.ifCond .eq 45, 18, 60, 0, [])],
  [none, none, some (.aload_n 0, 19, 0, 0, []), some (.getfield 45, 22, 0, 0, []), none, none, some (.bipush 42, 24, 0, 42, []), none, some (.if_icmp .ne 36, 27, 60, 0, []), none, none, some (.aload_n 0, 28, 0, 0, []), some (.invokevirtual 34, 31, 0, 0, []), none, none, some (.aload_n 0, 32, 0, 0, [])],
  [some (.invokevirtual 85, 35, 0, 0, []), none, none, some (.ifCond .eq 17, 38, 52, 0, []), none, none, some (.aload_n 0, 39, 0, 0, []), some (.sipush 10014, 42, 0, 10014, []), none, none, some (.invokevirtual 67, 45, 0, 0, []), none, none, some (.ifCond .eq 7, 48, 52, 0, []), none, none],
  [some (.iconst 1, 49, 0, 1, []), some (.goto 4, 52, 53, 0, []), none, none, some (.iconst 0, 53, 0, 0, []), some (.istore_n 1, 54, 0, 0, []), some (.iinc 2 1, 57, 0, 1, []), none, none, some (.goto (-50), 60, 7, 0, []), none, none, some (.iload_n 1, 61, 0, 0, []), some (.ireturn, 62, 0, 0, [])]]
def m_X1_term : MT := ((cd_X1_term, 1, 0, 0, 4), (yX1_term, cX1_term, 3, (some .boolean)))
def cd_X1_one : List (List (Option Ent)) := [[some (.aload_n 0, 1, 0, 0, []), some (.getfield 45, 4, 0, 0, []), none, none, some (.iconst 2, 5, 0, 2, []), some (.if_icmp .eq 13, 8, 18, 0, []), none, none, some (.aload_n 0, 9, 0, 0, []), some (.getfield 45, 12, 0, 0, []), none, none, some (.sipush 10000, 15, 0, 10000, []), none, none, some (.if_icmp .lt 33, 18, 48, 0, [])],
  [none, none, some (.aload_n 0, 19, 0, 0, []), some (.aload_n 0, 20, 0, 0, []), some (.getfield 45, 23, 0, 0, []), none, none, some (.iconst 2, 24, 0, 2, []), some (.if_icmp .ne 10, 27, 34, 0, []), none, none, some (.aload_n 0, 28, 0, 0, []), some (.getfield 88, 31, 0, 0, []), none, none, some (.goto 7, 34, 38, 0, [])],
  [none, none, some (.aload_n 0, 35, 0, 0, []), some (.getfield 45, 38, 0, 0, []), none, none, some (.invokevirtual 67, 41, 0, 0, []), none, none, some (.istore_n 1, 42, 0, 0, []), some (.aload_n 0, 43, 0, 0, []), some (.invokevirtual 34, 46, 0, 0, []), none, none, some (.iload_n 1, 47, 0, 0, []), some (.ireturn, 48, 0, 0, [])],
  [some (.aload_n 0, 49, 0, 0, []), some (.getfield 45, 52, 0, 0, []), none, none, some (.bipush 45, 54, 0, 45, []), none, some (.if_icmp .eq 14, 57, 68, 0, []), none, none, some (.aload_n 0, 58, 0, 0, []), some (.getfield 45, 61, 0, 0, []), none, none, some (.bipush 40, 63, 0, 40, []), none, some (.if_icmp .eq 5, 66, 68, 0, [])],
  [none, none, some (.iconst 0, 67, 0, 0, []), some (.ireturn, 68, 0, 0, []), some (.aload_n 0, 69, 0, 0, []), some (.getfield 45, 72, 0, 0, []), none, none, some (.bipush 45, 74, 0, 45, []), none, some (.if_icmp .ne 7, 77, 81, 0, []), none, none, some (.iconst 1, 78, 0, 1, []), some (.goto 4, 81, 82, 0, []), none],
  [none, some (.iconst 0, 82, 0, 0, []), some (.istore_n 1, 83, 0, 0, []), some (.aload_n 0, 84, 0, 0, []), some (.invokevirtual 76, 87, 0, 0, []), none, none, some (.ifCond .ne 5, 90, 92, 0, []), none, none, some (.iconst 0, 91, 0, 0, []), some (.ireturn, 92, 0, 0, []), some (.iload_n 1, 93, 0, 0, []), some (.ifCond .eq 28, 96, 121, 0, []), none, none],
  [some (.aload_n 0, 97, 0, 0, []), some (.invokevirtual 85, 100, 0, 0, []), none, none, some (.ifCond .eq 17, 103, 117, 0, []), none, none, some (.aload_n 0, 104, 0, 0, []), some (.sipush 10006, 107, 0, 10006, []), none, none, some (.invokevirtual 67, 110, 0, 0, []), none, none, some (.ifCond .eq 7, 113, 117, 0, []), none],
  [none, some (.iconst 1, 114, 0, 1, []), some (.goto 28, 117, 142, 0, []), none, none, some (.iconst 0, 118, 0, 0, []), some (.goto 24, 121, 142, 0, []), none, none, some (.aload_n 0, 122, 0, 0, []), some (.invokevirtual 41, 125, 0, 0, []), none, none, some (.ifCond .eq 16, 128, 141, 0, []), none, none],
  [some (.aload_n 0, 129, 0, 0, []), some (.bipush 41, 131, 0, 41, []), none, some (.invokevirtual 37, 134, 0, 0, []), none, none, some (.ifCond .eq 7, 137, 141, 0, []), none, none, some (.iconst 1, 138, 0, 1, []), some (.goto 4, 141, 142, 0, []), none, none, some (.iconst 0, 142, 0, 0, []), some (.istore_n 2, 143, 0, 0, []), some (.aload_n 0, 144, 0, 0, [])],
  [some (.dup, 145, 0, 0, []), some (.getfield 31, 148, 0, 0, []), none, none, some (.iconst 1, 149, 0, 1, []), some (.isub, 150, 0, 0, []), some (.putfield 31, 153, 0, 0, []), none, none, some (.iload_n 2, 154, 0, 0, []), some (.ireturn, 155, 0, 0, [])]]
def m_X1_one : MT := ((cd_X1_one, 1, 0, 0, 4), (yX1_one, cX1_one, 3, (some .boolean)))
def cd_X1_opens : List (List (Option Ent)) := [[some (.aload_n 0, 1, 0, 0, []), some (.getfield 31, 4, 0, 0, []), none, none, some (.iconst 5, 5, 0, 5, []), some (.if_icmp .lt 5, 8, 10, 0, []), none, none, some (.iconst 0, 9, 0, 0, []), some (.ireturn, 10, 0, 0, []), some (.aload_n 0, 11, 0, 0, []), some (.dup, 12, 0, 0, []), some (.getfield 31, 15, 0, 0, []), none, none, some (.iconst 1, 16, 0, 1, [])],
  [some (.iadd, 17, 0, 0, []), some (.putfield 31, 20, 0, 0, []), none, none, some (.aload_n 0, 21, 0, 0, []), some (.invokevirtual 34, 24, 0, 0, []), none, none, some (.iconst 1, 25, 0, 1, []), some (.ireturn, 26, 0, 0, [])]]
def m_X1_opens : MT := ((cd_X1_opens, 1, 0, 0, 4), (yX1_opens, cX1_opens, 1, (some .boolean)))
def cd_X1_next : List (List (Option Ent)) := [[some (.aload_n 0, 1, 0, 0, []), some (.getfield 28, 4, 0, 0, []), none, none, some (.aload_n 0, 5, 0, 0, []), some (.getfield 21, 8, 0, 0, []), none, none, some (.if_icmp .ge 44, 11, 52, 0, []), none, none, some (.aload_n 0, 12, 0, 0, []), some (.getfield 9, 15, 0, 0, []), none, none, some (.aload_n 0, 16, 0, 0, [])],
  [some (.getfield 28, 19, 0, 0, []), none, none, some (.iaload, 20, 0, 0, []), some (.bipush 32, 22, 0, 32, []), none, some (.if_icmp .eq 17, 25, 39, 0, []), none, none, some (.aload_n 0, 26, 0, 0, []), some (.getfield 9, 29, 0, 0, []), none, none, some (.aload_n 0, 30, 0, 0, []), some (.getfield 28, 33, 0, 0, []), none],
  [none, some (.iaload, 34, 0, 0, []), some (.bipush 10, 36, 0, 10, []), none, some (.if_icmp .ne 16, 39, 52, 0, []), none, none, some (.aload_n 0, 40, 0, 0, []), some (.dup, 41, 0, 0, []), some (.getfield 28, 44, 0, 0, []), none, none, some (.iconst 1, 45, 0, 1, []), some (.iadd, 46, 0, 0, []), some (.putfield 28, 49, 0, 0, []), none],
  [none, some (.goto (-49), 52, 0, 0, []), none, none, some (.aload_n 0, 53, 0, 0, []), some (.aload_n 0, 54, 0, 0, []), some (.getfield 28, 57, 0, 0, []), none, none, some (.putfield 91, 60, 0, 0, []), none, none, some (.aload_n 0, 61, 0, 0, []), some (.getfield 28, 64, 0, 0, []), none, none],
  [some (.aload_n 0, 65, 0, 0, []), some (.getfield 21, 68, 0, 0, []), none, none, some (.if_icmp .lt 11, 71, 79, 0, []), none, none, some (.aload_n 0, 72, 0, 0, []), some (.iconst 0, 73, 0, 0, []), some (.putfield 45, 76, 0, 0, []), none, none, some (.goto 92, 79, 168, 0, []), none, none, some (.aload_n 0, 80, 0, 0, [])],
  [some (.getfield 9, 83, 0, 0, []), none, none, some (.aload_n 0, 84, 0, 0, []), some (.getfield 28, 87, 0, 0, []), none, none, some (.iaload, 88, 0, 0, []), some (.invokestatic 94, 91, 0, 0, []), none, none, some (.ifCond .eq 10, 94, 101, 0, []), none, none, some (.aload_n 0, 95, 0, 0, []), some (.invokevirtual 97, 98, 0, 0, [])],
  [none, none, some (.goto 70, 101, 168, 0, []), none, none, some (.aload_n 0, 102, 0, 0, []), some (.getfield 9, 105, 0, 0, []), none, none, some (.aload_n 0, 106, 0, 0, []), some (.getfield 28, 109, 0, 0, []), none, none, some (.iaload, 110, 0, 0, []), some (.invokestatic 100, 113, 0, 0, []), none],
  [none, some (.ifCond .eq 10, 116, 123, 0, []), none, none, some (.aload_n 0, 117, 0, 0, []), some (.invokevirtual 103, 120, 0, 0, []), none, none, some (.goto 48, 123, 168, 0, []), none, none, some (.aload_n 0, 124, 0, 0, []), some (.ldc 106, 126, 0, 0, []), none, some (.aload_n 0, 127, 0, 0, []), some (.getfield 9, 130, 0, 0, [])],
  [none, none, some (.aload_n 0, 131, 0, 0, []), some (.getfield 28, 134, 0, 0, []), none, none, some (.iaload, 135, 0, 0, []), some (.i2c, 136, 0, 0, []), some (.invokevirtual 108, 139, 0, 0, []), none, none, some (.ifCond .lt 15, 142, 154, 0, []), none, none, some (.aload_n 0, 143, 0, 0, []), some (.getfield 9, 146, 0, 0, [])],
  [none, none, some (.aload_n 0, 147, 0, 0, []), some (.getfield 28, 150, 0, 0, []), none, none, some (.iaload, 151, 0, 0, []), some (.goto 4, 154, 155, 0, []), none, none, some (.iconst 1, 155, 0, 1, []), some (.putfield 45, 158, 0, 0, []), none, none, some (.aload_n 0, 159, 0, 0, []), some (.dup, 160, 0, 0, [])],
  [some (.getfield 28, 163, 0, 0, []), none, none, some (.iconst 1, 164, 0, 1, []), some (.iadd, 165, 0, 0, []), some (.putfield 28, 168, 0, 0, []), none, none, some (.return_, 169, 0, 0, [])]]
def m_X1_next : MT := ((cd_X1_next, 1, 0, 0, 0), (yX1_next, cX1_next, 1, none))
def cd_X1_nextNumber : List (List (Option Ent)) := [[some (.aload_n 0, 1, 0, 0, []), some (.iconst 0, 2, 0, 0, []), some (.putfield 88, 5, 0, 0, []), none, none, some (.aload_n 0, 6, 0, 0, []), some (.getfield 28, 9, 0, 0, []), none, none, some (.aload_n 0, 10, 0, 0, []), some (.getfield 21, 13, 0, 0, []), none, none, some (.if_icmp .ge 55, 16, 68, 0, []), none, none],
  [some (.aload_n 0, 17, 0, 0, []), some (.getfield 9, 20, 0, 0, []), none, none, some (.aload_n 0, 21, 0, 0, []), some (.getfield 28, 24, 0, 0, []), none, none, some (.iaload, 25, 0, 0, []), some (.invokestatic 94, 28, 0, 0, []), none, none, some (.ifCond .eq 40, 31, 68, 0, []), none, none, some (.aload_n 0, 32, 0, 0, [])],
  [some (.aload_n 0, 33, 0, 0, []), some (.getfield 88, 36, 0, 0, []), none, none, some (.bipush 10, 38, 0, 10, []), none, some (.imul, 39, 0, 0, []), some (.aload_n 0, 40, 0, 0, []), some (.getfield 9, 43, 0, 0, []), none, none, some (.aload_n 0, 44, 0, 0, []), some (.getfield 28, 47, 0, 0, []), none, none, some (.iaload, 48, 0, 0, [])],
  [some (.iadd, 49, 0, 0, []), some (.bipush 48, 51, 0, 48, []), none, some (.isub, 52, 0, 0, []), some (.putfield 88, 55, 0, 0, []), none, none, some (.aload_n 0, 56, 0, 0, []), some (.dup, 57, 0, 0, []), some (.getfield 28, 60, 0, 0, []), none, none, some (.iconst 1, 61, 0, 1, []), some (.iadd, 62, 0, 0, []), some (.putfield 28, 65, 0, 0, []), none],
  [none, some (.goto (-60), 68, 5, 0, []), none, none, some (.aload_n 0, 69, 0, 0, []), some (.aload_n 0, 70, 0, 0, []), some (.getfield 28, 73, 0, 0, []), none, none, some (.aload_n 0, 74, 0, 0, []), some (.getfield 91, 77, 0, 0, []), none, none, some (.isub, 78, 0, 0, []), some (.iconst 4, 79, 0, 4, []), some (.if_icmp .le 7, 82, 86, 0, [])],
  [none, none, some (.iconst 1, 83, 0, 1, []), some (.goto 4, 86, 87, 0, []), none, none, some (.iconst 2, 87, 0, 2, []), some (.putfield 45, 90, 0, 0, []), none, none, some (.return_, 91, 0, 0, [])]]
def m_X1_nextNumber : MT := ((cd_X1_nextNumber, 1, 0, 0, 0), (yX1_nextNumber, cX1_nextNumber, 1, none))
def cd_X1_nextWord : List (List (Option Ent)) := [[some (.aload_n 0, 1, 0, 0, []), some (.getfield 28, 4, 0, 0, []), none, none, some (.aload_n 0, 5, 0, 0, []), some (.getfield 21, 8, 0, 0, []), none, none, some (.if_icmp .ge 31, 11, 39, 0, []), none, none, some (.aload_n 0, 12, 0, 0, []), some (.getfield 9, 15, 0, 0, []), none, none, some (.aload_n 0, 16, 0, 0, [])],
  [some (.getfield 28, 19, 0, 0, []), none, none, some (.iaload, 20, 0, 0, []), some (.invokestatic 100, 23, 0, 0, []), none, none, some (.ifCond .eq 16, 26, 39, 0, []), none, none, some (.aload_n 0, 27, 0, 0, []), some (.dup, 28, 0, 0, []), some (.getfield 28, 31, 0, 0, []), none, none, some (.iconst 1, 32, 0, 1, [])],
  [some (.iadd, 33, 0, 0, []), some (.putfield 28, 36, 0, 0, []), none, none, some (.goto (-36), 39, 0, 0, []), none, none, some (.aload_n 0, 40, 0, 0, []), some (.aload_n 0, 41, 0, 0, []), some (.ldc 114, 43, 0, 0, []), none, some (.invokevirtual 116, 46, 0, 0, []), none, none, some (.ifCond .eq 9, 49, 55, 0, []), none],
  [none, some (.sipush 200, 52, 0, 200, []), none, none, some (.goto 169, 55, 221, 0, []), none, none, some (.aload_n 0, 56, 0, 0, []), some (.ldc 120, 58, 0, 0, []), none, some (.invokevirtual 116, 61, 0, 0, []), none, none, some (.ifCond .eq 9, 64, 70, 0, []), none, none],
  [some (.sipush 201, 67, 0, 201, []), none, none, some (.goto 154, 70, 221, 0, []), none, none, some (.aload_n 0, 71, 0, 0, []), some (.ldc 122, 73, 0, 0, []), none, some (.invokevirtual 116, 76, 0, 0, []), none, none, some (.ifCond .eq 9, 79, 85, 0, []), none, none, some (.sipush 202, 82, 0, 202, [])],
  [none, none, some (.goto 139, 85, 221, 0, []), none, none, some (.aload_n 0, 86, 0, 0, []), some (.ldc 124, 88, 0, 0, []), none, some (.invokevirtual 116, 91, 0, 0, []), none, none, some (.ifCond .eq 9, 94, 100, 0, []), none, none, some (.sipush 203, 97, 0, 203, []), none],
  [none, some (.goto 124, 100, 221, 0, []), none, none, some (.aload_n 0, 101, 0, 0, []), some (.ldc 126, 103, 0, 0, []), none, some (.invokevirtual 116, 106, 0, 0, []), none, none, some (.ifCond .eq 9, 109, 115, 0, []), none, none, some (.sipush 204, 112, 0, 204, []), none, none],
  [some (.goto 109, 115, 221, 0, []), none, none, some (.aload_n 0, 116, 0, 0, []), some (.ldc 128, 118, 0, 0, []), none, some (.invokevirtual 116, 121, 0, 0, []), none, none, some (.ifCond .eq 9, 124, 130, 0, []), none, none, some (.sipush 205, 127, 0, 205, []), none, none, some (.goto 94, 130, 221, 0, [])],
  [none, none, some (.aload_n 0, 131, 0, 0, []), some (.ldc 130, 133, 0, 0, []), none, some (.invokevirtual 116, 136, 0, 0, []), none, none, some (.ifCond .eq 9, 139, 145, 0, []), none, none, some (.sipush 10000, 142, 0, 10000, []), none, none, some (.goto 79, 145, 221, 0, []), none],
  [none, some (.aload_n 0, 146, 0, 0, []), some (.ldc 132, 148, 0, 0, []), none, some (.invokevirtual 116, 151, 0, 0, []), none, none, some (.ifCond .eq 9, 154, 160, 0, []), none, none, some (.sipush 10001, 157, 0, 10001, []), none, none, some (.goto 64, 160, 221, 0, []), none, none],
  [some (.aload_n 0, 161, 0, 0, []), some (.ldc 134, 163, 0, 0, []), none, some (.invokevirtual 116, 166, 0, 0, []), none, none, some (.ifCond .eq 9, 169, 175, 0, []), none, none, some (.sipush 10002, 172, 0, 10002, []), none, none, some (.goto 49, 175, 221, 0, []), none, none, some (.aload_n 0, 176, 0, 0, [])],
  [some (.ldc 135, 178, 0, 0, []), none, some (.invokevirtual 116, 181, 0, 0, []), none, none, some (.ifCond .eq 9, 184, 190, 0, []), none, none, some (.sipush 10003, 187, 0, 10003, []), none, none, some (.goto 34, 190, 221, 0, []), none, none, some (.aload_n 0, 191, 0, 0, []), some (.ldc 137, 193, 0, 0, [])],
  [none, some (.invokevirtual 116, 196, 0, 0, []), none, none, some (.ifCond .eq 9, 199, 205, 0, []), none, none, some (.sipush 10004, 202, 0, 10004, []), none, none, some (.goto 19, 205, 221, 0, []), none, none, some (.aload_n 0, 206, 0, 0, []), some (.ldc 139, 208, 0, 0, []), none],
  [some (.invokevirtual 116, 211, 0, 0, []), none, none, some (.ifCond .eq 9, 214, 220, 0, []), none, none, some (.sipush 10005, 217, 0, 10005, []), none, none, some (.goto 4, 220, 221, 0, []), none, none, some (.iconst 1, 221, 0, 1, []), some (.putfield 45, 224, 0, 0, []), none, none],
  [some (.return_, 225, 0, 0, [])]]
def m_X1_nextWord : MT := ((cd_X1_nextWord, 1, 0, 0, 0), (yX1_nextWord, cX1_nextWord, 1, none))
def cd_X1_spells : List (List (Option Ent)) := [[some (.aload_n 0, 1, 0, 0, []), some (.getfield 28, 4, 0, 0, []), none, none, some (.aload_n 0, 5, 0, 0, []), some (.getfield 91, 8, 0, 0, []), none, none, some (.isub, 9, 0, 0, []), some (.aload_n 1, 10, 0, 0, []), some (.invokevirtual 141, 13, 0, 0, []), none, none, some (.if_icmp .eq 5, 16, 18, 0, []), none, none],
  [some (.iconst 0, 17, 0, 0, []), some (.ireturn, 18, 0, 0, []), some (.iconst 0, 19, 0, 0, []), some (.istore_n 2, 20, 0, 0, []), some (.iload_n 2, 21, 0, 0, []), some (.aload_n 1, 22, 0, 0, []), some (.invokevirtual 141, 25, 0, 0, []), none, none, some (.if_icmp .ge 30, 28, 55, 0, []), none, none, some (.aload_n 0, 29, 0, 0, []), some (.getfield 9, 32, 0, 0, []), none, none],
  [some (.aload_n 0, 33, 0, 0, []), some (.getfield 91, 36, 0, 0, []), none, none, some (.iload_n 2, 37, 0, 0, []), some (.iadd, 38, 0, 0, []), some (.iaload, 39, 0, 0, []), some (.aload_n 1, 40, 0, 0, []), some (.iload_n 2, 41, 0, 0, []), some (.invokevirtual 145, 44, 0, 0, []), none, none, some (.if_icmp .eq 5, 47, 49, 0, []), none, none, some (.iconst 0, 48, 0, 0, [])],
  [some (.ireturn, 49, 0, 0, []), some (.iinc 2 1, 52, 0, 1, []), none, none, some (.goto (-32), 55, 20, 0, []), none, none, some (.iconst 1, 56, 0, 1, []), some (.ireturn, 57, 0, 0, [])]]
def m_X1_spells : MT := ((cd_X1_spells, 1, 0, 0, 4), (yX1_spells, cX1_spells, 3, (some .boolean)))
def cd_X1_isDigit : List (List (Option Ent)) := [[some (.iload_n 0, 1, 0, 0, []), some (.bipush 48, 3, 0, 48, []), none, some (.if_icmp .lt 13, 6, 16, 0, []), none, none, some (.iload_n 0, 7, 0, 0, []), some (.bipush 57, 9, 0, 57, []), none, some (.if_icmp .gt 7, 12, 16, 0, []), none, none, some (.iconst 1, 13, 0, 1, []), some (.goto 4, 16, 17, 0, []), none, none],
  [some (.iconst 0, 17, 0, 0, []), some (.ireturn, 18, 0, 0, [])]]
def m_X1_isDigit : MT := ((cd_X1_isDigit, 1, 0, 0, 4), (yX1_isDigit, cX1_isDigit, 1, (some .boolean)))
def cd_X1_isLetter : List (List (Option Ent)) := [[some (.iload_n 0, 1, 0, 0, []), some (.bipush 97, 3, 0, 97, []), none, some (.if_icmp .lt 13, 6, 16, 0, []), none, none, some (.iload_n 0, 7, 0, 0, []), some (.bipush 122, 9, 0, 122, []), none, some (.if_icmp .gt 7, 12, 16, 0, []), none, none, some (.iconst 1, 13, 0, 1, []), some (.goto 4, 16, 17, 0, []), none, none],
  [some (.iconst 0, 17, 0, 0, []), some (.ireturn, 18, 0, 0, [])]]
def m_X1_isLetter : MT := ((cd_X1_isLetter, 1, 0, 0, 4), (yX1_isLetter, cX1_isLetter, 1, (some .boolean)))
def cd_X2_init : List (List (Option Ent)) := [[some (.aload_n 0, 1, 0, 0, []), some (.invokespecial 3, 4, 0, 0, []), none, none, some (.aload_n 0, 5, 0, 0, []), some (.bipush 6, 7, 0, 6, []), none, some (.anewarray 9, 10, 0, 0, []), none, none, some (.putfield 11, 13, 0, 0, []), none, none, some (.aload_n 0, 14, 0, 0, []), some (.bipush 6, 16, 0, 6, []), none],
  [some (.newarray .int, 18, 0, 0, []), none, some (.putfield 17, 21, 0, 0, []), none, none, some (.aload_n 0, 22, 0, 0, []), some (.sipush 160, 25, 0, 160, []), none, none, some (.newarray .int, 27, 0, 0, []), none, some (.putfield 21, 30, 0, 0, []), none, none, some (.iconst 3, 31, 0, 3, []), some (.newarray .int, 33, 0, 0, [])],
  [none, some (.dup, 34, 0, 0, []), some (.iconst 0, 35, 0, 0, []), some (.iconst 1, 36, 0, 1, []), some (.iastore, 37, 0, 0, []), some (.dup, 38, 0, 0, []), some (.iconst 1, 39, 0, 1, []), some (.iconst 1, 40, 0, 1, []), some (.iastore, 41, 0, 0, []), some (.dup, 42, 0, 0, []), some (.iconst 2, 43, 0, 2, []), some (.iconst 4, 44, 0, 4, []), some (.iastore, 45, 0, 0, []), some (.astore_n 1, 46, 0, 0, []), some (.iconst 3, 47, 0, 3, []), some (.newarray .int, 49, 0, 0, [])],
  [none, some (.dup, 50, 0, 0, []), some (.iconst 0, 51, 0, 0, []), some (.iconst 1, 52, 0, 1, []), some (.iastore, 53, 0, 0, []), some (.dup, 54, 0, 0, []), some (.iconst 1, 55, 0, 1, []), some (.iconst 2, 56, 0, 2, []), some (.iastore, 57, 0, 0, []), some (.dup, 58, 0, 0, []), some (.iconst 2, 59, 0, 2, []), some (.iconst 3, 60, 0, 3, []), some (.iastore, 61, 0, 0, []), some (.astore_n 2, 62, 0, 0, []), some (.aload_n 0, 63, 0, 0, []), some (.getfield 11, 66, 0, 0, [])],
  [none, none, some (.iconst 0, 67, 0, 0, []), some (.new 9, 70, 0, 0, []), none, none, some (.dup, 71, 0, 0, []), some (.aload_n 1, 72, 0, 0, []), some (.aload_n 2, 73, 0, 0, []), some (.invokespecial 24, 76, 0, 0, []), none, none, some (.aastore, 77, 0, 0, []), some (.aload_n 0, 78, 0, 0, []), some (.iconst 1, 79, 0, 1, []), some (.putfield 27, 82, 0, 0, [])],
  [none, none, some (.return_, 83, 0, 0, [])]]
def m_X2_init : MT := ((cd_X2_init, 2, 6, 180, 0), (yX2_init, cX2_init, 3, none))
def cd_X2_keep : List (List (Option Ent)) := [[some (.aload_n 0, 1, 0, 0, []), some (.getfield 11, 4, 0, 0, []), none, none, some (.aload_n 0, 5, 0, 0, []), some (.getfield 27, 8, 0, 0, []), none, none, some (.aload_n 1, 9, 0, 0, []), some (.aastore, 10, 0, 0, []), some (.aload_n 0, 11, 0, 0, []), some (.dup, 12, 0, 0, []), some (.getfield 27, 15, 0, 0, []), none, none, some (.iconst 1, 16, 0, 1, [])],
  [some (.iadd, 17, 0, 0, []), some (.putfield 27, 20, 0, 0, []), none, none, some (.aload_n 0, 21, 0, 0, []), some (.getfield 27, 24, 0, 0, []), none, none, some (.iconst 1, 25, 0, 1, []), some (.isub, 26, 0, 0, []), some (.ireturn, 27, 0, 0, [])]]
def m_X2_keep : MT := ((cd_X2_keep, 2, 0, 0, 1), (yX2_keep, cX2_keep, 2, (some .int)))
def cd_X2_value : List (List (Option Ent)) := [[some (.iload_n 1, 1, 0, 0, []), some (.ifCond .lt 20, 4, 21, 0, []), none, none, some (.iload_n 1, 5, 0, 0, []), some (.aload_n 0, 6, 0, 0, []), some (.getfield 27, 9, 0, 0, []), none, none, some (.if_icmp .ge 12, 12, 21, 0, []), none, none, some (.aload_n 0, 13, 0, 0, []), some (.getfield 11, 16, 0, 0, []), none, none],
  [some (.iload_n 1, 17, 0, 0, []), some (.aaload, 18, 0, 0, []), some (.goto 4, 21, 22, 0, []), none, none, some (.aconst_null, 22, 0, 0, []), some (.astore_n 3, 23, 0, 0, []), some (.aload_n 3, 24, 0, 0, []), some (.ifnonnull 5, 27, 29, 0, []), none, none, some (.iconst 0, 28, 0, 0, []), some (.ireturn, 29, 0, 0, []), some (.iconst (-1), 30, 0, (-1), []), some (.istore 4, 32, 0, 0, []), none],
  [some (.iload_n 2, 33, 0, 0, []), some (.ifCond .ne 7, 36, 40, 0, []), none, none, some (.iconst 0, 37, 0, 0, []), some (.goto 11, 40, 48, 0, []), none, none, some (.aload_n 3, 41, 0, 0, []), some (.getfield 31, 44, 0, 0, []), none, none, some (.iload_n 2, 45, 0, 0, []), some (.iconst 1, 46, 0, 1, []), some (.isub, 47, 0, 0, []), some (.iaload, 48, 0, 0, [])],
  [some (.istore 5, 50, 0, 0, []), none, some (.iload 5, 52, 0, 0, []), none, some (.aload_n 3, 53, 0, 0, []), some (.getfield 31, 56, 0, 0, []), none, none, some (.iload_n 2, 57, 0, 0, []), some (.iaload, 58, 0, 0, []), some (.if_icmp .ge 370, 61, 428, 0, []), none, none, some (.aload_n 3, 62, 0, 0, []), some (.getfield 34, 65, 0, 0, []), none],
  [none, some (.iload 5, 67, 0, 0, []), none, some (.iaload, 68, 0, 0, []), some (.istore 6, 70, 0, 0, []), none, some (.iload 6, 72, 0, 0, []), none, some (.sipush 10006, 75, 0, 10006, []), none, none, some (.if_icmp .ge 52, 78, 127, 0, []), none, none, some (.iinc 4 1, 81, 0, 1, []), none],
  [none, some (.iload 4, 83, 0, 0, []), none, some (.aload_n 0, 84, 0, 0, []), some (.getfield 21, 87, 0, 0, []), none, none, some (.arraylength, 88, 0, 0, []), some (.if_icmp .lt 5, 91, 93, 0, []), none, none, some (.iconst 0, 92, 0, 0, []), some (.ireturn, 93, 0, 0, []), some (.aload_n 0, 94, 0, 0, []), some (.getfield 21, 97, 0, 0, []), none],
  [none, some (.iload 4, 99, 0, 0, []), none, some (.iload 6, 101, 0, 0, []), none, some (.sipush 10000, 104, 0, 10000, []), none, none, some (.if_icmp .ge 8, 107, 112, 0, []), none, none, some (.iload 6, 109, 0, 0, []), none, some (.goto 14, 112, 123, 0, []), none, none],
  [some (.aload_n 0, 113, 0, 0, []), some (.getfield 17, 116, 0, 0, []), none, none, some (.iload 6, 118, 0, 0, []), none, some (.sipush 10000, 121, 0, 10000, []), none, none, some (.isub, 122, 0, 0, []), some (.iaload, 123, 0, 0, []), some (.iastore, 124, 0, 0, []), some (.goto 298, 127, 422, 0, []), none, none, some (.iload 6, 129, 0, 0, [])],
  [none, some (.sipush 10008, 132, 0, 10008, []), none, none, some (.if_icmp .lt 6, 135, 138, 0, []), none, none, some (.iinc 4 (-1), 138, 0, (-1), []), none, none, some (.iload 4, 140, 0, 0, []), none, some (.ifCond .ge 5, 143, 145, 0, []), none, none, some (.iconst 0, 144, 0, 0, [])],
  [some (.ireturn, 145, 0, 0, []), some (.aload_n 0, 146, 0, 0, []), some (.getfield 21, 149, 0, 0, []), none, none, some (.iload 4, 151, 0, 0, []), none, some (.iaload, 152, 0, 0, []), some (.istore 7, 154, 0, 0, []), none, some (.iload 6, 156, 0, 0, []), none, some (.tableswitch 247 10006 10013 #[48, 61, 81, 113, 145, 174, 203, 225], 204, 403, 0, [(10006, 204), (10007, 217), (10008, 237), (10009, 269), (10010, 301), (10011, 330), (10012, 359), (10013, 381)]), none, none, none],
  [none, none, none, none, none, none, none, none, none, none, none, none, none, none, none, none],
  [none, none, none, none, none, none, none, none, none, none, none, none, none, none, none, none],
  [none, none, none, none, none, none, none, none, none, none, none, none, some (.aload_n 0, 205, 0, 0, []), some (.getfield 21, 208, 0, 0, []), none, none],
  [some (.iload 4, 210, 0, 0, []), none, some (.iload 7, 212, 0, 0, []), none, some (.ineg, 213, 0, 0, []), some (.iastore, 214, 0, 0, []), some (.goto 208, 217, 422, 0, []), none, none, some (.aload_n 0, 218, 0, 0, []), some (.getfield 21, 221, 0, 0, []), none, none, some (.iload 4, 223, 0, 0, []), none, some (.iload 7, 225, 0, 0, [])],
  [none, some (.ifCond .ne 7, 228, 232, 0, []), none, none, some (.iconst 1, 229, 0, 1, []), some (.goto 4, 232, 233, 0, []), none, none, some (.iconst 0, 233, 0, 0, []), some (.iastore, 234, 0, 0, []), some (.goto 188, 237, 422, 0, []), none, none, some (.aload_n 0, 238, 0, 0, []), some (.getfield 21, 241, 0, 0, []), none],
  [none, some (.iload 4, 243, 0, 0, []), none, some (.iload 7, 245, 0, 0, []), none, some (.ifCond .ne 15, 248, 260, 0, []), none, none, some (.aload_n 0, 249, 0, 0, []), some (.getfield 21, 252, 0, 0, []), none, none, some (.iload 4, 254, 0, 0, []), none, some (.iconst 1, 255, 0, 1, []), some (.iadd, 256, 0, 0, [])],
  [some (.iaload, 257, 0, 0, []), some (.ifCond .eq 7, 260, 264, 0, []), none, none, some (.iconst 1, 261, 0, 1, []), some (.goto 4, 264, 265, 0, []), none, none, some (.iconst 0, 265, 0, 0, []), some (.iastore, 266, 0, 0, []), some (.goto 156, 269, 422, 0, []), none, none, some (.aload_n 0, 270, 0, 0, []), some (.getfield 21, 273, 0, 0, []), none],
  [none, some (.iload 4, 275, 0, 0, []), none, some (.iload 7, 277, 0, 0, []), none, some (.ifCond .eq 19, 280, 296, 0, []), none, none, some (.aload_n 0, 281, 0, 0, []), some (.getfield 21, 284, 0, 0, []), none, none, some (.iload 4, 286, 0, 0, []), none, some (.iconst 1, 287, 0, 1, []), some (.iadd, 288, 0, 0, [])],
  [some (.iaload, 289, 0, 0, []), some (.ifCond .eq 7, 292, 296, 0, []), none, none, some (.iconst 1, 293, 0, 1, []), some (.goto 4, 296, 297, 0, []), none, none, some (.iconst 0, 297, 0, 0, []), some (.iastore, 298, 0, 0, []), some (.goto 124, 301, 422, 0, []), none, none, some (.aload_n 0, 302, 0, 0, []), some (.getfield 21, 305, 0, 0, []), none],
  [none, some (.iload 4, 307, 0, 0, []), none, some (.iload 7, 309, 0, 0, []), none, some (.aload_n 0, 310, 0, 0, []), some (.getfield 21, 313, 0, 0, []), none, none, some (.iload 4, 315, 0, 0, []), none, some (.iconst 1, 316, 0, 1, []), some (.iadd, 317, 0, 0, []), some (.iaload, 318, 0, 0, []), some (.if_icmp .ge 7, 321, 325, 0, []), none],
  [none, some (.iconst 1, 322, 0, 1, []), some (.goto 4, 325, 326, 0, []), none, none, some (.iconst 0, 326, 0, 0, []), some (.iastore, 327, 0, 0, []), some (.goto 95, 330, 422, 0, []), none, none, some (.aload_n 0, 331, 0, 0, []), some (.getfield 21, 334, 0, 0, []), none, none, some (.iload 4, 336, 0, 0, []), none],
  [some (.iload 7, 338, 0, 0, []), none, some (.aload_n 0, 339, 0, 0, []), some (.getfield 21, 342, 0, 0, []), none, none, some (.iload 4, 344, 0, 0, []), none, some (.iconst 1, 345, 0, 1, []), some (.iadd, 346, 0, 0, []), some (.iaload, 347, 0, 0, []), some (.if_icmp .ne 7, 350, 354, 0, []), none, none, some (.iconst 1, 351, 0, 1, []), some (.goto 4, 354, 355, 0, [])],
  [none, none, some (.iconst 0, 355, 0, 0, []), some (.iastore, 356, 0, 0, []), some (.goto 66, 359, 422, 0, []), none, none, some (.aload_n 0, 360, 0, 0, []), some (.getfield 21, 363, 0, 0, []), none, none, some (.iload 4, 365, 0, 0, []), none, some (.iload 7, 367, 0, 0, []), none, some (.aload_n 0, 368, 0, 0, [])],
  [some (.getfield 21, 371, 0, 0, []), none, none, some (.iload 4, 373, 0, 0, []), none, some (.iconst 1, 374, 0, 1, []), some (.iadd, 375, 0, 0, []), some (.iaload, 376, 0, 0, []), some (.iadd, 377, 0, 0, []), some (.iastore, 378, 0, 0, []), some (.goto 44, 381, 422, 0, []), none, none, some (.aload_n 0, 382, 0, 0, []), some (.getfield 21, 385, 0, 0, []), none],
  [none, some (.iload 4, 387, 0, 0, []), none, some (.iload 7, 389, 0, 0, []), none, some (.aload_n 0, 390, 0, 0, []), some (.getfield 21, 393, 0, 0, []), none, none, some (.iload 4, 395, 0, 0, []), none, some (.iconst 1, 396, 0, 1, []), some (.iadd, 397, 0, 0, []), some (.iaload, 398, 0, 0, []), some (.isub, 399, 0, 0, []), some (.iastore, 400, 0, 0, [])],
  [some (.goto 22, 403, 422, 0, []), none, none, some (.aload_n 0, 404, 0, 0, []), some (.getfield 21, 407, 0, 0, []), none, none, some (.iload 4, 409, 0, 0, []), none, some (.iload 7, 411, 0, 0, []), none, some (.aload_n 0, 412, 0, 0, []), some (.getfield 21, 415, 0, 0, []), none, none, some (.iload 4, 417, 0, 0, [])],
  [none, some (.iconst 1, 418, 0, 1, []), some (.iadd, 419, 0, 0, []), some (.iaload, 420, 0, 0, []), some (.imul, 421, 0, 0, []), some (.iastore, 422, 0, 0, []), some (.iinc 5 1, 425, 0, 1, []), none, none, some (.goto (-375), 428, 50, 0, []), none, none, some (.iload 4, 430, 0, 0, []), none, some (.ifCond .ge 7, 433, 437, 0, []), none],
  [none, some (.iconst 0, 434, 0, 0, []), some (.goto 10, 437, 444, 0, []), none, none, some (.aload_n 0, 438, 0, 0, []), some (.getfield 21, 441, 0, 0, []), none, none, some (.iload 4, 443, 0, 0, []), none, some (.iaload, 444, 0, 0, []), some (.ireturn, 445, 0, 0, [])]]
def m_X2_value : MT := ((cd_X2_value, 2, 0, 0, 1), (yX2_value, cX2_value, 8, (some .int)))
def cd_X3_init : List (List (Option Ent)) := [[some (.aload_n 0, 1, 0, 0, []), some (.invokespecial 3, 4, 0, 0, []), none, none, some (.aload_n 0, 5, 0, 0, []), some (.iconst (-1), 6, 0, (-1), []), some (.putfield 9, 9, 0, 0, []), none, none, some (.aload_n 0, 10, 0, 0, []), some (.bipush 40, 12, 0, 40, []), none, some (.newarray .int, 14, 0, 0, []), none, some (.putfield 15, 17, 0, 0, []), none],
  [none, some (.return_, 18, 0, 0, [])]]
def m_X3_init : MT := ((cd_X3_init, 3, 1, 40, 0), (yX3_init, cX3_init, 1, none))
def cd_X3_become : List (List (Option Ent)) := [[some (.aload_n 0, 1, 0, 0, []), some (.iload_n 1, 2, 0, 0, []), some (.putfield 9, 5, 0, 0, []), none, none, some (.aload_n 0, 6, 0, 0, []), some (.iload_n 2, 7, 0, 0, []), some (.putfield 19, 10, 0, 0, []), none, none, some (.iconst 0, 11, 0, 0, []), some (.istore_n 3, 12, 0, 0, []), some (.iload_n 3, 13, 0, 0, []), some (.aload_n 0, 14, 0, 0, []), some (.getfield 15, 17, 0, 0, []), none],
  [none, some (.arraylength, 18, 0, 0, []), some (.if_icmp .ge 16, 21, 34, 0, []), none, none, some (.aload_n 0, 22, 0, 0, []), some (.getfield 15, 25, 0, 0, []), none, none, some (.iload_n 3, 26, 0, 0, []), some (.iconst 0, 27, 0, 0, []), some (.iastore, 28, 0, 0, []), some (.iinc 3 1, 31, 0, 1, []), none, none, some (.goto (-19), 34, 12, 0, [])],
  [none, none, some (.return_, 35, 0, 0, [])]]
def m_X3_become : MT := ((cd_X3_become, 3, 0, 0, 0), (yX3_become, cX3_become, 4, none))
def cd_X3_holds : List (List (Option Ent)) := [[some (.iload_n 1, 1, 0, 0, []), some (.ifCond .lt 29, 4, 30, 0, []), none, none, some (.iload_n 2, 5, 0, 0, []), some (.ifCond .lt 25, 8, 30, 0, []), none, none, some (.iload_n 2, 9, 0, 0, []), some (.aload_n 0, 10, 0, 0, []), some (.getfield 19, 13, 0, 0, []), none, none, some (.if_icmp .gt 17, 16, 30, 0, []), none, none],
  [some (.iload_n 1, 17, 0, 0, []), some (.aload_n 0, 18, 0, 0, []), some (.getfield 19, 21, 0, 0, []), none, none, some (.iload_n 2, 22, 0, 0, []), some (.isub, 23, 0, 0, []), some (.if_icmp .gt 7, 26, 30, 0, []), none, none, some (.iconst 1, 27, 0, 1, []), some (.goto 4, 30, 31, 0, []), none, none, some (.iconst 0, 31, 0, 0, []), some (.ireturn, 32, 0, 0, [])]]
def m_X3_holds : MT := ((cd_X3_holds, 3, 0, 0, 4), (yX3_holds, cX3_holds, 3, (some .boolean)))
def cd_X3_put : List (List (Option Ent)) := [[some (.aload_n 0, 1, 0, 0, []), some (.getfield 15, 4, 0, 0, []), none, none, some (.iload_n 1, 5, 0, 0, []), some (.aload_n 0, 6, 0, 0, []), some (.getfield 9, 9, 0, 0, []), none, none, some (.ifCond .ne 8, 12, 17, 0, []), none, none, some (.iload_n 2, 13, 0, 0, []), some (.i2b, 14, 0, 0, []), some (.goto 17, 17, 31, 0, []), none],
  [none, some (.aload_n 0, 18, 0, 0, []), some (.getfield 9, 21, 0, 0, []), none, none, some (.iconst 1, 22, 0, 1, []), some (.if_icmp .ne 8, 25, 30, 0, []), none, none, some (.iload_n 2, 26, 0, 0, []), some (.i2s, 27, 0, 0, []), some (.goto 4, 30, 31, 0, []), none, none, some (.iload_n 2, 31, 0, 0, []), some (.iastore, 32, 0, 0, [])],
  [some (.return_, 33, 0, 0, [])]]
def m_X3_put : MT := ((cd_X3_put, 3, 0, 0, 0), (yX3_put, cX3_put, 3, none))
def cd_X4_init : List (List (Option Ent)) := [[some (.aload_n 0, 1, 0, 0, []), some (.invokespecial 1, 4, 0, 0, []), none, none, some (.aload_n 0, 5, 0, 0, []), some (.aload_n 1, 6, 0, 0, []), some (.putfield 7, 9, 0, 0, []), none, none, some (.aload_n 0, 10, 0, 0, []), some (.aload_n 2, 11, 0, 0, []), some (.putfield 13, 14, 0, 0, []), none, none, some (.return_, 15, 0, 0, [])]]
def m_X4_init : MT := ((cd_X4_init, 4, 0, 0, 0), (yX4_init, cX4_init, 3, none))
def cd_X5_init : List (List (Option Ent)) := [[some (.aload_n 0, 1, 0, 0, []), some (.invokespecial 1, 4, 0, 0, []), none, none, some (.aload_n 0, 5, 0, 0, []), some (.new 7, 8, 0, 0, []), none, none, some (.dup, 9, 0, 0, []), some (.invokespecial 9, 12, 0, 0, []), none, none, some (.putfield 10, 15, 0, 0, []), none, none, some (.aload_n 0, 16, 0, 0, [])],
  [some (.new 16, 19, 0, 0, []), none, none, some (.dup, 20, 0, 0, []), some (.aload_n 0, 21, 0, 0, []), some (.getfield 10, 24, 0, 0, []), none, none, some (.invokespecial 18, 27, 0, 0, []), none, none, some (.putfield 21, 30, 0, 0, []), none, none, some (.aload_n 0, 31, 0, 0, []), some (.new 16, 34, 0, 0, [])],
  [none, none, some (.dup, 35, 0, 0, []), some (.aload_n 0, 36, 0, 0, []), some (.getfield 10, 39, 0, 0, []), none, none, some (.invokespecial 18, 42, 0, 0, []), none, none, some (.putfield 25, 45, 0, 0, []), none, none, some (.aload_n 0, 46, 0, 0, []), some (.iconst 3, 47, 0, 3, []), some (.anewarray 16, 50, 0, 0, [])],
  [none, none, some (.dup, 51, 0, 0, []), some (.iconst 0, 52, 0, 0, []), some (.new 16, 55, 0, 0, []), none, none, some (.dup, 56, 0, 0, []), some (.aload_n 0, 57, 0, 0, []), some (.getfield 10, 60, 0, 0, []), none, none, some (.invokespecial 18, 63, 0, 0, []), none, none, some (.aastore, 64, 0, 0, [])],
  [some (.dup, 65, 0, 0, []), some (.iconst 1, 66, 0, 1, []), some (.new 16, 69, 0, 0, []), none, none, some (.dup, 70, 0, 0, []), some (.aload_n 0, 71, 0, 0, []), some (.getfield 10, 74, 0, 0, []), none, none, some (.invokespecial 18, 77, 0, 0, []), none, none, some (.aastore, 78, 0, 0, []), some (.dup, 79, 0, 0, []), some (.iconst 2, 80, 0, 2, [])],
  [some (.new 16, 83, 0, 0, []), none, none, some (.dup, 84, 0, 0, []), some (.aload_n 0, 85, 0, 0, []), some (.getfield 10, 88, 0, 0, []), none, none, some (.invokespecial 18, 91, 0, 0, []), none, none, some (.aastore, 92, 0, 0, []), some (.putfield 28, 95, 0, 0, []), none, none, some (.aload_n 0, 96, 0, 0, [])],
  [some (.new 32, 99, 0, 0, []), none, none, some (.dup, 100, 0, 0, []), some (.invokespecial 34, 103, 0, 0, []), none, none, some (.putfield 35, 106, 0, 0, []), none, none, some (.aload_n 0, 107, 0, 0, []), some (.iconst 4, 108, 0, 4, []), some (.anewarray 39, 111, 0, 0, []), none, none, some (.dup, 112, 0, 0, [])],
  [some (.iconst 0, 113, 0, 0, []), some (.new 39, 116, 0, 0, []), none, none, some (.dup, 117, 0, 0, []), some (.invokespecial 41, 120, 0, 0, []), none, none, some (.aastore, 121, 0, 0, []), some (.dup, 122, 0, 0, []), some (.iconst 1, 123, 0, 1, []), some (.new 39, 126, 0, 0, []), none, none, some (.dup, 127, 0, 0, []), some (.invokespecial 41, 130, 0, 0, [])],
  [none, none, some (.aastore, 131, 0, 0, []), some (.dup, 132, 0, 0, []), some (.iconst 2, 133, 0, 2, []), some (.new 39, 136, 0, 0, []), none, none, some (.dup, 137, 0, 0, []), some (.invokespecial 41, 140, 0, 0, []), none, none, some (.aastore, 141, 0, 0, []), some (.dup, 142, 0, 0, []), some (.iconst 3, 143, 0, 3, []), some (.new 39, 146, 0, 0, [])],
  [none, none, some (.dup, 147, 0, 0, []), some (.invokespecial 41, 150, 0, 0, []), none, none, some (.aastore, 151, 0, 0, []), some (.putfield 42, 154, 0, 0, []), none, none, some (.aload_n 0, 155, 0, 0, []), some (.iconst 5, 156, 0, 5, []), some (.newarray .int, 158, 0, 0, []), none, some (.putfield 46, 161, 0, 0, []), none],
  [none, some (.return_, 162, 0, 0, [])]]
def m_X5_init : MT := ((cd_X5_init, 5, 57, 1066, 0), (yX5_init, cX5_init, 1, none))
def cd_X5_set : List (List (Option Ent)) := [[some (.iload_n 1, 1, 0, 0, []), some (.ifCond .lt 24, 4, 25, 0, []), none, none, some (.iload_n 1, 5, 0, 0, []), some (.getstatic 50, 8, 0, 0, []), none, none, some (.arraylength, 9, 0, 0, []), some (.if_icmp .ge 16, 12, 25, 0, []), none, none, some (.iload_n 3, 13, 0, 0, []), some (.ifCond .lt 12, 16, 25, 0, []), none, none],
  [some (.iload_n 3, 17, 0, 0, []), some (.getstatic 50, 20, 0, 0, []), none, none, some (.iload_n 1, 21, 0, 0, []), some (.iaload, 22, 0, 0, []), some (.if_icmp .le 6, 25, 28, 0, []), none, none, some (.bipush (-2), 27, 0, (-2), []), none, some (.ireturn, 28, 0, 0, []), some (.aload_n 0, 29, 0, 0, []), some (.iload_n 2, 30, 0, 0, []), some (.iload_n 1, 31, 0, 0, []), some (.invokevirtual 53, 34, 0, 0, [])],
  [none, none, some (.istore 4, 36, 0, 0, []), none, some (.iload 4, 38, 0, 0, []), none, some (.ifCond .ge 6, 41, 44, 0, []), none, none, some (.bipush (-2), 43, 0, (-2), []), none, some (.ireturn, 44, 0, 0, []), some (.iload_n 1, 45, 0, 0, []), some (.tableswitch 79 0 3 #[31, 42, 53, 66], 76, 124, 0, [(0, 76), (1, 87), (2, 98), (3, 111)]), none, none],
  [none, none, none, none, none, none, none, none, none, none, none, none, none, none, none, none],
  [none, none, none, none, none, none, none, none, none, none, none, none, some (.aload_n 0, 77, 0, 0, []), some (.getfield 21, 80, 0, 0, []), none, none],
  [some (.iload_n 3, 81, 0, 0, []), some (.putfield 57, 84, 0, 0, []), none, none, some (.goto 54, 87, 138, 0, []), none, none, some (.aload_n 0, 88, 0, 0, []), some (.getfield 21, 91, 0, 0, []), none, none, some (.iload_n 3, 92, 0, 0, []), some (.putfield 61, 95, 0, 0, []), none, none, some (.goto 43, 98, 138, 0, [])],
  [none, none, some (.aload_n 0, 99, 0, 0, []), some (.getfield 21, 102, 0, 0, []), none, none, some (.getfield 64, 105, 0, 0, []), none, none, some (.iload_n 2, 106, 0, 0, []), some (.iload_n 3, 107, 0, 0, []), some (.iastore, 108, 0, 0, []), some (.goto 30, 111, 138, 0, []), none, none, some (.aload_n 0, 112, 0, 0, [])],
  [some (.getfield 21, 115, 0, 0, []), none, none, some (.getfield 67, 118, 0, 0, []), none, none, some (.iload_n 2, 119, 0, 0, []), some (.iload_n 3, 120, 0, 0, []), some (.iastore, 121, 0, 0, []), some (.goto 17, 124, 138, 0, []), none, none, some (.aload_n 0, 125, 0, 0, []), some (.getfield 21, 128, 0, 0, []), none, none],
  [some (.getfield 70, 131, 0, 0, []), none, none, some (.aload_n 0, 132, 0, 0, []), some (.iload_n 2, 133, 0, 0, []), some (.invokevirtual 73, 136, 0, 0, []), none, none, some (.iload_n 3, 137, 0, 0, []), some (.iastore, 138, 0, 0, []), some (.iload 4, 140, 0, 0, []), none, some (.ireturn, 141, 0, 0, [])]]
def m_X5_set : MT := ((cd_X5_set, 5, 0, 0, 1), (yX5_set, cX5_set, 5, (some .int)))
def cd_X5_dancer : List (List (Option Ent)) := [[some (.iload_n 1, 1, 0, 0, []), some (.ifCond .lt 19, 4, 20, 0, []), none, none, some (.iload_n 1, 5, 0, 0, []), some (.bipush 6, 7, 0, 6, []), none, some (.if_icmp .ge 13, 10, 20, 0, []), none, none, some (.iload_n 2, 11, 0, 0, []), some (.ifCond .lt 9, 14, 20, 0, []), none, none, some (.iload_n 2, 15, 0, 0, []), some (.bipush 9, 17, 0, 9, [])],
  [none, some (.if_icmp .le 6, 20, 23, 0, []), none, none, some (.bipush (-2), 22, 0, (-2), []), none, some (.ireturn, 23, 0, 0, []), some (.aload_n 0, 24, 0, 0, []), some (.getfield 21, 27, 0, 0, []), none, none, some (.getfield 77, 30, 0, 0, []), none, none, some (.iconst 5, 31, 0, 5, []), some (.if_icmp .lt 6, 34, 37, 0, [])],
  [none, none, some (.bipush (-4), 36, 0, (-4), []), none, some (.ireturn, 37, 0, 0, []), some (.aload_n 0, 38, 0, 0, []), some (.getfield 21, 41, 0, 0, []), none, none, some (.iload_n 1, 42, 0, 0, []), some (.iload_n 2, 43, 0, 0, []), some (.invokevirtual 80, 46, 0, 0, []), none, none, some (.ireturn, 47, 0, 0, [])]]
def m_X5_dancer : MT := ((cd_X5_dancer, 5, 0, 0, 1), (yX5_dancer, cX5_dancer, 3, (some .int)))
def cd_X5_told : List (List (Option Ent)) := [[some (.iload_n 2, 1, 0, 0, []), some (.ifCond .ne 11, 4, 12, 0, []), none, none, some (.aload_n 0, 5, 0, 0, []), some (.getfield 21, 8, 0, 0, []), none, none, some (.getfield 57, 11, 0, 0, []), none, none, some (.ireturn, 12, 0, 0, []), some (.iload_n 2, 13, 0, 0, []), some (.iconst 1, 14, 0, 1, []), some (.if_icmp .ne 11, 17, 25, 0, []), none],
  [none, some (.aload_n 0, 18, 0, 0, []), some (.getfield 21, 21, 0, 0, []), none, none, some (.getfield 61, 24, 0, 0, []), none, none, some (.ireturn, 25, 0, 0, []), some (.iload_n 2, 26, 0, 0, []), some (.iconst 4, 27, 0, 4, []), some (.if_icmp .ne 28, 30, 55, 0, []), none, none, some (.aload_n 0, 31, 0, 0, []), some (.iload_n 1, 32, 0, 0, [])],
  [some (.invokevirtual 73, 35, 0, 0, []), none, none, some (.istore_n 3, 36, 0, 0, []), some (.iload_n 3, 37, 0, 0, []), some (.ifCond .ge 8, 40, 45, 0, []), none, none, some (.bipush (-2), 42, 0, (-2), []), none, some (.goto 12, 45, 54, 0, []), none, none, some (.aload_n 0, 46, 0, 0, []), some (.getfield 21, 49, 0, 0, []), none],
  [none, some (.getfield 70, 52, 0, 0, []), none, none, some (.iload_n 3, 53, 0, 0, []), some (.iaload, 54, 0, 0, []), some (.ireturn, 55, 0, 0, []), some (.aload_n 0, 56, 0, 0, []), some (.iload_n 1, 57, 0, 0, []), some (.invokevirtual 83, 60, 0, 0, []), none, none, some (.ifCond .ne 6, 63, 66, 0, []), none, none, some (.bipush (-2), 65, 0, (-2), [])],
  [none, some (.ireturn, 66, 0, 0, []), some (.iload_n 2, 67, 0, 0, []), some (.tableswitch 98 2 8 #[41, 51, 98, 61, 71, 80, 89], 108, 165, 0, [(2, 108), (3, 118), (4, 165), (5, 128), (6, 138), (7, 147), (8, 156)]), none, none, none, none, none, none, none, none, none, none, none, none],
  [none, none, none, none, none, none, none, none, none, none, none, none, none, none, none, none],
  [none, none, none, none, none, none, none, none, none, none, none, none, some (.aload_n 0, 109, 0, 0, []), some (.getfield 21, 112, 0, 0, []), none, none],
  [some (.getfield 64, 115, 0, 0, []), none, none, some (.iload_n 1, 116, 0, 0, []), some (.iaload, 117, 0, 0, []), some (.ireturn, 118, 0, 0, []), some (.aload_n 0, 119, 0, 0, []), some (.getfield 21, 122, 0, 0, []), none, none, some (.getfield 67, 125, 0, 0, []), none, none, some (.iload_n 1, 126, 0, 0, []), some (.iaload, 127, 0, 0, []), some (.ireturn, 128, 0, 0, [])],
  [some (.aload_n 0, 129, 0, 0, []), some (.getfield 21, 132, 0, 0, []), none, none, some (.getfield 87, 135, 0, 0, []), none, none, some (.iload_n 1, 136, 0, 0, []), some (.iaload, 137, 0, 0, []), some (.ireturn, 138, 0, 0, []), some (.aload_n 0, 139, 0, 0, []), some (.getfield 21, 142, 0, 0, []), none, none, some (.iload_n 1, 143, 0, 0, []), some (.invokevirtual 90, 146, 0, 0, [])],
  [none, none, some (.ireturn, 147, 0, 0, []), some (.aload_n 0, 148, 0, 0, []), some (.getfield 21, 151, 0, 0, []), none, none, some (.iload_n 1, 152, 0, 0, []), some (.invokevirtual 93, 155, 0, 0, []), none, none, some (.ireturn, 156, 0, 0, []), some (.aload_n 0, 157, 0, 0, []), some (.getfield 21, 160, 0, 0, []), none, none],
  [some (.iload_n 1, 161, 0, 0, []), some (.invokevirtual 96, 164, 0, 0, []), none, none, some (.ireturn, 165, 0, 0, []), some (.bipush (-2), 167, 0, (-2), []), none, some (.ireturn, 168, 0, 0, [])]]
def m_X5_told : MT := ((cd_X5_told, 5, 0, 0, 1), (yX5_told, cX5_told, 4, (some .int)))
def cd_X5_asks : List (List (Option Ent)) := [[some (.aload_n 0, 1, 0, 0, []), some (.iload_n 1, 2, 0, 0, []), some (.iload_n 2, 3, 0, 0, []), some (.invokevirtual 99, 6, 0, 0, []), none, none, some (.ifCond .ne 6, 9, 12, 0, []), none, none, some (.bipush (-2), 11, 0, (-2), []), none, some (.ireturn, 12, 0, 0, []), some (.iload_n 3, 13, 0, 0, []), some (.tableswitch 81 0 2 #[27, 45, 63], 40, 94, 0, [(0, 40), (1, 58), (2, 76)]), none, none],
  [none, none, none, none, none, none, none, none, none, none, none, none, none, none, none, none],
  [none, none, none, none, none, none, none, none, some (.aload_n 0, 41, 0, 0, []), some (.getfield 21, 44, 0, 0, []), none, none, some (.iload_n 1, 45, 0, 0, []), some (.aload_n 0, 46, 0, 0, []), some (.getfield 21, 49, 0, 0, []), none],
  [none, some (.iload_n 1, 50, 0, 0, []), some (.iload_n 2, 51, 0, 0, []), some (.invokevirtual 103, 54, 0, 0, []), none, none, some (.invokevirtual 106, 57, 0, 0, []), none, none, some (.ireturn, 58, 0, 0, []), some (.aload_n 0, 59, 0, 0, []), some (.getfield 21, 62, 0, 0, []), none, none, some (.iload_n 1, 63, 0, 0, []), some (.iload_n 2, 64, 0, 0, [])],
  [some (.invokevirtual 109, 67, 0, 0, []), none, none, some (.ifCond .eq 7, 70, 74, 0, []), none, none, some (.iconst 1, 71, 0, 1, []), some (.goto 4, 74, 75, 0, []), none, none, some (.iconst 0, 75, 0, 0, []), some (.ireturn, 76, 0, 0, []), some (.aload_n 0, 77, 0, 0, []), some (.getfield 21, 80, 0, 0, []), none, none],
  [some (.iload_n 1, 81, 0, 0, []), some (.iload_n 2, 82, 0, 0, []), some (.invokevirtual 112, 85, 0, 0, []), none, none, some (.ifCond .eq 7, 88, 92, 0, []), none, none, some (.iconst 1, 89, 0, 1, []), some (.goto 4, 92, 93, 0, []), none, none, some (.iconst 0, 93, 0, 0, []), some (.ireturn, 94, 0, 0, []), some (.bipush (-2), 96, 0, (-2), []), none],
  [some (.ireturn, 97, 0, 0, [])]]
def m_X5_asks : MT := ((cd_X5_asks, 5, 0, 0, 1), (yX5_asks, cX5_asks, 4, (some .int)))
def cd_X5_isDancer : List (List (Option Ent)) := [[some (.iload_n 1, 1, 0, 0, []), some (.ifCond .lt 18, 4, 19, 0, []), none, none, some (.iload_n 1, 5, 0, 0, []), some (.aload_n 0, 6, 0, 0, []), some (.getfield 21, 9, 0, 0, []), none, none, some (.getfield 77, 12, 0, 0, []), none, none, some (.if_icmp .ge 7, 15, 19, 0, []), none, none, some (.iconst 1, 16, 0, 1, [])],
  [some (.goto 4, 19, 20, 0, []), none, none, some (.iconst 0, 20, 0, 0, []), some (.ireturn, 21, 0, 0, [])]]
def m_X5_isDancer : MT := ((cd_X5_isDancer, 5, 0, 0, 4), (yX5_isDancer, cX5_isDancer, 2, (some .boolean)))
def cd_X5_isTwo : List (List (Option Ent)) := [[some (.aload_n 0, 1, 0, 0, []), some (.iload_n 1, 2, 0, 0, []), some (.invokevirtual 83, 5, 0, 0, []), none, none, some (.ifCond .eq 20, 8, 25, 0, []), none, none, some (.aload_n 0, 9, 0, 0, []), some (.iload_n 2, 10, 0, 0, []), some (.invokevirtual 83, 13, 0, 0, []), none, none, some (.ifCond .eq 12, 16, 25, 0, []), none, none],
  [some (.iload_n 1, 17, 0, 0, []), some (.iload_n 2, 18, 0, 0, []), some (.if_icmp .eq 7, 21, 25, 0, []), none, none, some (.iconst 1, 22, 0, 1, []), some (.goto 4, 25, 26, 0, []), none, none, some (.iconst 0, 26, 0, 0, []), some (.ireturn, 27, 0, 0, [])]]
def m_X5_isTwo : MT := ((cd_X5_isTwo, 5, 0, 0, 4), (yX5_isTwo, cX5_isTwo, 3, (some .boolean)))
def cd_X5_debtPlace : List (List (Option Ent)) := [[some (.iload_n 1, 1, 0, 0, []), some (.bipush 10, 3, 0, 10, []), none, some (.idiv, 4, 0, 0, []), some (.istore_n 2, 5, 0, 0, []), some (.iload_n 1, 6, 0, 0, []), some (.bipush 10, 8, 0, 10, []), none, some (.irem, 9, 0, 0, []), some (.istore_n 3, 10, 0, 0, []), some (.iload_n 1, 11, 0, 0, []), some (.ifCond .lt 20, 14, 31, 0, []), none, none, some (.aload_n 0, 15, 0, 0, []), some (.iload_n 2, 16, 0, 0, [])],
  [some (.iload_n 3, 17, 0, 0, []), some (.invokevirtual 99, 20, 0, 0, []), none, none, some (.ifCond .eq 11, 23, 31, 0, []), none, none, some (.iload_n 2, 24, 0, 0, []), some (.iconst 5, 25, 0, 5, []), some (.imul, 26, 0, 0, []), some (.iload_n 3, 27, 0, 0, []), some (.iadd, 28, 0, 0, []), some (.goto 4, 31, 32, 0, []), none, none, some (.iconst (-1), 32, 0, (-1), [])],
  [some (.ireturn, 33, 0, 0, [])]]
def m_X5_debtPlace : MT := ((cd_X5_debtPlace, 5, 0, 0, 1), (yX5_debtPlace, cX5_debtPlace, 4, (some .int)))
def cd_X5_feed : List (List (Option Ent)) := [[some (.iload_n 1, 1, 0, 0, []), some (.ifCond .lt 10, 4, 11, 0, []), none, none, some (.iload_n 1, 5, 0, 0, []), some (.sipush 255, 8, 0, 255, []), none, none, some (.if_icmp .le 6, 11, 14, 0, []), none, none, some (.bipush (-2), 13, 0, (-2), []), none, some (.ireturn, 14, 0, 0, []), some (.aload_n 0, 15, 0, 0, []), some (.getfield 35, 18, 0, 0, [])],
  [none, none, some (.iload_n 1, 19, 0, 0, []), some (.invokevirtual 115, 22, 0, 0, []), none, none, some (.ifCond .eq 13, 25, 35, 0, []), none, none, some (.aload_n 0, 26, 0, 0, []), some (.getfield 35, 29, 0, 0, []), none, none, some (.getfield 118, 32, 0, 0, []), none, none],
  [some (.goto 5, 35, 37, 0, []), none, none, some (.bipush (-4), 37, 0, (-4), []), none, some (.ireturn, 38, 0, 0, [])]]
def m_X5_feed : MT := ((cd_X5_feed, 5, 0, 0, 1), (yX5_feed, cX5_feed, 2, (some .int)))
def cd_X5_text : List (List (Option Ent)) := [[some (.aload_n 0, 1, 0, 0, []), some (.getfield 10, 4, 0, 0, []), none, none, some (.getfield 121, 7, 0, 0, []), none, none, some (.bipush 6, 9, 0, 6, []), none, some (.if_icmp .lt 6, 12, 15, 0, []), none, none, some (.bipush (-4), 14, 0, (-4), []), none, some (.ireturn, 15, 0, 0, []), some (.aload_n 0, 16, 0, 0, [])],
  [some (.getfield 35, 19, 0, 0, []), none, none, some (.invokevirtual 124, 22, 0, 0, []), none, none, some (.astore_n 1, 23, 0, 0, []), some (.aload_n 1, 24, 0, 0, []), some (.ifnonnull 16, 27, 40, 0, []), none, none, some (.bipush (-100), 29, 0, (-100), []), none, some (.aload_n 0, 30, 0, 0, []), some (.getfield 35, 33, 0, 0, []), none],
  [none, some (.getfield 128, 36, 0, 0, []), none, none, some (.isub, 37, 0, 0, []), some (.goto 11, 40, 48, 0, []), none, none, some (.aload_n 0, 41, 0, 0, []), some (.getfield 10, 44, 0, 0, []), none, none, some (.aload_n 1, 45, 0, 0, []), some (.invokevirtual 131, 48, 0, 0, []), none, none],
  [some (.ireturn, 49, 0, 0, [])]]
def m_X5_text : MT := ((cd_X5_text, 5, 3, 165, 1), (yX5_text, cX5_text, 2, (some .int)))
def cd_X5_force : List (List (Option Ent)) := [[some (.iload_n 1, 1, 0, 0, []), some (.ifCond .lt 14, 4, 15, 0, []), none, none, some (.iload_n 1, 5, 0, 0, []), some (.aload_n 0, 6, 0, 0, []), some (.getfield 10, 9, 0, 0, []), none, none, some (.getfield 121, 12, 0, 0, []), none, none, some (.if_icmp .lt 6, 15, 18, 0, []), none, none, some (.bipush (-2), 17, 0, (-2), [])],
  [none, some (.ireturn, 18, 0, 0, []), some (.aload_n 0, 19, 0, 0, []), some (.getfield 21, 22, 0, 0, []), none, none, some (.getfield 135, 25, 0, 0, []), none, none, some (.istore_n 2, 26, 0, 0, []), some (.aload_n 0, 27, 0, 0, []), some (.getfield 21, 30, 0, 0, []), none, none, some (.iload_n 1, 31, 0, 0, []), some (.putfield 135, 34, 0, 0, [])],
  [none, none, some (.iload_n 2, 35, 0, 0, []), some (.ireturn, 36, 0, 0, [])]]
def m_X5_force : MT := ((cd_X5_force, 5, 0, 0, 1), (yX5_force, cX5_force, 3, (some .int)))
def cd_X5_dance : List (List (Option Ent)) := [[some (.aload_n 0, 1, 0, 0, []), some (.iload_n 1, 2, 0, 0, []), some (.iload_n 2, 3, 0, 0, []), some (.invokevirtual 99, 6, 0, 0, []), none, none, some (.ifCond .ne 6, 9, 12, 0, []), none, none, some (.bipush (-2), 11, 0, (-2), []), none, some (.ireturn, 12, 0, 0, []), some (.aload_n 0, 13, 0, 0, []), some (.getfield 21, 16, 0, 0, []), none, none],
  [some (.iload_n 1, 17, 0, 0, []), some (.iload_n 2, 18, 0, 0, []), some (.invokevirtual 112, 21, 0, 0, []), none, none, some (.ifCond .eq 15, 24, 36, 0, []), none, none, some (.aload_n 0, 25, 0, 0, []), some (.getfield 21, 28, 0, 0, []), none, none, some (.iload_n 1, 29, 0, 0, []), some (.iload_n 2, 30, 0, 0, []), some (.invokevirtual 138, 33, 0, 0, []), none],
  [none, some (.goto 5, 36, 38, 0, []), none, none, some (.bipush (-3), 38, 0, (-3), []), none, some (.ireturn, 39, 0, 0, [])]]
def m_X5_dance : MT := ((cd_X5_dance, 5, 0, 0, 1), (yX5_dance, cX5_dance, 3, (some .int)))
def cd_X5_round : List (List (Option Ent)) := [[some (.aload_n 0, 1, 0, 0, []), some (.getfield 21, 4, 0, 0, []), none, none, some (.getfield 57, 7, 0, 0, []), none, none, some (.sipush 999, 10, 0, 999, []), none, none, some (.if_icmp .lt 8, 13, 18, 0, []), none, none, some (.bipush (-3), 15, 0, (-3), []), none, some (.goto 10, 18, 25, 0, [])],
  [none, none, some (.aload_n 0, 19, 0, 0, []), some (.getfield 21, 22, 0, 0, []), none, none, some (.invokevirtual 141, 25, 0, 0, []), none, none, some (.ireturn, 26, 0, 0, [])]]
def m_X5_round : MT := ((cd_X5_round, 5, 0, 0, 1), (yX5_round, cX5_round, 1, (some .int)))
def cd_X5_night : List (List (Option Ent)) := [[some (.aload_n 0, 1, 0, 0, []), some (.getfield 21, 4, 0, 0, []), none, none, some (.getfield 61, 7, 0, 0, []), none, none, some (.sipush 999, 10, 0, 999, []), none, none, some (.if_icmp .lt 8, 13, 18, 0, []), none, none, some (.bipush (-3), 15, 0, (-3), []), none, some (.goto 10, 18, 25, 0, [])],
  [none, none, some (.aload_n 0, 19, 0, 0, []), some (.getfield 21, 22, 0, 0, []), none, none, some (.invokevirtual 145, 25, 0, 0, []), none, none, some (.ireturn, 26, 0, 0, [])]]
def m_X5_night : MT := ((cd_X5_night, 5, 0, 0, 1), (yX5_night, cX5_night, 1, (some .int)))
def cd_X5_strike : List (List (Option Ent)) := [[some (.aload_n 0, 1, 0, 0, []), some (.iload_n 1, 2, 0, 0, []), some (.invokevirtual 148, 5, 0, 0, []), none, none, some (.istore_n 2, 6, 0, 0, []), some (.iload_n 2, 7, 0, 0, []), some (.iconst 2, 8, 0, 2, []), some (.if_icmp .ge 6, 11, 14, 0, []), none, none, some (.bipush (-2), 13, 0, (-2), []), none, some (.ireturn, 14, 0, 0, []), some (.bipush 99, 16, 0, 99, []), none],
  [some (.istore_n 3, 17, 0, 0, []), some (.iconst 0, 18, 0, 0, []), some (.istore 4, 20, 0, 0, []), none, some (.iload 4, 22, 0, 0, []), none, some (.iload_n 2, 23, 0, 0, []), some (.if_icmp .ge 39, 26, 62, 0, []), none, none, some (.iload_n 3, 27, 0, 0, []), some (.aload_n 0, 28, 0, 0, []), some (.getfield 21, 31, 0, 0, []), none, none, some (.aload_n 0, 32, 0, 0, [])],
  [some (.getfield 46, 35, 0, 0, []), none, none, some (.iload 4, 37, 0, 0, []), none, some (.iconst 1, 38, 0, 1, []), some (.iadd, 39, 0, 0, []), some (.iload_n 2, 40, 0, 0, []), some (.irem, 41, 0, 0, []), some (.iaload, 42, 0, 0, []), some (.aload_n 0, 43, 0, 0, []), some (.getfield 46, 46, 0, 0, []), none, none, some (.iload 4, 48, 0, 0, []), none],
  [some (.iaload, 49, 0, 0, []), some (.invokevirtual 103, 52, 0, 0, []), none, none, some (.invokestatic 151, 55, 0, 0, []), none, none, some (.istore_n 3, 56, 0, 0, []), some (.iinc 4 1, 59, 0, 1, []), none, none, some (.goto (-39), 62, 20, 0, []), none, none, some (.iload_n 3, 63, 0, 0, []), some (.ifCond .ne 6, 66, 69, 0, [])],
  [none, none, some (.bipush (-3), 68, 0, (-3), []), none, some (.ireturn, 69, 0, 0, []), some (.iconst 0, 70, 0, 0, []), some (.istore 4, 72, 0, 0, []), none, some (.iload 4, 74, 0, 0, []), none, some (.iload_n 2, 75, 0, 0, []), some (.if_icmp .ge 35, 78, 110, 0, []), none, none, some (.aload_n 0, 79, 0, 0, []), some (.getfield 21, 82, 0, 0, [])],
  [none, none, some (.aload_n 0, 83, 0, 0, []), some (.getfield 46, 86, 0, 0, []), none, none, some (.iload 4, 88, 0, 0, []), none, some (.iconst 1, 89, 0, 1, []), some (.iadd, 90, 0, 0, []), some (.iload_n 2, 91, 0, 0, []), some (.irem, 92, 0, 0, []), some (.iaload, 93, 0, 0, []), some (.aload_n 0, 94, 0, 0, []), some (.getfield 46, 97, 0, 0, []), none],
  [none, some (.iload 4, 99, 0, 0, []), none, some (.iaload, 100, 0, 0, []), some (.iload_n 3, 101, 0, 0, []), some (.invokevirtual 156, 104, 0, 0, []), none, none, some (.iinc 4 1, 107, 0, 1, []), none, none, some (.goto (-35), 110, 72, 0, []), none, none, some (.iload_n 3, 111, 0, 0, []), some (.ireturn, 112, 0, 0, [])]]
def m_X5_strike : MT := ((cd_X5_strike, 5, 0, 0, 1), (yX5_strike, cX5_strike, 5, (some .int)))
def cd_X5_readRing : List (List (Option Ent)) := [[some (.iconst 0, 1, 0, 0, []), some (.istore_n 2, 2, 0, 0, []), some (.iload_n 1, 3, 0, 0, []), some (.istore_n 3, 4, 0, 0, []), some (.iconst 0, 5, 0, 0, []), some (.istore 4, 7, 0, 0, []), none, some (.iload 4, 9, 0, 0, []), none, some (.aload_n 0, 10, 0, 0, []), some (.getfield 46, 13, 0, 0, []), none, none, some (.arraylength, 14, 0, 0, []), some (.if_icmp .ge 63, 17, 77, 0, []), none],
  [none, some (.iload_n 3, 18, 0, 0, []), some (.ifCond .le 59, 21, 77, 0, []), none, none, some (.iload_n 3, 22, 0, 0, []), some (.bipush 10, 24, 0, 10, []), none, some (.irem, 25, 0, 0, []), some (.iconst 1, 26, 0, 1, []), some (.isub, 27, 0, 0, []), some (.istore 5, 29, 0, 0, []), none, some (.aload_n 0, 30, 0, 0, []), some (.iload 5, 32, 0, 0, []), none],
  [some (.invokevirtual 83, 35, 0, 0, []), none, none, some (.ifCond .eq 13, 38, 48, 0, []), none, none, some (.iload_n 2, 39, 0, 0, []), some (.iload 5, 41, 0, 0, []), none, some (.ishr, 42, 0, 0, []), some (.iconst 1, 43, 0, 1, []), some (.iand, 44, 0, 0, []), some (.iconst 1, 45, 0, 1, []), some (.if_icmp .ne 5, 48, 50, 0, []), none, none],
  [some (.iconst 0, 49, 0, 0, []), some (.ireturn, 50, 0, 0, []), some (.aload_n 0, 51, 0, 0, []), some (.getfield 46, 54, 0, 0, []), none, none, some (.iload 4, 56, 0, 0, []), none, some (.iload 5, 58, 0, 0, []), none, some (.iastore, 59, 0, 0, []), some (.iload_n 2, 60, 0, 0, []), some (.iconst 1, 61, 0, 1, []), some (.iload 5, 63, 0, 0, []), none, some (.ishl, 64, 0, 0, [])],
  [some (.ior, 65, 0, 0, []), some (.istore_n 2, 66, 0, 0, []), some (.iload_n 3, 67, 0, 0, []), some (.bipush 10, 69, 0, 10, []), none, some (.idiv, 70, 0, 0, []), some (.istore_n 3, 71, 0, 0, []), some (.iinc 4 1, 74, 0, 1, []), none, none, some (.goto (-67), 77, 7, 0, []), none, none, some (.iload_n 3, 78, 0, 0, []), some (.ifCond .ne 8, 81, 86, 0, []), none],
  [none, some (.iload 4, 83, 0, 0, []), none, some (.goto 4, 86, 87, 0, []), none, none, some (.iconst 0, 87, 0, 0, []), some (.ireturn, 88, 0, 0, [])]]
def m_X5_readRing : MT := ((cd_X5_readRing, 5, 0, 0, 1), (yX5_readRing, cX5_readRing, 6, (some .int)))
def cd_X5_run : List (List (Option Ent)) := [[some (.iload_n 1, 1, 0, 0, []), some (.ifCond .lt 35, 4, 36, 0, []), none, none, some (.iload_n 1, 5, 0, 0, []), some (.bipush 40, 7, 0, 40, []), none, some (.if_icmp .gt 29, 10, 36, 0, []), none, none, some (.iload 4, 12, 0, 0, []), none, some (.ifCond .lt 24, 15, 36, 0, []), none, none, some (.iload 4, 17, 0, 0, [])],
  [none, some (.iconst 2, 18, 0, 2, []), some (.if_icmp .gt 18, 21, 36, 0, []), none, none, some (.iload 4, 23, 0, 0, []), none, some (.iconst 2, 24, 0, 2, []), some (.if_icmp .ne 15, 27, 39, 0, []), none, none, some (.aload_n 0, 28, 0, 0, []), some (.iload_n 2, 29, 0, 0, []), some (.iload_n 3, 30, 0, 0, []), some (.invokevirtual 99, 33, 0, 0, []), none],
  [none, some (.ifCond .ne 6, 36, 39, 0, []), none, none, some (.bipush (-2), 38, 0, (-2), []), none, some (.ireturn, 39, 0, 0, []), some (.aload_n 0, 40, 0, 0, []), some (.invokevirtual 160, 43, 0, 0, []), none, none, some (.astore 5, 45, 0, 0, []), none, some (.iconst 0, 46, 0, 0, []), some (.istore 6, 48, 0, 0, []), none],
  [some (.iload 6, 50, 0, 0, []), none, some (.iload_n 1, 51, 0, 0, []), some (.if_icmp .ge 15, 54, 66, 0, []), none, none, some (.aload 5, 56, 0, 0, []), none, some (.invokevirtual 141, 59, 0, 0, []), none, none, some (.pop, 60, 0, 0, []), some (.iinc 6 1, 63, 0, 1, []), none, none, some (.goto (-15), 66, 48, 0, [])],
  [none, none, some (.iload 4, 68, 0, 0, []), none, some (.lookupswitch 40 #[(0, 28), (1, 34)], 96, 108, 0, [(0, 96), (1, 102)]), none, none, none, none, none, none, none, none, none, none, none],
  [none, none, none, none, none, none, none, none, none, none, none, none, none, none, none, none],
  [some (.aload 5, 98, 0, 0, []), none, some (.invokevirtual 164, 101, 0, 0, []), none, none, some (.ireturn, 102, 0, 0, []), some (.aload 5, 104, 0, 0, []), none, some (.invokevirtual 167, 107, 0, 0, []), none, none, some (.ireturn, 108, 0, 0, []), some (.aload 5, 110, 0, 0, []), none, some (.iload_n 2, 111, 0, 0, []), some (.iload_n 3, 112, 0, 0, [])],
  [some (.invokevirtual 103, 115, 0, 0, []), none, none, some (.ireturn, 116, 0, 0, [])]]
def m_X5_run : MT := ((cd_X5_run, 5, 0, 0, 1), (yX5_run, cX5_run, 7, (some .int)))
def cd_X5_think : List (List (Option Ent)) := [[some (.aload_n 0, 1, 0, 0, []), some (.getfield 28, 4, 0, 0, []), none, none, some (.iconst 0, 5, 0, 0, []), some (.aaload, 6, 0, 0, []), some (.aload_n 0, 7, 0, 0, []), some (.getfield 21, 10, 0, 0, []), none, none, some (.invokevirtual 170, 13, 0, 0, []), none, none, some (.aload_n 0, 14, 0, 0, []), some (.getfield 28, 17, 0, 0, []), none],
  [none, some (.iconst 0, 18, 0, 0, []), some (.aaload, 19, 0, 0, []), some (.areturn, 20, 0, 0, [])]]
def m_X5_think : MT := ((cd_X5_think, 5, 0, 0, 3), (yX5_think, cX5_think, 1, (some (.object "DanceStillOwed$Floor"))))
def cd_X5_best : List (List (Option Ent)) := [[some (.iload_n 1, 1, 0, 0, []), some (.tableswitch 138 0 8 #[51, 66, 88, 93, 101, 106, 114, 122, 130], 52, 139, 0, [(0, 52), (1, 67), (2, 89), (3, 94), (4, 102), (5, 107), (6, 115), (7, 123), (8, 131)]), none, none, none, none, none, none, none, none, none, none, none, none, none, none],
  [none, none, none, none, none, none, none, none, none, none, none, none, none, none, none, none],
  [none, none, none, none, none, none, none, none, none, none, none, none, none, none, none, none],
  [none, none, none, none, some (.aload_n 0, 53, 0, 0, []), some (.getfield 21, 56, 0, 0, []), none, none, some (.invokevirtual 174, 59, 0, 0, []), none, none, some (.aload_n 0, 60, 0, 0, []), some (.getfield 21, 63, 0, 0, []), none, none, some (.invokevirtual 177, 66, 0, 0, [])],
  [none, none, some (.ireturn, 67, 0, 0, []), some (.aload_n 0, 68, 0, 0, []), some (.getfield 21, 71, 0, 0, []), none, none, some (.invokevirtual 174, 74, 0, 0, []), none, none, some (.aload_n 0, 75, 0, 0, []), some (.getfield 21, 78, 0, 0, []), none, none, some (.aload_n 0, 79, 0, 0, []), some (.getfield 21, 82, 0, 0, [])],
  [none, none, some (.invokevirtual 177, 85, 0, 0, []), none, none, some (.invokevirtual 180, 88, 0, 0, []), none, none, some (.ireturn, 89, 0, 0, []), some (.aload_n 0, 90, 0, 0, []), some (.invokevirtual 183, 93, 0, 0, []), none, none, some (.ireturn, 94, 0, 0, []), some (.aload_n 0, 95, 0, 0, []), some (.invokevirtual 160, 98, 0, 0, [])],
  [none, none, some (.invokevirtual 141, 101, 0, 0, []), none, none, some (.ireturn, 102, 0, 0, []), some (.aload_n 0, 103, 0, 0, []), some (.invokevirtual 186, 106, 0, 0, []), none, none, some (.ireturn, 107, 0, 0, []), some (.aload_n 0, 108, 0, 0, []), some (.getfield 21, 111, 0, 0, []), none, none, some (.invokevirtual 189, 114, 0, 0, [])],
  [none, none, some (.ireturn, 115, 0, 0, []), some (.aload_n 0, 116, 0, 0, []), some (.getfield 21, 119, 0, 0, []), none, none, some (.invokevirtual 192, 122, 0, 0, []), none, none, some (.ireturn, 123, 0, 0, []), some (.aload_n 0, 124, 0, 0, []), some (.invokevirtual 160, 127, 0, 0, []), none, none, some (.invokevirtual 194, 130, 0, 0, [])],
  [none, none, some (.ireturn, 131, 0, 0, []), some (.aload_n 0, 132, 0, 0, []), some (.getfield 21, 135, 0, 0, []), none, none, some (.invokevirtual 197, 138, 0, 0, []), none, none, some (.ireturn, 139, 0, 0, []), some (.bipush (-2), 141, 0, (-2), []), none, some (.ireturn, 142, 0, 0, [])]]
def m_X5_best : MT := ((cd_X5_best, 5, 0, 0, 1), (yX5_best, cX5_best, 2, (some .int)))
def cd_X5_share : List (List (Option Ent)) := [[some (.aload_n 0, 1, 0, 0, []), some (.getfield 21, 4, 0, 0, []), none, none, some (.invokevirtual 164, 7, 0, 0, []), none, none, some (.istore_n 3, 8, 0, 0, []), some (.aload_n 0, 9, 0, 0, []), some (.iload_n 1, 10, 0, 0, []), some (.invokevirtual 83, 13, 0, 0, []), none, none, some (.ifCond .eq 16, 16, 29, 0, []), none, none],
  [some (.iload_n 2, 17, 0, 0, []), some (.ifCond .lt 12, 20, 29, 0, []), none, none, some (.iload_n 2, 21, 0, 0, []), some (.iconst 1, 22, 0, 1, []), some (.if_icmp .gt 7, 25, 29, 0, []), none, none, some (.iload_n 3, 26, 0, 0, []), some (.ifCond .ne 7, 29, 33, 0, []), none, none, some (.ldc2_w 200, 32, 0, 0, []), none, none],
  [some (.lreturn, 33, 0, 0, []), some (.aload_n 0, 34, 0, 0, []), some (.getfield 21, 37, 0, 0, []), none, none, some (.iload_n 1, 38, 0, 0, []), some (.invokevirtual 93, 41, 0, 0, []), none, none, some (.iload_n 3, 42, 0, 0, []), some (.iload_n 2, 43, 0, 0, []), some (.invokestatic 202, 46, 0, 0, []), none, none, some (.lreturn, 47, 0, 0, [])]]
def m_X5_share : MT := ((cd_X5_share, 5, 0, 0, 2), (yX5_share, cX5_share, 4, (some .long)))
def cd_X5_sitters : List (List (Option Ent)) := [[some (.aload_n 0, 1, 0, 0, []), some (.invokevirtual 160, 4, 0, 0, []), none, none, some (.astore_n 1, 5, 0, 0, []), some (.aload_n 1, 6, 0, 0, []), some (.invokevirtual 141, 9, 0, 0, []), none, none, some (.pop, 10, 0, 0, []), some (.iconst 1, 11, 0, 1, []), some (.aload_n 1, 12, 0, 0, []), some (.getfield 77, 15, 0, 0, []), none, none, some (.ishl, 16, 0, 0, [])],
  [some (.iconst 1, 17, 0, 1, []), some (.isub, 18, 0, 0, []), some (.aload_n 1, 19, 0, 0, []), some (.getfield 206, 22, 0, 0, []), none, none, some (.iconst (-1), 23, 0, (-1), []), some (.ixor, 24, 0, 0, []), some (.iand, 25, 0, 0, []), some (.ireturn, 26, 0, 0, [])]]
def m_X5_sitters : MT := ((cd_X5_sitters, 5, 0, 0, 1), (yX5_sitters, cX5_sitters, 2, (some .int)))
def cd_X5_soonest : List (List (Option Ent)) := [[some (.aload_n 0, 1, 0, 0, []), some (.invokevirtual 160, 4, 0, 0, []), none, none, some (.pop, 5, 0, 0, []), some (.iconst 0, 6, 0, 0, []), some (.istore_n 1, 7, 0, 0, []), some (.iload_n 1, 8, 0, 0, []), some (.iconst 3, 9, 0, 3, []), some (.if_icmp .gt 20, 12, 29, 0, []), none, none, some (.aload_n 0, 13, 0, 0, []), some (.iconst 0, 14, 0, 0, []), some (.iload_n 1, 15, 0, 0, []), some (.invokevirtual 209, 18, 0, 0, [])],
  [none, none, some (.ifCond .eq 5, 21, 23, 0, []), none, none, some (.iload_n 1, 22, 0, 0, []), some (.ireturn, 23, 0, 0, []), some (.iinc 1 1, 26, 0, 1, []), none, none, some (.goto (-19), 29, 7, 0, []), none, none, some (.iconst (-1), 30, 0, (-1), []), some (.ireturn, 31, 0, 0, [])]]
def m_X5_soonest : MT := ((cd_X5_soonest, 5, 0, 0, 1), (yX5_soonest, cX5_soonest, 2, (some .int)))
def cd_X5_clears : List (List (Option Ent)) := [[some (.aload_n 0, 1, 0, 0, []), some (.getfield 28, 4, 0, 0, []), none, none, some (.iload_n 1, 5, 0, 0, []), some (.aaload, 6, 0, 0, []), some (.astore_n 3, 7, 0, 0, []), some (.aload_n 3, 8, 0, 0, []), some (.invokevirtual 164, 11, 0, 0, []), none, none, some (.istore 4, 13, 0, 0, []), none, some (.iload 4, 15, 0, 0, []), none, some (.ifCond .ne 5, 18, 20, 0, [])],
  [none, none, some (.iconst 1, 19, 0, 1, []), some (.ireturn, 20, 0, 0, []), some (.iload_n 2, 21, 0, 0, []), some (.aload_n 3, 22, 0, 0, []), some (.invokevirtual 212, 25, 0, 0, []), none, none, some (.if_icmp .ge 5, 28, 30, 0, []), none, none, some (.iconst 0, 29, 0, 0, []), some (.ireturn, 30, 0, 0, []), some (.aload_n 3, 31, 0, 0, []), some (.invokevirtual 174, 34, 0, 0, [])],
  [none, none, some (.iload_n 2, 35, 0, 0, []), some (.iconst 1, 36, 0, 1, []), some (.if_icmp .ne 22, 39, 58, 0, []), none, none, some (.aload_n 3, 40, 0, 0, []), some (.aload_n 3, 41, 0, 0, []), some (.invokevirtual 177, 44, 0, 0, []), none, none, some (.invokevirtual 180, 47, 0, 0, []), none, none, some (.iload 4, 49, 0, 0, [])],
  [none, some (.if_icmp .ne 7, 52, 56, 0, []), none, none, some (.iconst 1, 53, 0, 1, []), some (.goto 4, 56, 57, 0, []), none, none, some (.iconst 0, 57, 0, 0, []), some (.ireturn, 58, 0, 0, []), some (.iload_n 1, 59, 0, 0, []), some (.iconst 1, 60, 0, 1, []), some (.iadd, 61, 0, 0, []), some (.aload_n 0, 62, 0, 0, []), some (.getfield 28, 65, 0, 0, []), none],
  [none, some (.arraylength, 66, 0, 0, []), some (.if_icmp .lt 5, 69, 71, 0, []), none, none, some (.iconst 0, 70, 0, 0, []), some (.ireturn, 71, 0, 0, []), some (.aload_n 0, 72, 0, 0, []), some (.getfield 28, 75, 0, 0, []), none, none, some (.iload_n 1, 76, 0, 0, []), some (.iconst 1, 77, 0, 1, []), some (.iadd, 78, 0, 0, []), some (.aaload, 79, 0, 0, []), some (.astore 5, 81, 0, 0, [])],
  [none, some (.iconst 0, 82, 0, 0, []), some (.istore 6, 84, 0, 0, []), none, some (.iload 6, 86, 0, 0, []), none, some (.getstatic 215, 89, 0, 0, []), none, none, some (.arraylength, 90, 0, 0, []), some (.if_icmp .ge 55, 93, 145, 0, []), none, none, some (.aload_n 3, 94, 0, 0, []), some (.getstatic 215, 97, 0, 0, []), none],
  [none, some (.iload 6, 99, 0, 0, []), none, some (.iaload, 100, 0, 0, []), some (.invokevirtual 218, 103, 0, 0, []), none, none, some (.ifCond .eq 36, 106, 139, 0, []), none, none, some (.aload 5, 108, 0, 0, []), none, some (.aload_n 3, 109, 0, 0, []), some (.invokevirtual 170, 112, 0, 0, []), none, none],
  [some (.aload 5, 114, 0, 0, []), none, some (.getstatic 215, 117, 0, 0, []), none, none, some (.iload 6, 119, 0, 0, []), none, some (.iaload, 120, 0, 0, []), some (.aload_n 3, 121, 0, 0, []), some (.invokevirtual 221, 124, 0, 0, []), none, none, some (.aload_n 0, 125, 0, 0, []), some (.iload_n 1, 126, 0, 0, []), some (.iconst 1, 127, 0, 1, []), some (.iadd, 128, 0, 0, [])],
  [some (.iload_n 2, 129, 0, 0, []), some (.iconst 1, 130, 0, 1, []), some (.isub, 131, 0, 0, []), some (.invokevirtual 209, 134, 0, 0, []), none, none, some (.ifCond .eq 5, 137, 139, 0, []), none, none, some (.iconst 1, 138, 0, 1, []), some (.ireturn, 139, 0, 0, []), some (.iinc 6 1, 142, 0, 1, []), none, none, some (.goto (-58), 145, 84, 0, []), none],
  [none, some (.iconst 0, 146, 0, 0, []), some (.ireturn, 147, 0, 0, [])]]
def m_X5_clears : MT := ((cd_X5_clears, 5, 0, 0, 4), (yX5_clears, cX5_clears, 7, (some .boolean)))
def cd_X5_lowest : List (List (Option Ent)) := [[some (.iload_n 1, 1, 0, 0, []), some (.istore_n 3, 2, 0, 0, []), some (.iload_n 0, 3, 0, 0, []), some (.istore 4, 5, 0, 0, []), none, some (.iconst 0, 6, 0, 0, []), some (.istore 5, 8, 0, 0, []), none, some (.iload 5, 10, 0, 0, []), none, some (.bipush 64, 12, 0, 64, []), none, some (.if_icmp .ge 27, 15, 39, 0, []), none, none, some (.iload 4, 17, 0, 0, [])],
  [none, some (.ifCond .eq 22, 20, 39, 0, []), none, none, some (.iload_n 3, 21, 0, 0, []), some (.iload 4, 23, 0, 0, []), none, some (.irem, 24, 0, 0, []), some (.istore 6, 26, 0, 0, []), none, some (.iload 4, 28, 0, 0, []), none, some (.istore_n 3, 29, 0, 0, []), some (.iload 6, 31, 0, 0, []), none, some (.istore 4, 33, 0, 0, [])],
  [none, some (.iinc 5 1, 36, 0, 1, []), none, none, some (.goto (-28), 39, 8, 0, []), none, none, some (.iload_n 2, 40, 0, 0, []), some (.ifCond .ne 7, 43, 47, 0, []), none, none, some (.iload_n 0, 44, 0, 0, []), some (.goto 4, 47, 48, 0, []), none, none, some (.iload_n 1, 48, 0, 0, [])],
  [some (.istore 5, 50, 0, 0, []), none, some (.iload_n 3, 51, 0, 0, []), some (.ifCond .ne 9, 54, 60, 0, []), none, none, some (.iload 5, 56, 0, 0, []), none, some (.i2l, 57, 0, 0, []), some (.goto 8, 60, 65, 0, []), none, none, some (.iload 5, 62, 0, 0, []), none, some (.iload_n 3, 63, 0, 0, []), some (.idiv, 64, 0, 0, [])],
  [some (.i2l, 65, 0, 0, []), some (.lreturn, 66, 0, 0, [])]]
def m_X5_lowest : MT := ((cd_X5_lowest, 5, 0, 0, 2), (yX5_lowest, cX5_lowest, 7, (some .long)))
def cd_X5_tells : List (List (Option Ent)) := [[some (.iload_n 1, 1, 0, 0, []), some (.invokestatic 225, 4, 0, 0, []), none, none, some (.ifCond .eq 24, 7, 28, 0, []), none, none, some (.aload_n 0, 8, 0, 0, []), some (.iload_n 2, 9, 0, 0, []), some (.iload_n 3, 10, 0, 0, []), some (.invokevirtual 99, 13, 0, 0, []), none, none, some (.ifCond .eq 15, 16, 28, 0, []), none, none],
  [some (.iload 4, 18, 0, 0, []), none, some (.ifCond .lt 10, 21, 28, 0, []), none, none, some (.iload 4, 23, 0, 0, []), none, some (.bipush 8, 25, 0, 8, []), none, some (.if_icmp .le 6, 28, 31, 0, []), none, none, some (.bipush (-2), 30, 0, (-2), []), none, some (.ireturn, 31, 0, 0, []), some (.aload_n 0, 32, 0, 0, [])],
  [some (.getfield 42, 35, 0, 0, []), none, none, some (.iload_n 1, 36, 0, 0, []), some (.aaload, 37, 0, 0, []), some (.astore 5, 39, 0, 0, []), none, some (.aload 5, 41, 0, 0, []), none, some (.getfield 228, 44, 0, 0, []), none, none, some (.iconst (-1), 45, 0, (-1), []), some (.if_icmp .ne 6, 48, 51, 0, []), none, none],
  [some (.bipush (-11), 50, 0, (-11), []), none, some (.ireturn, 51, 0, 0, []), some (.aload 5, 53, 0, 0, []), none, some (.getfield 231, 56, 0, 0, []), none, none, some (.bipush 30, 58, 0, 30, []), none, some (.if_icmp .le 6, 61, 64, 0, []), none, none, some (.bipush (-2), 63, 0, (-2), []), none, some (.ireturn, 64, 0, 0, [])],
  [some (.iload 4, 66, 0, 0, []), none, some (.tableswitch 120 0 7 #[46, 57, 65, 73, 73, 92, 92, 112], 112, 186, 0, [(0, 112), (1, 123), (2, 131), (3, 139), (4, 139), (5, 158), (6, 158), (7, 178)]), none, none, none, none, none, none, none, none, none, none, none, none, none],
  [none, none, none, none, none, none, none, none, none, none, none, none, none, none, none, none],
  [none, none, none, none, none, none, none, none, none, none, none, none, none, none, none, none],
  [some (.aload_n 0, 113, 0, 0, []), some (.getfield 21, 116, 0, 0, []), none, none, some (.aload 5, 118, 0, 0, []), none, some (.iload_n 2, 119, 0, 0, []), some (.invokevirtual 232, 122, 0, 0, []), none, none, some (.ireturn, 123, 0, 0, []), some (.aload_n 0, 124, 0, 0, []), some (.aload 5, 126, 0, 0, []), none, some (.iload_n 2, 127, 0, 0, []), some (.invokevirtual 236, 130, 0, 0, [])],
  [none, none, some (.ireturn, 131, 0, 0, []), some (.aload_n 0, 132, 0, 0, []), some (.aload 5, 134, 0, 0, []), none, some (.iload_n 2, 135, 0, 0, []), some (.invokevirtual 239, 138, 0, 0, []), none, none, some (.ireturn, 139, 0, 0, []), some (.aload_n 0, 140, 0, 0, []), some (.aload 5, 142, 0, 0, []), none, some (.iload_n 2, 143, 0, 0, []), some (.iload 4, 145, 0, 0, [])],
  [none, some (.iconst 4, 146, 0, 4, []), some (.if_icmp .ne 7, 149, 153, 0, []), none, none, some (.iconst 1, 150, 0, 1, []), some (.goto 4, 153, 154, 0, []), none, none, some (.iconst 0, 154, 0, 0, []), some (.invokevirtual 242, 157, 0, 0, []), none, none, some (.ireturn, 158, 0, 0, []), some (.aload_n 0, 159, 0, 0, []), some (.aload 5, 161, 0, 0, [])],
  [none, some (.iload_n 2, 162, 0, 0, []), some (.iload 4, 164, 0, 0, []), none, some (.bipush 6, 166, 0, 6, []), none, some (.if_icmp .ne 7, 169, 173, 0, []), none, none, some (.iconst 1, 170, 0, 1, []), some (.goto 4, 173, 174, 0, []), none, none, some (.iconst 0, 174, 0, 0, []), some (.invokevirtual 246, 177, 0, 0, []), none],
  [none, some (.ireturn, 178, 0, 0, []), some (.aload_n 0, 179, 0, 0, []), some (.aload 5, 181, 0, 0, []), none, some (.iload_n 2, 182, 0, 0, []), some (.invokevirtual 249, 185, 0, 0, []), none, none, some (.ireturn, 186, 0, 0, []), some (.aload_n 0, 187, 0, 0, []), some (.aload 5, 189, 0, 0, []), none, some (.iload_n 3, 190, 0, 0, []), some (.invokevirtual 252, 193, 0, 0, []), none],
  [none, some (.ireturn, 194, 0, 0, [])]]
def m_X5_tells : MT := ((cd_X5_tells, 5, 0, 0, 1), (yX5_tells, cX5_tells, 6, (some .int)))
def cd_X5_kindsTold : List (List (Option Ent)) := [[some (.aload_n 0, 1, 0, 0, []), some (.invokevirtual 160, 4, 0, 0, []), none, none, some (.astore_n 3, 5, 0, 0, []), some (.iconst 0, 6, 0, 0, []), some (.istore 4, 8, 0, 0, []), none, some (.iconst 0, 9, 0, 0, []), some (.istore 5, 11, 0, 0, []), none, some (.iload 5, 13, 0, 0, []), none, some (.bipush 6, 15, 0, 6, []), none, some (.if_icmp .ge 35, 18, 50, 0, [])],
  [none, none, some (.aload_n 3, 19, 0, 0, []), some (.getfield 87, 22, 0, 0, []), none, none, some (.iload_n 2, 23, 0, 0, []), some (.iload 5, 25, 0, 0, []), none, some (.iastore, 26, 0, 0, []), some (.aload_n 3, 27, 0, 0, []), some (.aload_n 1, 28, 0, 0, []), some (.iload_n 2, 29, 0, 0, []), some (.invokevirtual 255, 32, 0, 0, []), none, none],
  [some (.ifCond .eq 12, 35, 44, 0, []), none, none, some (.iload 4, 37, 0, 0, []), none, some (.iconst 1, 38, 0, 1, []), some (.iload 5, 40, 0, 0, []), none, some (.ishl, 41, 0, 0, []), some (.ior, 42, 0, 0, []), some (.istore 4, 44, 0, 0, []), none, some (.iinc 5 1, 47, 0, 1, []), none, none, some (.goto (-36), 50, 11, 0, [])],
  [none, none, some (.iload 4, 52, 0, 0, []), none, some (.ireturn, 53, 0, 0, [])]]
def m_X5_kindsTold : MT := ((cd_X5_kindsTold, 5, 0, 0, 1), (yX5_kindsTold, cX5_kindsTold, 6, (some .int)))
def cd_X5_numbersTold : List (List (Option Ent)) := [[some (.aload_n 0, 1, 0, 0, []), some (.invokevirtual 160, 4, 0, 0, []), none, none, some (.astore_n 3, 5, 0, 0, []), some (.iconst 0, 6, 0, 0, []), some (.istore 4, 8, 0, 0, []), none, some (.iconst 0, 9, 0, 0, []), some (.istore 5, 11, 0, 0, []), none, some (.iload 5, 13, 0, 0, []), none, some (.bipush 9, 15, 0, 9, []), none, some (.if_icmp .gt 35, 18, 50, 0, [])],
  [none, none, some (.aload_n 3, 19, 0, 0, []), some (.getfield 64, 22, 0, 0, []), none, none, some (.iload_n 2, 23, 0, 0, []), some (.iload 5, 25, 0, 0, []), none, some (.iastore, 26, 0, 0, []), some (.aload_n 3, 27, 0, 0, []), some (.aload_n 1, 28, 0, 0, []), some (.iload_n 2, 29, 0, 0, []), some (.invokevirtual 255, 32, 0, 0, []), none, none],
  [some (.ifCond .eq 12, 35, 44, 0, []), none, none, some (.iload 4, 37, 0, 0, []), none, some (.iconst 1, 38, 0, 1, []), some (.iload 5, 40, 0, 0, []), none, some (.ishl, 41, 0, 0, []), some (.ior, 42, 0, 0, []), some (.istore 4, 44, 0, 0, []), none, some (.iinc 5 1, 47, 0, 1, []), none, none, some (.goto (-36), 50, 11, 0, [])],
  [none, none, some (.iload 4, 52, 0, 0, []), none, some (.ireturn, 53, 0, 0, [])]]
def m_X5_numbersTold : MT := ((cd_X5_numbersTold, 5, 0, 0, 1), (yX5_numbersTold, cX5_numbersTold, 6, (some .int)))
def cd_X5_roundsTold : List (List (Option Ent)) := [[some (.aload_n 0, 1, 0, 0, []), some (.invokevirtual 160, 4, 0, 0, []), none, none, some (.astore 4, 6, 0, 0, []), none, some (.iconst 0, 7, 0, 0, []), some (.istore 5, 9, 0, 0, []), none, some (.iconst 0, 10, 0, 0, []), some (.istore 6, 12, 0, 0, []), none, some (.iload 6, 14, 0, 0, []), none, some (.bipush 100, 16, 0, 100, []), none],
  [some (.if_icmp .ge 36, 19, 52, 0, []), none, none, some (.aload 4, 21, 0, 0, []), none, some (.iload 6, 23, 0, 0, []), none, some (.putfield 57, 26, 0, 0, []), none, none, some (.aload 4, 28, 0, 0, []), none, some (.aload_n 1, 29, 0, 0, []), some (.iload_n 2, 30, 0, 0, []), some (.invokevirtual 255, 33, 0, 0, []), none],
  [none, some (.ifCond .eq 13, 36, 46, 0, []), none, none, some (.iload_n 3, 37, 0, 0, []), some (.ifCond .eq 6, 40, 43, 0, []), none, none, some (.iload 6, 42, 0, 0, []), none, some (.ireturn, 43, 0, 0, []), some (.iinc 5 1, 46, 0, 1, []), none, none, some (.iinc 6 1, 49, 0, 1, []), none],
  [none, some (.goto (-37), 52, 12, 0, []), none, none, some (.iload_n 3, 53, 0, 0, []), some (.ifCond .eq 7, 56, 60, 0, []), none, none, some (.iconst (-1), 57, 0, (-1), []), some (.goto 5, 60, 62, 0, []), none, none, some (.iload 5, 62, 0, 0, []), none, some (.ireturn, 63, 0, 0, [])]]
def m_X5_roundsTold : MT := ((cd_X5_roundsTold, 5, 0, 0, 1), (yX5_roundsTold, cX5_roundsTold, 7, (some .int)))
def cd_X5_donesTold : List (List (Option Ent)) := [[some (.aload_n 0, 1, 0, 0, []), some (.invokevirtual 160, 4, 0, 0, []), none, none, some (.astore 4, 6, 0, 0, []), none, some (.iconst 0, 7, 0, 0, []), some (.istore 5, 9, 0, 0, []), none, some (.iconst 0, 10, 0, 0, []), some (.istore 6, 12, 0, 0, []), none, some (.iload 6, 14, 0, 0, []), none, some (.bipush 100, 16, 0, 100, []), none],
  [some (.if_icmp .ge 38, 19, 54, 0, []), none, none, some (.aload 4, 21, 0, 0, []), none, some (.getfield 67, 24, 0, 0, []), none, none, some (.iload_n 2, 25, 0, 0, []), some (.iload 6, 27, 0, 0, []), none, some (.iastore, 28, 0, 0, []), some (.aload 4, 30, 0, 0, []), none, some (.aload_n 1, 31, 0, 0, []), some (.iload_n 2, 32, 0, 0, [])],
  [some (.invokevirtual 255, 35, 0, 0, []), none, none, some (.ifCond .eq 13, 38, 48, 0, []), none, none, some (.iload_n 3, 39, 0, 0, []), some (.ifCond .eq 6, 42, 45, 0, []), none, none, some (.iload 6, 44, 0, 0, []), none, some (.ireturn, 45, 0, 0, []), some (.iinc 5 1, 48, 0, 1, []), none, none],
  [some (.iinc 6 1, 51, 0, 1, []), none, none, some (.goto (-39), 54, 12, 0, []), none, none, some (.iload_n 3, 55, 0, 0, []), some (.ifCond .eq 7, 58, 62, 0, []), none, none, some (.iconst (-1), 59, 0, (-1), []), some (.goto 5, 62, 64, 0, []), none, none, some (.iload 5, 64, 0, 0, []), none],
  [some (.ireturn, 65, 0, 0, [])]]
def m_X5_donesTold : MT := ((cd_X5_donesTold, 5, 0, 0, 1), (yX5_donesTold, cX5_donesTold, 7, (some .int)))
def cd_X5_textsTold : List (List (Option Ent)) := [[some (.aload_n 0, 1, 0, 0, []), some (.invokevirtual 160, 4, 0, 0, []), none, none, some (.astore_n 3, 5, 0, 0, []), some (.iconst 0, 6, 0, 0, []), some (.istore 4, 8, 0, 0, []), none, some (.iconst 0, 9, 0, 0, []), some (.istore 5, 11, 0, 0, []), none, some (.iload 5, 13, 0, 0, []), none, some (.aload_n 0, 14, 0, 0, []), some (.getfield 10, 17, 0, 0, []), none],
  [none, some (.getfield 121, 20, 0, 0, []), none, none, some (.if_icmp .ge 33, 23, 53, 0, []), none, none, some (.aload_n 3, 24, 0, 0, []), some (.iload 5, 26, 0, 0, []), none, some (.putfield 135, 29, 0, 0, []), none, none, some (.aload_n 3, 30, 0, 0, []), some (.aload_n 1, 31, 0, 0, []), some (.iload_n 2, 32, 0, 0, [])],
  [some (.invokevirtual 255, 35, 0, 0, []), none, none, some (.ifCond .eq 12, 38, 47, 0, []), none, none, some (.iload 4, 40, 0, 0, []), none, some (.iconst 1, 41, 0, 1, []), some (.iload 5, 43, 0, 0, []), none, some (.ishl, 44, 0, 0, []), some (.ior, 45, 0, 0, []), some (.istore 4, 47, 0, 0, []), none, some (.iinc 5 1, 50, 0, 1, [])],
  [none, none, some (.goto (-39), 53, 11, 0, []), none, none, some (.iload 4, 55, 0, 0, []), none, some (.ireturn, 56, 0, 0, [])]]
def m_X5_textsTold : MT := ((cd_X5_textsTold, 5, 0, 0, 1), (yX5_textsTold, cX5_textsTold, 6, (some .int)))
def cd_X5_dancersTold : List (List (Option Ent)) := [[some (.iconst 0, 1, 0, 0, []), some (.istore_n 3, 2, 0, 0, []), some (.iconst 0, 3, 0, 0, []), some (.istore 4, 5, 0, 0, []), none, some (.iload 4, 7, 0, 0, []), none, some (.aload_n 0, 8, 0, 0, []), some (.getfield 21, 11, 0, 0, []), none, none, some (.getfield 77, 14, 0, 0, []), none, none, some (.if_icmp .ge 35, 17, 49, 0, []), none],
  [none, some (.iload 4, 19, 0, 0, []), none, some (.iload_n 2, 20, 0, 0, []), some (.if_icmp .eq 23, 23, 43, 0, []), none, none, some (.aload_n 0, 24, 0, 0, []), some (.getfield 21, 27, 0, 0, []), none, none, some (.aload_n 1, 28, 0, 0, []), some (.iload 4, 30, 0, 0, []), none, some (.invokevirtual 255, 33, 0, 0, []), none],
  [none, some (.ifCond .eq 10, 36, 43, 0, []), none, none, some (.iload_n 3, 37, 0, 0, []), some (.iconst 1, 38, 0, 1, []), some (.iload 4, 40, 0, 0, []), none, some (.ishl, 41, 0, 0, []), some (.ior, 42, 0, 0, []), some (.istore_n 3, 43, 0, 0, []), some (.iinc 4 1, 46, 0, 1, []), none, none, some (.goto (-41), 49, 5, 0, []), none],
  [none, some (.iload_n 3, 50, 0, 0, []), some (.ireturn, 51, 0, 0, [])]]
def m_X5_dancersTold : MT := ((cd_X5_dancersTold, 5, 0, 0, 1), (yX5_dancersTold, cX5_dancersTold, 5, (some .int)))
def cd_X5_film : List (List (Option Ent)) := [[some (.iload_n 1, 1, 0, 0, []), some (.invokestatic 225, 4, 0, 0, []), none, none, some (.ifCond .eq 24, 7, 28, 0, []), none, none, some (.aload_n 0, 8, 0, 0, []), some (.iload_n 2, 9, 0, 0, []), some (.iload_n 3, 10, 0, 0, []), some (.invokevirtual 99, 13, 0, 0, []), none, none, some (.ifCond .eq 15, 16, 28, 0, []), none, none],
  [some (.iload 4, 18, 0, 0, []), none, some (.ifCond .lt 10, 21, 28, 0, []), none, none, some (.iload 4, 23, 0, 0, []), none, some (.bipush 30, 25, 0, 30, []), none, some (.if_icmp .le 6, 28, 31, 0, []), none, none, some (.bipush (-2), 30, 0, (-2), []), none, some (.ireturn, 31, 0, 0, []), some (.aload_n 0, 32, 0, 0, [])],
  [some (.getfield 42, 35, 0, 0, []), none, none, some (.iload_n 1, 36, 0, 0, []), some (.aaload, 37, 0, 0, []), some (.astore 5, 39, 0, 0, []), none, some (.aload 5, 41, 0, 0, []), none, some (.iconst 0, 42, 0, 0, []), some (.iload 4, 44, 0, 0, []), none, some (.invokevirtual 259, 47, 0, 0, []), none, none, some (.iconst 0, 48, 0, 0, [])],
  [some (.istore 6, 50, 0, 0, []), none, some (.iconst 0, 51, 0, 0, []), some (.istore 7, 53, 0, 0, []), none, some (.iload 7, 55, 0, 0, []), none, some (.iload 4, 57, 0, 0, []), none, some (.if_icmp .ge 37, 60, 94, 0, []), none, none, some (.aload_n 0, 61, 0, 0, []), some (.getfield 21, 64, 0, 0, []), none, none],
  [some (.iload_n 2, 65, 0, 0, []), some (.iload 7, 67, 0, 0, []), none, some (.invokevirtual 106, 70, 0, 0, []), none, none, some (.istore 8, 72, 0, 0, []), none, some (.aload 5, 74, 0, 0, []), none, some (.iload 7, 76, 0, 0, []), none, some (.iload 8, 78, 0, 0, []), none, some (.invokevirtual 263, 81, 0, 0, []), none],
  [none, some (.iload 6, 83, 0, 0, []), none, some (.iload 8, 85, 0, 0, []), none, some (.iadd, 86, 0, 0, []), some (.istore 6, 88, 0, 0, []), none, some (.iinc 7 1, 91, 0, 1, []), none, none, some (.goto (-38), 94, 53, 0, []), none, none, some (.iload 6, 96, 0, 0, []), none],
  [some (.ireturn, 97, 0, 0, [])]]
def m_X5_film : MT := ((cd_X5_film, 5, 0, 0, 1), (yX5_film, cX5_film, 9, (some .int)))
def cd_X5_drawn : List (List (Option Ent)) := [[some (.aload_n 0, 1, 0, 0, []), some (.invokevirtual 160, 4, 0, 0, []), none, none, some (.astore_n 2, 5, 0, 0, []), some (.aload_n 2, 6, 0, 0, []), some (.iload_n 1, 7, 0, 0, []), some (.invokevirtual 266, 10, 0, 0, []), none, none, some (.aload_n 2, 11, 0, 0, []), some (.invokevirtual 194, 14, 0, 0, []), none, none, some (.ireturn, 15, 0, 0, [])]]
def m_X5_drawn : MT := ((cd_X5_drawn, 5, 0, 0, 1), (yX5_drawn, cX5_drawn, 3, (some .int)))
def cd_X5_chance : List (List (Option Ent)) := [[some (.iload_n 2, 1, 0, 0, []), some (.iconst 1, 2, 0, 1, []), some (.if_icmp .lt 30, 5, 32, 0, []), none, none, some (.iload_n 2, 6, 0, 0, []), some (.bipush 10, 8, 0, 10, []), none, some (.if_icmp .gt 24, 11, 32, 0, []), none, none, some (.iload_n 3, 12, 0, 0, []), some (.ifCond .lt 20, 15, 32, 0, []), none, none, some (.iload_n 3, 16, 0, 0, [])],
  [some (.bipush 61, 18, 0, 61, []), none, some (.if_icmp .gt 14, 21, 32, 0, []), none, none, some (.iload 4, 23, 0, 0, []), none, some (.ifCond .lt 9, 26, 32, 0, []), none, none, some (.iload 4, 28, 0, 0, []), none, some (.iconst 1, 29, 0, 1, []), some (.if_icmp .le 7, 32, 36, 0, []), none, none],
  [some (.ldc2_w 200, 35, 0, 0, []), none, none, some (.lreturn, 36, 0, 0, []), some (.iconst 0, 37, 0, 0, []), some (.istore 5, 39, 0, 0, []), none, some (.iconst 0, 40, 0, 0, []), some (.istore 6, 42, 0, 0, []), none, some (.iload 6, 44, 0, 0, []), none, some (.iload_n 2, 45, 0, 0, []), some (.if_icmp .ge 51, 48, 96, 0, []), none, none],
  [some (.aload_n 0, 49, 0, 0, []), some (.invokevirtual 160, 52, 0, 0, []), none, none, some (.astore 7, 54, 0, 0, []), none, some (.aload 7, 56, 0, 0, []), none, some (.iload_n 1, 57, 0, 0, []), some (.iload 6, 59, 0, 0, []), none, some (.iadd, 60, 0, 0, []), some (.invokevirtual 266, 63, 0, 0, []), none, none, some (.aload 7, 65, 0, 0, [])],
  [none, some (.invokevirtual 194, 68, 0, 0, []), none, none, some (.istore 8, 70, 0, 0, []), none, some (.iload 8, 72, 0, 0, []), none, some (.iconst (-1), 73, 0, (-1), []), some (.if_icmp .ne 8, 76, 81, 0, []), none, none, some (.bipush 61, 78, 0, 61, []), none, some (.goto 5, 81, 83, 0, []), none],
  [none, some (.iload 8, 83, 0, 0, []), none, some (.iload_n 3, 84, 0, 0, []), some (.if_icmp .gt 6, 87, 90, 0, []), none, none, some (.iinc 5 1, 90, 0, 1, []), none, none, some (.iinc 6 1, 93, 0, 1, []), none, none, some (.goto (-51), 96, 42, 0, []), none, none],
  [some (.iload 5, 98, 0, 0, []), none, some (.iload_n 2, 99, 0, 0, []), some (.iload 4, 101, 0, 0, []), none, some (.invokestatic 202, 104, 0, 0, []), none, none, some (.lreturn, 105, 0, 0, [])]]
def m_X5_chance : MT := ((cd_X5_chance, 5, 0, 0, 2), (yX5_chance, cX5_chance, 9, (some .long)))
def cd_X5_image : List (List (Option Ent)) := [[some (.aload_n 0, 1, 0, 0, []), some (.getfield 25, 4, 0, 0, []), none, none, some (.aload_n 0, 5, 0, 0, []), some (.getfield 21, 8, 0, 0, []), none, none, some (.invokevirtual 170, 11, 0, 0, []), none, none, some (.aload_n 0, 12, 0, 0, []), some (.iconst 1, 13, 0, 1, []), some (.putfield 270, 16, 0, 0, []), none, none],
  [some (.aload_n 0, 17, 0, 0, []), some (.getfield 25, 20, 0, 0, []), none, none, some (.getfield 77, 23, 0, 0, []), none, none, some (.ireturn, 24, 0, 0, [])]]
def m_X5_image : MT := ((cd_X5_image, 5, 0, 0, 1), (yX5_image, cX5_image, 1, (some .int)))
def cd_X5_back : List (List (Option Ent)) := [[some (.aload_n 0, 1, 0, 0, []), some (.getfield 270, 4, 0, 0, []), none, none, some (.ifCond .ne 6, 7, 10, 0, []), none, none, some (.bipush (-3), 9, 0, (-3), []), none, some (.ireturn, 10, 0, 0, []), some (.aload_n 0, 11, 0, 0, []), some (.getfield 21, 14, 0, 0, []), none, none, some (.aload_n 0, 15, 0, 0, []), some (.getfield 25, 18, 0, 0, [])],
  [none, none, some (.invokevirtual 170, 21, 0, 0, []), none, none, some (.aload_n 0, 22, 0, 0, []), some (.getfield 21, 25, 0, 0, []), none, none, some (.getfield 77, 28, 0, 0, []), none, none, some (.ireturn, 29, 0, 0, [])]]
def m_X5_back : MT := ((cd_X5_back, 5, 0, 0, 1), (yX5_back, cX5_back, 1, (some .int)))
def cd_X5_count : List (List (Option Ent)) := [[some (.iload_n 1, 1, 0, 0, []), some (.tableswitch 87 0 5 #[39, 47, 55, 63, 71, 79], 40, 88, 0, [(0, 40), (1, 48), (2, 56), (3, 64), (4, 72), (5, 80)]), none, none, none, none, none, none, none, none, none, none, none, none, none, none],
  [none, none, none, none, none, none, none, none, none, none, none, none, none, none, none, none],
  [none, none, none, none, none, none, none, none, some (.aload_n 0, 41, 0, 0, []), some (.getfield 21, 44, 0, 0, []), none, none, some (.getfield 77, 47, 0, 0, []), none, none, some (.ireturn, 48, 0, 0, [])],
  [some (.aload_n 0, 49, 0, 0, []), some (.getfield 21, 52, 0, 0, []), none, none, some (.invokevirtual 164, 55, 0, 0, []), none, none, some (.ireturn, 56, 0, 0, []), some (.aload_n 0, 57, 0, 0, []), some (.getfield 21, 60, 0, 0, []), none, none, some (.getfield 57, 63, 0, 0, []), none, none, some (.ireturn, 64, 0, 0, [])],
  [some (.aload_n 0, 65, 0, 0, []), some (.getfield 10, 68, 0, 0, []), none, none, some (.getfield 121, 71, 0, 0, []), none, none, some (.ireturn, 72, 0, 0, []), some (.aload_n 0, 73, 0, 0, []), some (.getfield 35, 76, 0, 0, []), none, none, some (.getfield 118, 79, 0, 0, []), none, none, some (.ireturn, 80, 0, 0, [])],
  [some (.aload_n 0, 81, 0, 0, []), some (.getfield 21, 84, 0, 0, []), none, none, some (.getfield 135, 87, 0, 0, []), none, none, some (.ireturn, 88, 0, 0, []), some (.bipush (-2), 90, 0, (-2), []), none, some (.ireturn, 91, 0, 0, [])]]
def m_X5_count : MT := ((cd_X5_count, 5, 0, 0, 1), (yX5_count, cX5_count, 2, (some .int)))
def cd_X5_sheet : List (List (Option Ent)) := [[some (.iload_n 1, 1, 0, 0, []), some (.invokestatic 225, 4, 0, 0, []), none, none, some (.ifCond .eq 15, 7, 19, 0, []), none, none, some (.iload_n 2, 8, 0, 0, []), some (.iconst (-1), 9, 0, (-1), []), some (.if_icmp .eq 13, 12, 22, 0, []), none, none, some (.iload_n 2, 13, 0, 0, []), some (.invokestatic 274, 16, 0, 0, []), none, none],
  [some (.ifCond .ne 6, 19, 22, 0, []), none, none, some (.bipush (-2), 21, 0, (-2), []), none, some (.ireturn, 22, 0, 0, []), some (.iload_n 2, 23, 0, 0, []), some (.iconst (-1), 24, 0, (-1), []), some (.if_icmp .ne 16, 27, 40, 0, []), none, none, some (.aload_n 0, 28, 0, 0, []), some (.getfield 42, 31, 0, 0, []), none, none, some (.iload_n 1, 32, 0, 0, [])],
  [some (.aaload, 33, 0, 0, []), some (.iconst (-1), 34, 0, (-1), []), some (.iconst 0, 35, 0, 0, []), some (.invokevirtual 259, 38, 0, 0, []), none, none, some (.iconst 1, 39, 0, 1, []), some (.ireturn, 40, 0, 0, []), some (.iload_n 3, 41, 0, 0, []), some (.bipush 40, 43, 0, 40, []), none, some (.if_icmp .le 6, 46, 49, 0, []), none, none, some (.bipush (-2), 48, 0, (-2), []), none],
  [some (.ireturn, 49, 0, 0, []), some (.iload_n 3, 50, 0, 0, []), some (.ifCond .ge 6, 53, 56, 0, []), none, none, some (.bipush (-14), 55, 0, (-14), []), none, some (.ireturn, 56, 0, 0, []), some (.aload_n 0, 57, 0, 0, []), some (.getfield 42, 60, 0, 0, []), none, none, some (.iload_n 1, 61, 0, 0, []), some (.aaload, 62, 0, 0, []), some (.iload_n 2, 63, 0, 0, []), some (.iload_n 3, 64, 0, 0, [])],
  [some (.invokevirtual 259, 67, 0, 0, []), none, none, some (.iconst 1, 68, 0, 1, []), some (.ireturn, 69, 0, 0, [])]]
def m_X5_sheet : MT := ((cd_X5_sheet, 5, 0, 0, 1), (yX5_sheet, cX5_sheet, 4, (some .int)))
def cd_X5_cell : List (List (Option Ent)) := [[some (.iload_n 1, 1, 0, 0, []), some (.invokestatic 225, 4, 0, 0, []), none, none, some (.ifCond .ne 6, 7, 10, 0, []), none, none, some (.bipush (-2), 9, 0, (-2), []), none, some (.ireturn, 10, 0, 0, []), some (.aload_n 0, 11, 0, 0, []), some (.getfield 42, 14, 0, 0, []), none, none, some (.iload_n 1, 15, 0, 0, []), some (.aaload, 16, 0, 0, [])],
  [some (.astore 4, 18, 0, 0, []), none, some (.aload 4, 20, 0, 0, []), none, some (.getfield 228, 23, 0, 0, []), none, none, some (.iconst (-1), 24, 0, (-1), []), some (.if_icmp .ne 6, 27, 30, 0, []), none, none, some (.bipush (-11), 29, 0, (-11), []), none, some (.ireturn, 30, 0, 0, []), some (.aload 4, 32, 0, 0, []), none],
  [some (.iload_n 2, 33, 0, 0, []), some (.iconst 1, 34, 0, 1, []), some (.invokevirtual 277, 37, 0, 0, []), none, none, some (.ifCond .ne 6, 40, 43, 0, []), none, none, some (.bipush (-12), 42, 0, (-12), []), none, some (.ireturn, 43, 0, 0, []), some (.aload 4, 45, 0, 0, []), none, some (.iload_n 2, 46, 0, 0, []), some (.iload_n 3, 47, 0, 0, []), some (.invokevirtual 263, 50, 0, 0, [])],
  [none, none, some (.iconst 1, 51, 0, 1, []), some (.ireturn, 52, 0, 0, [])]]
def m_X5_cell : MT := ((cd_X5_cell, 5, 0, 0, 1), (yX5_cell, cX5_cell, 5, (some .int)))
def cd_X5_copy : List (List (Option Ent)) := [[some (.iload_n 1, 1, 0, 0, []), some (.invokestatic 225, 4, 0, 0, []), none, none, some (.ifCond .eq 10, 7, 14, 0, []), none, none, some (.iload_n 3, 8, 0, 0, []), some (.invokestatic 225, 11, 0, 0, []), none, none, some (.ifCond .ne 6, 14, 17, 0, []), none, none, some (.bipush (-2), 16, 0, (-2), []), none],
  [some (.ireturn, 17, 0, 0, []), some (.aload_n 0, 18, 0, 0, []), some (.getfield 42, 21, 0, 0, []), none, none, some (.iload_n 1, 22, 0, 0, []), some (.aaload, 23, 0, 0, []), some (.astore 6, 25, 0, 0, []), none, some (.aload_n 0, 26, 0, 0, []), some (.getfield 42, 29, 0, 0, []), none, none, some (.iload_n 3, 30, 0, 0, []), some (.aaload, 31, 0, 0, []), some (.astore 7, 33, 0, 0, [])],
  [none, some (.aload 6, 35, 0, 0, []), none, some (.getfield 228, 38, 0, 0, []), none, none, some (.iconst (-1), 39, 0, (-1), []), some (.if_icmp .eq 12, 42, 51, 0, []), none, none, some (.aload 7, 44, 0, 0, []), none, some (.getfield 228, 47, 0, 0, []), none, none, some (.iconst (-1), 48, 0, (-1), [])],
  [some (.if_icmp .ne 6, 51, 54, 0, []), none, none, some (.bipush (-11), 53, 0, (-11), []), none, some (.ireturn, 54, 0, 0, []), some (.aload 6, 56, 0, 0, []), none, some (.getfield 228, 59, 0, 0, []), none, none, some (.aload 7, 61, 0, 0, []), none, some (.getfield 228, 64, 0, 0, []), none, none],
  [some (.if_icmp .eq 6, 67, 70, 0, []), none, none, some (.bipush (-13), 69, 0, (-13), []), none, some (.ireturn, 70, 0, 0, []), some (.aload 6, 72, 0, 0, []), none, some (.iload_n 2, 73, 0, 0, []), some (.iload 5, 75, 0, 0, []), none, some (.invokevirtual 277, 78, 0, 0, []), none, none, some (.ifCond .eq 15, 81, 93, 0, []), none],
  [none, some (.aload 7, 83, 0, 0, []), none, some (.iload 4, 85, 0, 0, []), none, some (.iload 5, 87, 0, 0, []), none, some (.invokevirtual 277, 90, 0, 0, []), none, none, some (.ifCond .ne 6, 93, 96, 0, []), none, none, some (.bipush (-12), 95, 0, (-12), []), none, some (.ireturn, 96, 0, 0, [])],
  [some (.aload 6, 98, 0, 0, []), none, some (.getfield 280, 101, 0, 0, []), none, none, some (.iload_n 2, 102, 0, 0, []), some (.aload 7, 104, 0, 0, []), none, some (.getfield 280, 107, 0, 0, []), none, none, some (.iload 4, 109, 0, 0, []), none, some (.iload 5, 111, 0, 0, []), none, some (.invokestatic 283, 114, 0, 0, [])],
  [none, none, some (.iload 5, 116, 0, 0, []), none, some (.ireturn, 117, 0, 0, [])]]
def m_X5_copy : MT := ((cd_X5_copy, 5, 0, 0, 1), (yX5_copy, cX5_copy, 8, (some .int)))
def cd_X5_room : List (List (Option Ent)) := [[some (.iload_n 1, 1, 0, 0, []), some (.invokestatic 225, 4, 0, 0, []), none, none, some (.ifCond .eq 21, 7, 25, 0, []), none, none, some (.iload_n 2, 8, 0, 0, []), some (.invokestatic 274, 11, 0, 0, []), none, none, some (.ifCond .eq 14, 14, 25, 0, []), none, none, some (.iload 4, 16, 0, 0, []), none],
  [some (.ifCond .lt 9, 19, 25, 0, []), none, none, some (.iload 4, 21, 0, 0, []), none, some (.iconst 5, 22, 0, 5, []), some (.if_icmp .le 6, 25, 28, 0, []), none, none, some (.bipush (-2), 27, 0, (-2), []), none, some (.ireturn, 28, 0, 0, []), some (.aload_n 0, 29, 0, 0, []), some (.getfield 42, 32, 0, 0, []), none, none],
  [some (.iload_n 1, 33, 0, 0, []), some (.aaload, 34, 0, 0, []), some (.astore 5, 36, 0, 0, []), none, some (.aload 5, 38, 0, 0, []), none, some (.getfield 228, 41, 0, 0, []), none, none, some (.iconst (-1), 42, 0, (-1), []), some (.if_icmp .ne 6, 45, 48, 0, []), none, none, some (.bipush (-11), 47, 0, (-11), []), none, some (.ireturn, 48, 0, 0, [])],
  [some (.aload 5, 50, 0, 0, []), none, some (.getfield 228, 53, 0, 0, []), none, none, some (.iload_n 2, 54, 0, 0, []), some (.if_icmp .eq 6, 57, 60, 0, []), none, none, some (.bipush (-13), 59, 0, (-13), []), none, some (.ireturn, 60, 0, 0, []), some (.iconst 0, 61, 0, 0, []), some (.istore 6, 63, 0, 0, []), none, some (.iconst 0, 64, 0, 0, [])],
  [some (.istore 7, 66, 0, 0, []), none, some (.iload 7, 68, 0, 0, []), none, some (.iload 4, 70, 0, 0, []), none, some (.if_icmp .ge 59, 73, 129, 0, []), none, none, some (.iload_n 3, 74, 0, 0, []), some (.iconst 2, 75, 0, 2, []), some (.iload 7, 77, 0, 0, []), none, some (.imul, 78, 0, 0, []), some (.iadd, 79, 0, 0, []), some (.istore 8, 81, 0, 0, [])],
  [none, some (.aload 5, 83, 0, 0, []), none, some (.iload 8, 85, 0, 0, []), none, some (.iconst 2, 86, 0, 2, []), some (.invokevirtual 277, 89, 0, 0, []), none, none, some (.ifCond .ne 6, 92, 95, 0, []), none, none, some (.bipush (-12), 94, 0, (-12), []), none, some (.ireturn, 95, 0, 0, []), some (.aload_n 0, 96, 0, 0, [])],
  [some (.aload 5, 98, 0, 0, []), none, some (.getfield 280, 101, 0, 0, []), none, none, some (.iload 8, 103, 0, 0, []), none, some (.iaload, 104, 0, 0, []), some (.aload 5, 106, 0, 0, []), none, some (.getfield 280, 109, 0, 0, []), none, none, some (.iload 8, 111, 0, 0, []), none, some (.iconst 1, 112, 0, 1, [])],
  [some (.iadd, 113, 0, 0, []), some (.iaload, 114, 0, 0, []), some (.invokevirtual 289, 117, 0, 0, []), none, none, some (.ifCond .lt 6, 120, 123, 0, []), none, none, some (.iinc 6 1, 123, 0, 1, []), none, none, some (.iinc 7 1, 126, 0, 1, []), none, none, some (.goto (-60), 129, 66, 0, []), none],
  [none, some (.iload 6, 131, 0, 0, []), none, some (.ireturn, 132, 0, 0, [])]]
def m_X5_room : MT := ((cd_X5_room, 5, 0, 0, 1), (yX5_room, cX5_room, 9, (some .int)))
def cd_X5_taken : List (List (Option Ent)) := [[some (.iload_n 2, 1, 0, 0, []), some (.ifCond .lt 9, 4, 10, 0, []), none, none, some (.iload_n 2, 5, 0, 0, []), some (.bipush 6, 7, 0, 6, []), none, some (.if_icmp .lt 6, 10, 13, 0, []), none, none, some (.bipush (-2), 12, 0, (-2), []), none, some (.ireturn, 13, 0, 0, []), some (.aload_n 0, 14, 0, 0, []), some (.iload_n 1, 15, 0, 0, []), some (.invokevirtual 83, 18, 0, 0, [])],
  [none, none, some (.ifCond .ne 6, 21, 24, 0, []), none, none, some (.bipush (-11), 23, 0, (-11), []), none, some (.ireturn, 24, 0, 0, []), some (.aload_n 0, 25, 0, 0, []), some (.getfield 21, 28, 0, 0, []), none, none, some (.getfield 87, 31, 0, 0, []), none, none, some (.iload_n 1, 32, 0, 0, [])],
  [some (.iaload, 33, 0, 0, []), some (.istore_n 3, 34, 0, 0, []), some (.iconst 0, 35, 0, 0, []), some (.istore 4, 37, 0, 0, []), none, some (.iload 4, 39, 0, 0, []), none, some (.bipush 6, 41, 0, 6, []), none, some (.if_icmp .ge 34, 44, 75, 0, []), none, none, some (.iload_n 3, 45, 0, 0, []), some (.ifCond .lt 30, 48, 75, 0, []), none, none],
  [some (.iload_n 3, 49, 0, 0, []), some (.iload_n 2, 50, 0, 0, []), some (.if_icmp .ne 13, 53, 63, 0, []), none, none, some (.aload_n 0, 54, 0, 0, []), some (.getfield 21, 57, 0, 0, []), none, none, some (.getfield 64, 60, 0, 0, []), none, none, some (.iload_n 1, 61, 0, 0, []), some (.iaload, 62, 0, 0, []), some (.ireturn, 63, 0, 0, []), some (.getstatic 292, 66, 0, 0, [])],
  [none, none, some (.iload_n 3, 67, 0, 0, []), some (.iaload, 68, 0, 0, []), some (.istore_n 3, 69, 0, 0, []), some (.iinc 4 1, 72, 0, 1, []), none, none, some (.goto (-35), 75, 37, 0, []), none, none, some (.bipush (-13), 77, 0, (-13), []), none, some (.ireturn, 78, 0, 0, [])]]
def m_X5_taken : MT := ((cd_X5_taken, 5, 0, 0, 1), (yX5_taken, cX5_taken, 5, (some .int)))
def cd_X5_isSheet : List (List (Option Ent)) := [[some (.iload_n 0, 1, 0, 0, []), some (.ifCond .lt 12, 4, 13, 0, []), none, none, some (.iload_n 0, 5, 0, 0, []), some (.iconst 4, 6, 0, 4, []), some (.if_icmp .ge 7, 9, 13, 0, []), none, none, some (.iconst 1, 10, 0, 1, []), some (.goto 4, 13, 14, 0, []), none, none, some (.iconst 0, 14, 0, 0, []), some (.ireturn, 15, 0, 0, [])]]
def m_X5_isSheet : MT := ((cd_X5_isSheet, 5, 0, 0, 4), (yX5_isSheet, cX5_isSheet, 1, (some .boolean)))
def cd_X5_isSort : List (List (Option Ent)) := [[some (.iload_n 0, 1, 0, 0, []), some (.ifCond .lt 12, 4, 13, 0, []), none, none, some (.iload_n 0, 5, 0, 0, []), some (.iconst 2, 6, 0, 2, []), some (.if_icmp .gt 7, 9, 13, 0, []), none, none, some (.iconst 1, 10, 0, 1, []), some (.goto 4, 13, 14, 0, []), none, none, some (.iconst 0, 14, 0, 0, []), some (.ireturn, 15, 0, 0, [])]]
def m_X5_isSort : MT := ((cd_X5_isSort, 5, 0, 0, 4), (yX5_isSort, cX5_isSort, 1, (some .boolean)))
def cd_X5_within : List (List (Option Ent)) := [[some (.iload_n 0, 1, 0, 0, []), some (.ifCond .ge 7, 4, 8, 0, []), none, none, some (.iconst 0, 5, 0, 0, []), some (.goto 13, 8, 18, 0, []), none, none, some (.iload_n 0, 9, 0, 0, []), some (.iload_n 1, 10, 0, 0, []), some (.if_icmp .le 7, 13, 17, 0, []), none, none, some (.iload_n 1, 14, 0, 0, []), some (.goto 4, 17, 18, 0, []), none],
  [none, some (.iload_n 0, 18, 0, 0, []), some (.ireturn, 19, 0, 0, [])]]
def m_X5_within : MT := ((cd_X5_within, 5, 0, 0, 1), (yX5_within, cX5_within, 2, (some .int)))
def cd_X6_in : List (List (Option Ent)) := [[some (.lload_n 0, 1, 0, 0, []), some (.lload_n 2, 2, 0, 0, []), some (.lcmp, 3, 0, 0, []), some (.ifCond .lt 14, 6, 17, 0, []), none, none, some (.lload_n 0, 7, 0, 0, []), some (.lload 4, 9, 0, 0, []), none, some (.lcmp, 10, 0, 0, []), some (.ifCond .gt 7, 13, 17, 0, []), none, none, some (.iconst 1, 14, 0, 1, []), some (.goto 4, 17, 18, 0, []), none],
  [none, some (.iconst 0, 18, 0, 0, []), some (.ireturn, 19, 0, 0, [])]]
def m_X6_in : MT := ((cd_X6_in, 6, 0, 0, 4), (yX6_in, cX6_in, 6, (some .boolean)))
def cd_X6_within : List (List (Option Ent)) := [[some (.iload_n 0, 1, 0, 0, []), some (.iload_n 1, 2, 0, 0, []), some (.if_icmp .ge 7, 5, 9, 0, []), none, none, some (.iload_n 1, 6, 0, 0, []), some (.goto 13, 9, 19, 0, []), none, none, some (.iload_n 0, 10, 0, 0, []), some (.iload_n 2, 11, 0, 0, []), some (.if_icmp .le 7, 14, 18, 0, []), none, none, some (.iload_n 2, 15, 0, 0, []), some (.goto 4, 18, 19, 0, [])],
  [none, none, some (.iload_n 0, 19, 0, 0, []), some (.ireturn, 20, 0, 0, [])]]
def m_X6_within : MT := ((cd_X6_within, 6, 0, 0, 1), (yX6_within, cX6_within, 3, (some .int)))
def cd_X6_init : List (List (Option Ent)) := [[some (.aload_n 0, 1, 0, 0, []), some (.invokespecial 7, 4, 0, 0, []), none, none, some (.aload_n 0, 5, 0, 0, []), some (.sipush 960, 8, 0, 960, []), none, none, some (.newarray .int, 10, 0, 0, []), none, some (.putfield 13, 13, 0, 0, []), none, none, some (.aload_n 0, 14, 0, 0, []), some (.bipush 6, 16, 0, 6, []), none],
  [some (.newarray .int, 18, 0, 0, []), none, some (.putfield 17, 21, 0, 0, []), none, none, some (.aload_n 0, 22, 0, 0, []), some (.sipush 160, 25, 0, 160, []), none, none, some (.newarray .int, 27, 0, 0, []), none, some (.putfield 20, 30, 0, 0, []), none, none, some (.aload_n 0, 31, 0, 0, []), some (.iconst 5, 32, 0, 5, [])],
  [some (.newarray .int, 34, 0, 0, []), none, some (.putfield 23, 37, 0, 0, []), none, none, some (.aload_n 0, 38, 0, 0, []), some (.bipush 10, 40, 0, 10, []), none, some (.newarray .int, 42, 0, 0, []), none, some (.putfield 26, 45, 0, 0, []), none, none, some (.aload_n 0, 46, 0, 0, []), some (.bipush 25, 48, 0, 25, []), none],
  [some (.newarray .int, 50, 0, 0, []), none, some (.putfield 29, 53, 0, 0, []), none, none, some (.aload_n 0, 54, 0, 0, []), some (.bipush 26, 56, 0, 26, []), none, some (.newarray .int, 58, 0, 0, []), none, some (.putfield 32, 61, 0, 0, []), none, none, some (.aload_n 0, 62, 0, 0, []), some (.iconst 5, 63, 0, 5, []), some (.newarray .int, 65, 0, 0, [])],
  [none, some (.putfield 35, 68, 0, 0, []), none, none, some (.aload_n 0, 69, 0, 0, []), some (.bipush 37, 71, 0, 37, []), none, some (.newarray .int, 73, 0, 0, []), none, some (.putfield 38, 76, 0, 0, []), none, none, some (.aload_n 0, 77, 0, 0, []), some (.bipush 100, 79, 0, 100, []), none, some (.newarray .int, 81, 0, 0, [])],
  [none, some (.putfield 41, 84, 0, 0, []), none, none, some (.aload_n 0, 85, 0, 0, []), some (.bipush 40, 87, 0, 40, []), none, some (.newarray .int, 89, 0, 0, []), none, some (.putfield 44, 92, 0, 0, []), none, none, some (.aload_n 0, 93, 0, 0, []), some (.bipush 25, 95, 0, 25, []), none, some (.newarray .int, 97, 0, 0, [])],
  [none, some (.putfield 47, 100, 0, 0, []), none, none, some (.aload_n 0, 101, 0, 0, []), some (.bipush 25, 103, 0, 25, []), none, some (.newarray .int, 105, 0, 0, []), none, some (.putfield 50, 108, 0, 0, []), none, none, some (.aload_n 0, 109, 0, 0, []), some (.bipush 10, 111, 0, 10, []), none, some (.newarray .int, 113, 0, 0, [])],
  [none, some (.putfield 53, 116, 0, 0, []), none, none, some (.aload_n 0, 117, 0, 0, []), some (.iconst (-1), 118, 0, (-1), []), some (.putfield 56, 121, 0, 0, []), none, none, some (.aload_n 0, 122, 0, 0, []), some (.iconst 4, 123, 0, 4, []), some (.newarray .boolean, 125, 0, 0, []), none, some (.putfield 59, 128, 0, 0, []), none, none],
  [some (.aload_n 0, 129, 0, 0, []), some (.iconst 4, 130, 0, 4, []), some (.newarray .int, 132, 0, 0, []), none, some (.putfield 63, 135, 0, 0, []), none, none, some (.aload_n 0, 136, 0, 0, []), some (.iconst 4, 137, 0, 4, []), some (.newarray .int, 139, 0, 0, []), none, some (.putfield 66, 142, 0, 0, []), none, none, some (.aload_n 0, 143, 0, 0, []), some (.sipush 160, 146, 0, 160, [])],
  [none, none, some (.newarray .int, 148, 0, 0, []), none, some (.putfield 69, 151, 0, 0, []), none, none, some (.iconst 0, 152, 0, 0, []), some (.istore_n 1, 153, 0, 0, []), some (.iconst 0, 154, 0, 0, []), some (.istore_n 2, 155, 0, 0, []), some (.iload_n 2, 156, 0, 0, []), some (.sipush 1024, 159, 0, 1024, []), none, none, some (.if_icmp .ge 26, 162, 185, 0, [])],
  [none, none, some (.iload_n 2, 163, 0, 0, []), some (.invokestatic 72, 166, 0, 0, []), none, none, some (.ifCond .eq 13, 169, 179, 0, []), none, none, some (.aload_n 0, 170, 0, 0, []), some (.getfield 32, 173, 0, 0, []), none, none, some (.iload_n 1, 174, 0, 0, []), some (.iload_n 2, 175, 0, 0, []), some (.iastore, 176, 0, 0, [])],
  [some (.iinc 1 1, 179, 0, 1, []), none, none, some (.iinc 2 1, 182, 0, 1, []), none, none, some (.goto (-27), 185, 155, 0, []), none, none, some (.aload_n 0, 186, 0, 0, []), some (.iconst 0, 187, 0, 0, []), some (.bipush 112, 189, 0, 112, []), none, some (.bipush 97, 191, 0, 97, []), none, some (.bipush 121, 193, 0, 121, [])],
  [none, some (.bipush 115, 195, 0, 115, []), none, some (.bipush 32, 197, 0, 32, []), none, some (.bipush 49, 199, 0, 49, []), none, some (.bipush 32, 201, 0, 32, []), none, some (.bipush 59, 203, 0, 59, []), none, some (.invokevirtual 76, 206, 0, 0, []), none, none, some (.aload_n 0, 207, 0, 0, []), some (.bipush 8, 209, 0, 8, [])],
  [none, some (.bipush 32, 211, 0, 32, []), none, some (.bipush 119, 213, 0, 119, []), none, some (.bipush 105, 215, 0, 105, []), none, some (.bipush 108, 217, 0, 108, []), none, some (.bipush 108, 219, 0, 108, []), none, some (.bipush 115, 221, 0, 115, []), none, some (.bipush 32, 223, 0, 32, []), none, some (.bipush 49, 225, 0, 49, [])],
  [none, some (.invokevirtual 76, 228, 0, 0, []), none, none, some (.aload_n 0, 229, 0, 0, []), some (.bipush 16, 231, 0, 16, []), none, some (.bipush 32, 233, 0, 32, []), none, some (.bipush 59, 235, 0, 59, []), none, some (.bipush 32, 237, 0, 32, []), none, some (.bipush 98, 239, 0, 98, []), none, some (.bipush 114, 241, 0, 114, [])],
  [none, some (.bipush 101, 243, 0, 101, []), none, some (.bipush 97, 245, 0, 97, []), none, some (.bipush 116, 247, 0, 116, []), none, some (.invokevirtual 76, 250, 0, 0, []), none, none, some (.aload_n 0, 251, 0, 0, []), some (.bipush 24, 253, 0, 24, []), none, some (.bipush 104, 255, 0, 104, []), none, some (.bipush 32, 257, 0, 32, [])],
  [none, some (.bipush 52, 259, 0, 52, []), none, some (.bipush 32, 261, 0, 32, []), none, some (.bipush 59, 263, 0, 59, []), none, some (.bipush 32, 265, 0, 32, []), none, some (.bipush 32, 267, 0, 32, []), none, some (.bipush 32, 269, 0, 32, []), none, some (.invokevirtual 76, 272, 0, 0, []), none, none],
  [some (.aload_n 0, 273, 0, 0, []), some (.getfield 17, 276, 0, 0, []), none, none, some (.iconst 0, 277, 0, 0, []), some (.bipush 32, 279, 0, 32, []), none, some (.iastore, 280, 0, 0, []), some (.aload_n 0, 281, 0, 0, []), some (.iconst 1, 282, 0, 1, []), some (.putfield 80, 285, 0, 0, []), none, none, some (.return_, 286, 0, 0, [])]]
def m_X6_init : MT := ((cd_X6_init, 6, 18, 1606, 0), (yX6_init, cX6_init, 3, none))
def cd_X6_spell : List (List (Option Ent)) := [[some (.aload_n 0, 1, 0, 0, []), some (.getfield 13, 4, 0, 0, []), none, none, some (.iload_n 1, 5, 0, 0, []), some (.iload_n 2, 6, 0, 0, []), some (.iastore, 7, 0, 0, []), some (.aload_n 0, 8, 0, 0, []), some (.getfield 13, 11, 0, 0, []), none, none, some (.iload_n 1, 12, 0, 0, []), some (.iconst 1, 13, 0, 1, []), some (.iadd, 14, 0, 0, []), some (.iload_n 3, 15, 0, 0, []), some (.iastore, 16, 0, 0, [])],
  [some (.aload_n 0, 17, 0, 0, []), some (.getfield 13, 20, 0, 0, []), none, none, some (.iload_n 1, 21, 0, 0, []), some (.iconst 2, 22, 0, 2, []), some (.iadd, 23, 0, 0, []), some (.iload 4, 25, 0, 0, []), none, some (.iastore, 26, 0, 0, []), some (.aload_n 0, 27, 0, 0, []), some (.getfield 13, 30, 0, 0, []), none, none, some (.iload_n 1, 31, 0, 0, []), some (.iconst 3, 32, 0, 3, [])],
  [some (.iadd, 33, 0, 0, []), some (.iload 5, 35, 0, 0, []), none, some (.iastore, 36, 0, 0, []), some (.aload_n 0, 37, 0, 0, []), some (.getfield 13, 40, 0, 0, []), none, none, some (.iload_n 1, 41, 0, 0, []), some (.iconst 4, 42, 0, 4, []), some (.iadd, 43, 0, 0, []), some (.iload 6, 45, 0, 0, []), none, some (.iastore, 46, 0, 0, []), some (.aload_n 0, 47, 0, 0, []), some (.getfield 13, 50, 0, 0, [])],
  [none, none, some (.iload_n 1, 51, 0, 0, []), some (.iconst 5, 52, 0, 5, []), some (.iadd, 53, 0, 0, []), some (.iload 7, 55, 0, 0, []), none, some (.iastore, 56, 0, 0, []), some (.aload_n 0, 57, 0, 0, []), some (.getfield 13, 60, 0, 0, []), none, none, some (.iload_n 1, 61, 0, 0, []), some (.bipush 6, 63, 0, 6, []), none, some (.iadd, 64, 0, 0, [])],
  [some (.iload 8, 66, 0, 0, []), none, some (.iastore, 67, 0, 0, []), some (.aload_n 0, 68, 0, 0, []), some (.getfield 13, 71, 0, 0, []), none, none, some (.iload_n 1, 72, 0, 0, []), some (.bipush 7, 74, 0, 7, []), none, some (.iadd, 75, 0, 0, []), some (.iload 9, 77, 0, 0, []), none, some (.iastore, 78, 0, 0, []), some (.return_, 79, 0, 0, [])]]
def m_X6_spell : MT := ((cd_X6_spell, 6, 0, 0, 0), (yX6_spell, cX6_spell, 10, none))
def cd_X6_isOne : List (List (Option Ent)) := [[some (.iload_n 1, 1, 0, 0, []), some (.i2l, 2, 0, 0, []), some (.lconst 0, 3, 0, 0, []), some (.aload_n 0, 4, 0, 0, []), some (.getfield 83, 7, 0, 0, []), none, none, some (.iconst 1, 8, 0, 1, []), some (.isub, 9, 0, 0, []), some (.i2l, 10, 0, 0, []), some (.invokestatic 86, 13, 0, 0, []), none, none, some (.ireturn, 14, 0, 0, [])]]
def m_X6_isOne : MT := ((cd_X6_isOne, 6, 0, 0, 4), (yX6_isOne, cX6_isOne, 2, (some .boolean)))
def cd_X6_areTwo : List (List (Option Ent)) := [[some (.aload_n 0, 1, 0, 0, []), some (.iload_n 1, 2, 0, 0, []), some (.invokevirtual 90, 5, 0, 0, []), none, none, some (.ifCond .eq 20, 8, 25, 0, []), none, none, some (.aload_n 0, 9, 0, 0, []), some (.iload_n 2, 10, 0, 0, []), some (.invokevirtual 90, 13, 0, 0, []), none, none, some (.ifCond .eq 12, 16, 25, 0, []), none, none],
  [some (.iload_n 1, 17, 0, 0, []), some (.iload_n 2, 18, 0, 0, []), some (.if_icmp .eq 7, 21, 25, 0, []), none, none, some (.iconst 1, 22, 0, 1, []), some (.goto 4, 25, 26, 0, []), none, none, some (.iconst 0, 26, 0, 0, []), some (.ireturn, 27, 0, 0, [])]]
def m_X6_areTwo : MT := ((cd_X6_areTwo, 6, 0, 0, 4), (yX6_areTwo, cX6_areTwo, 3, (some .boolean)))
def cd_X6_isOf : List (List (Option Ent)) := [[some (.iload_n 1, 1, 0, 0, []), some (.iconst 2, 2, 0, 2, []), some (.if_icmp .lt 38, 5, 40, 0, []), none, none, some (.iload_n 1, 6, 0, 0, []), some (.iconst 4, 7, 0, 4, []), some (.if_icmp .ne 25, 10, 32, 0, []), none, none, some (.iload_n 2, 11, 0, 0, []), some (.ifCond .lt 33, 14, 44, 0, []), none, none, some (.aload_n 0, 15, 0, 0, []), some (.iload_n 2, 16, 0, 0, [])],
  [some (.bipush 10, 18, 0, 10, []), none, some (.idiv, 19, 0, 0, []), some (.iload_n 2, 20, 0, 0, []), some (.bipush 10, 22, 0, 10, []), none, some (.irem, 23, 0, 0, []), some (.invokevirtual 93, 26, 0, 0, []), none, none, some (.ifCond .eq 18, 29, 44, 0, []), none, none, some (.goto 11, 32, 40, 0, []), none, none],
  [some (.aload_n 0, 33, 0, 0, []), some (.iload_n 2, 34, 0, 0, []), some (.invokevirtual 90, 37, 0, 0, []), none, none, some (.ifCond .eq 7, 40, 44, 0, []), none, none, some (.iconst 1, 41, 0, 1, []), some (.goto 4, 44, 45, 0, []), none, none, some (.iconst 0, 45, 0, 0, []), some (.ireturn, 46, 0, 0, [])]]
def m_X6_isOf : MT := ((cd_X6_isOf, 6, 0, 0, 4), (yX6_isOf, cX6_isOf, 3, (some .boolean)))
def cd_X6_placeOf : List (List (Option Ent)) := [[some (.iconst 5, 1, 0, 5, []), some (.iload_n 0, 2, 0, 0, []), some (.bipush 10, 4, 0, 10, []), none, some (.idiv, 5, 0, 0, []), some (.imul, 6, 0, 0, []), some (.iload_n 0, 7, 0, 0, []), some (.bipush 10, 9, 0, 10, []), none, some (.irem, 10, 0, 0, []), some (.iadd, 11, 0, 0, []), some (.ireturn, 12, 0, 0, [])]]
def m_X6_placeOf : MT := ((cd_X6_placeOf, 6, 0, 0, 1), (yX6_placeOf, cX6_placeOf, 1, (some .int)))
def cd_X6_mostOf : List (List (Option Ent)) := [[some (.iload_n 0, 1, 0, 0, []), some (.iconst 2, 2, 0, 2, []), some (.if_icmp .ge 9, 5, 11, 0, []), none, none, some (.sipush 999, 8, 0, 999, []), none, none, some (.goto 15, 11, 23, 0, []), none, none, some (.iload_n 0, 12, 0, 0, []), some (.iconst 2, 13, 0, 2, []), some (.if_icmp .ne 8, 16, 21, 0, []), none, none],
  [some (.bipush 9, 18, 0, 9, []), none, some (.goto 5, 21, 23, 0, []), none, none, some (.bipush 99, 23, 0, 99, []), none, some (.ireturn, 24, 0, 0, [])]]
def m_X6_mostOf : MT := ((cd_X6_mostOf, 6, 0, 0, 1), (yX6_mostOf, cX6_mostOf, 1, (some .int)))
def cd_X6_set : List (List (Option Ent)) := [[some (.iload_n 1, 1, 0, 0, []), some (.i2l, 2, 0, 0, []), some (.lconst 0, 3, 0, 0, []), some (.ldc2_w 97, 6, 0, 0, []), none, none, some (.invokestatic 86, 9, 0, 0, []), none, none, some (.ifCond .eq 26, 12, 35, 0, []), none, none, some (.aload_n 0, 13, 0, 0, []), some (.iload_n 1, 14, 0, 0, []), some (.iload_n 2, 15, 0, 0, []), some (.invokevirtual 99, 18, 0, 0, [])],
  [none, none, some (.ifCond .eq 17, 21, 35, 0, []), none, none, some (.iload_n 3, 22, 0, 0, []), some (.i2l, 23, 0, 0, []), some (.lconst 0, 24, 0, 0, []), some (.iload_n 1, 25, 0, 0, []), some (.invokestatic 102, 28, 0, 0, []), none, none, some (.i2l, 29, 0, 0, []), some (.invokestatic 86, 32, 0, 0, []), none, none],
  [some (.ifCond .ne 6, 35, 38, 0, []), none, none, some (.bipush (-2), 37, 0, (-2), []), none, some (.ireturn, 38, 0, 0, []), some (.aload_n 0, 39, 0, 0, []), some (.iload_n 2, 40, 0, 0, []), some (.iload_n 1, 41, 0, 0, []), some (.invokevirtual 106, 44, 0, 0, []), none, none, some (.istore 4, 46, 0, 0, []), none, some (.aload_n 0, 47, 0, 0, []), some (.iload_n 1, 48, 0, 0, [])],
  [some (.iload_n 2, 49, 0, 0, []), some (.iload_n 3, 50, 0, 0, []), some (.invokevirtual 110, 53, 0, 0, []), none, none, some (.iload 4, 55, 0, 0, []), none, some (.ireturn, 56, 0, 0, [])]]
def m_X6_set : MT := ((cd_X6_set, 6, 0, 0, 1), (yX6_set, cX6_set, 5, (some .int)))
def cd_X6_lays : List (List (Option Ent)) := [[some (.iload_n 1, 1, 0, 0, []), some (.iconst 2, 2, 0, 2, []), some (.if_icmp .ge 39, 5, 41, 0, []), none, none, some (.aload_n 0, 6, 0, 0, []), some (.iload_n 1, 7, 0, 0, []), some (.ifCond .ne 7, 10, 14, 0, []), none, none, some (.iload_n 3, 11, 0, 0, []), some (.goto 7, 14, 18, 0, []), none, none, some (.aload_n 0, 15, 0, 0, []), some (.getfield 114, 18, 0, 0, [])],
  [none, none, some (.putfield 114, 21, 0, 0, []), none, none, some (.aload_n 0, 22, 0, 0, []), some (.iload_n 1, 23, 0, 0, []), some (.iconst 1, 24, 0, 1, []), some (.if_icmp .ne 7, 27, 31, 0, []), none, none, some (.iload_n 3, 28, 0, 0, []), some (.goto 7, 31, 35, 0, []), none, none, some (.aload_n 0, 32, 0, 0, [])],
  [some (.getfield 117, 35, 0, 0, []), none, none, some (.putfield 117, 38, 0, 0, []), none, none, some (.goto 62, 41, 100, 0, []), none, none, some (.iload_n 1, 42, 0, 0, []), some (.iconst 4, 43, 0, 4, []), some (.if_icmp .ge 19, 46, 62, 0, []), none, none, some (.aload_n 0, 47, 0, 0, []), some (.getfield 26, 50, 0, 0, [])],
  [none, none, some (.iconst 2, 51, 0, 2, []), some (.iload_n 2, 52, 0, 0, []), some (.imul, 53, 0, 0, []), some (.iload_n 1, 54, 0, 0, []), some (.iadd, 55, 0, 0, []), some (.iconst 2, 56, 0, 2, []), some (.isub, 57, 0, 0, []), some (.iload_n 3, 58, 0, 0, []), some (.iastore, 59, 0, 0, []), some (.goto 41, 62, 100, 0, []), none, none, some (.iload_n 1, 63, 0, 0, []), some (.iconst 4, 64, 0, 4, [])],
  [some (.if_icmp .ne 16, 67, 80, 0, []), none, none, some (.aload_n 0, 68, 0, 0, []), some (.getfield 29, 71, 0, 0, []), none, none, some (.iload_n 2, 72, 0, 0, []), some (.invokestatic 120, 75, 0, 0, []), none, none, some (.iload_n 3, 76, 0, 0, []), some (.iastore, 77, 0, 0, []), some (.goto 23, 80, 100, 0, []), none, none],
  [some (.iload_n 1, 81, 0, 0, []), some (.iconst 5, 82, 0, 5, []), some (.if_icmp .ne 13, 85, 95, 0, []), none, none, some (.aload_n 0, 86, 0, 0, []), some (.getfield 23, 89, 0, 0, []), none, none, some (.iload_n 2, 90, 0, 0, []), some (.iload_n 3, 91, 0, 0, []), some (.iastore, 92, 0, 0, []), some (.goto 8, 95, 100, 0, []), none, none, some (.aload_n 0, 96, 0, 0, [])],
  [some (.iload_n 3, 97, 0, 0, []), some (.putfield 123, 100, 0, 0, []), none, none, some (.return_, 101, 0, 0, [])]]
def m_X6_lays : MT := ((cd_X6_lays, 6, 0, 0, 0), (yX6_lays, cX6_lays, 4, none))
def cd_X6_dancer : List (List (Option Ent)) := [[some (.iload_n 1, 1, 0, 0, []), some (.i2l, 2, 0, 0, []), some (.lconst 0, 3, 0, 0, []), some (.ldc2_w 126, 6, 0, 0, []), none, none, some (.invokestatic 86, 9, 0, 0, []), none, none, some (.ifCond .eq 15, 12, 24, 0, []), none, none, some (.iload_n 2, 13, 0, 0, []), some (.i2l, 14, 0, 0, []), some (.lconst 0, 15, 0, 0, []), some (.ldc2_w 128, 18, 0, 0, [])],
  [none, none, some (.invokestatic 86, 21, 0, 0, []), none, none, some (.ifCond .ne 6, 24, 27, 0, []), none, none, some (.bipush (-2), 26, 0, (-2), []), none, some (.ireturn, 27, 0, 0, []), some (.aload_n 0, 28, 0, 0, []), some (.getfield 83, 31, 0, 0, []), none, none, some (.iconst 5, 32, 0, 5, [])],
  [some (.if_icmp .ne 6, 35, 38, 0, []), none, none, some (.bipush (-4), 37, 0, (-4), []), none, some (.ireturn, 38, 0, 0, []), some (.aload_n 0, 39, 0, 0, []), some (.getfield 23, 42, 0, 0, []), none, none, some (.aload_n 0, 43, 0, 0, []), some (.getfield 83, 46, 0, 0, []), none, none, some (.iload_n 1, 47, 0, 0, []), some (.iastore, 48, 0, 0, [])],
  [some (.aload_n 0, 49, 0, 0, []), some (.getfield 26, 52, 0, 0, []), none, none, some (.iconst 2, 53, 0, 2, []), some (.aload_n 0, 54, 0, 0, []), some (.getfield 83, 57, 0, 0, []), none, none, some (.imul, 58, 0, 0, []), some (.iload_n 2, 59, 0, 0, []), some (.iastore, 60, 0, 0, []), some (.aload_n 0, 61, 0, 0, []), some (.getfield 26, 64, 0, 0, []), none, none],
  [some (.iconst 2, 65, 0, 2, []), some (.aload_n 0, 66, 0, 0, []), some (.getfield 83, 69, 0, 0, []), none, none, some (.imul, 70, 0, 0, []), some (.iconst 1, 71, 0, 1, []), some (.iadd, 72, 0, 0, []), some (.iconst 0, 73, 0, 0, []), some (.iastore, 74, 0, 0, []), some (.iconst 0, 75, 0, 0, []), some (.istore_n 3, 76, 0, 0, []), some (.iload_n 3, 77, 0, 0, []), some (.iconst 5, 78, 0, 5, []), some (.if_icmp .ge 37, 81, 115, 0, []), none],
  [none, some (.aload_n 0, 82, 0, 0, []), some (.getfield 29, 85, 0, 0, []), none, none, some (.iconst 5, 86, 0, 5, []), some (.iload_n 3, 87, 0, 0, []), some (.imul, 88, 0, 0, []), some (.aload_n 0, 89, 0, 0, []), some (.getfield 83, 92, 0, 0, []), none, none, some (.iadd, 93, 0, 0, []), some (.iconst 0, 94, 0, 0, []), some (.iastore, 95, 0, 0, []), some (.aload_n 0, 96, 0, 0, [])],
  [some (.getfield 29, 99, 0, 0, []), none, none, some (.iconst 5, 100, 0, 5, []), some (.aload_n 0, 101, 0, 0, []), some (.getfield 83, 104, 0, 0, []), none, none, some (.imul, 105, 0, 0, []), some (.iload_n 3, 106, 0, 0, []), some (.iadd, 107, 0, 0, []), some (.iconst 0, 108, 0, 0, []), some (.iastore, 109, 0, 0, []), some (.iinc 3 1, 112, 0, 1, []), none, none],
  [some (.goto (-36), 115, 76, 0, []), none, none, some (.aload_n 0, 116, 0, 0, []), some (.dup, 117, 0, 0, []), some (.getfield 83, 120, 0, 0, []), none, none, some (.iconst 1, 121, 0, 1, []), some (.iadd, 122, 0, 0, []), some (.putfield 83, 125, 0, 0, []), none, none, some (.aload_n 0, 126, 0, 0, []), some (.getfield 83, 129, 0, 0, []), none],
  [none, some (.iconst 1, 130, 0, 1, []), some (.isub, 131, 0, 0, []), some (.ireturn, 132, 0, 0, [])]]
def m_X6_dancer : MT := ((cd_X6_dancer, 6, 0, 0, 1), (yX6_dancer, cX6_dancer, 4, (some .int)))
def cd_X6_told : List (List (Option Ent)) := [[some (.iload_n 2, 1, 0, 0, []), some (.i2l, 2, 0, 0, []), some (.lconst 0, 3, 0, 0, []), some (.ldc2_w 130, 6, 0, 0, []), none, none, some (.invokestatic 86, 9, 0, 0, []), none, none, some (.ifCond .eq 12, 12, 21, 0, []), none, none, some (.aload_n 0, 13, 0, 0, []), some (.iload_n 2, 14, 0, 0, []), some (.iload_n 1, 15, 0, 0, []), some (.invokevirtual 99, 18, 0, 0, [])],
  [none, none, some (.ifCond .ne 6, 21, 24, 0, []), none, none, some (.bipush (-2), 23, 0, (-2), []), none, some (.ireturn, 24, 0, 0, []), some (.iload_n 2, 25, 0, 0, []), some (.iconst 5, 26, 0, 5, []), some (.if_icmp .ge 56, 29, 82, 0, []), none, none, some (.iload_n 2, 30, 0, 0, []), some (.ifCond .ne 10, 33, 40, 0, []), none],
  [none, some (.aload_n 0, 34, 0, 0, []), some (.getfield 114, 37, 0, 0, []), none, none, some (.goto 44, 40, 81, 0, []), none, none, some (.iload_n 2, 41, 0, 0, []), some (.iconst 1, 42, 0, 1, []), some (.if_icmp .ne 10, 45, 52, 0, []), none, none, some (.aload_n 0, 46, 0, 0, []), some (.getfield 117, 49, 0, 0, []), none],
  [none, some (.goto 32, 52, 81, 0, []), none, none, some (.iload_n 2, 53, 0, 0, []), some (.iconst 4, 54, 0, 4, []), some (.if_icmp .ge 18, 57, 72, 0, []), none, none, some (.aload_n 0, 58, 0, 0, []), some (.getfield 26, 61, 0, 0, []), none, none, some (.iconst 2, 62, 0, 2, []), some (.iload_n 1, 63, 0, 0, []), some (.imul, 64, 0, 0, [])],
  [some (.iload_n 2, 65, 0, 0, []), some (.iadd, 66, 0, 0, []), some (.iconst 2, 67, 0, 2, []), some (.isub, 68, 0, 0, []), some (.iaload, 69, 0, 0, []), some (.goto 12, 72, 81, 0, []), none, none, some (.aload_n 0, 73, 0, 0, []), some (.getfield 29, 76, 0, 0, []), none, none, some (.iload_n 1, 77, 0, 0, []), some (.invokestatic 120, 80, 0, 0, []), none, none],
  [some (.iaload, 81, 0, 0, []), some (.ireturn, 82, 0, 0, []), some (.iload_n 2, 83, 0, 0, []), some (.iconst 5, 84, 0, 5, []), some (.if_icmp .ne 12, 87, 96, 0, []), none, none, some (.aload_n 0, 88, 0, 0, []), some (.getfield 23, 91, 0, 0, []), none, none, some (.iload_n 1, 92, 0, 0, []), some (.iaload, 93, 0, 0, []), some (.goto 36, 96, 129, 0, []), none, none],
  [some (.iload_n 2, 97, 0, 0, []), some (.bipush 6, 99, 0, 6, []), none, some (.if_icmp .ne 11, 102, 110, 0, []), none, none, some (.aload_n 0, 103, 0, 0, []), some (.iload_n 1, 104, 0, 0, []), some (.invokevirtual 132, 107, 0, 0, []), none, none, some (.goto 22, 110, 129, 0, []), none, none, some (.iload_n 2, 111, 0, 0, []), some (.bipush 7, 113, 0, 7, [])],
  [none, some (.if_icmp .ne 11, 116, 124, 0, []), none, none, some (.aload_n 0, 117, 0, 0, []), some (.iload_n 1, 118, 0, 0, []), some (.invokevirtual 135, 121, 0, 0, []), none, none, some (.goto 8, 124, 129, 0, []), none, none, some (.aload_n 0, 125, 0, 0, []), some (.iload_n 1, 126, 0, 0, []), some (.invokevirtual 138, 129, 0, 0, []), none],
  [none, some (.ireturn, 130, 0, 0, [])]]
def m_X6_told : MT := ((cd_X6_told, 6, 0, 0, 1), (yX6_told, cX6_told, 3, (some .int)))
def cd_X6_debtOf : List (List (Option Ent)) := [[some (.aload_n 0, 1, 0, 0, []), some (.getfield 29, 4, 0, 0, []), none, none, some (.iconst 5, 5, 0, 5, []), some (.iload_n 1, 6, 0, 0, []), some (.imul, 7, 0, 0, []), some (.iload_n 2, 8, 0, 0, []), some (.iadd, 9, 0, 0, []), some (.iaload, 10, 0, 0, []), some (.ireturn, 11, 0, 0, [])]]
def m_X6_debtOf : MT := ((cd_X6_debtOf, 6, 0, 0, 1), (yX6_debtOf, cX6_debtOf, 3, (some .int)))
def cd_X6_owesOf : List (List (Option Ent)) := [[some (.iconst 0, 1, 0, 0, []), some (.istore_n 2, 2, 0, 0, []), some (.iconst 0, 3, 0, 0, []), some (.istore_n 3, 4, 0, 0, []), some (.iload_n 3, 5, 0, 0, []), some (.aload_n 0, 6, 0, 0, []), some (.getfield 83, 9, 0, 0, []), none, none, some (.if_icmp .ge 18, 12, 27, 0, []), none, none, some (.iload_n 2, 13, 0, 0, []), some (.aload_n 0, 14, 0, 0, []), some (.iload_n 1, 15, 0, 0, []), some (.iload_n 3, 16, 0, 0, [])],
  [some (.invokevirtual 141, 19, 0, 0, []), none, none, some (.iadd, 20, 0, 0, []), some (.istore_n 2, 21, 0, 0, []), some (.iinc 3 1, 24, 0, 1, []), none, none, some (.goto (-20), 27, 4, 0, []), none, none, some (.iload_n 2, 28, 0, 0, []), some (.ireturn, 29, 0, 0, [])]]
def m_X6_owesOf : MT := ((cd_X6_owesOf, 6, 0, 0, 1), (yX6_owesOf, cX6_owesOf, 4, (some .int)))
def cd_X6_owedTo : List (List (Option Ent)) := [[some (.iconst 0, 1, 0, 0, []), some (.istore_n 2, 2, 0, 0, []), some (.iconst 0, 3, 0, 0, []), some (.istore_n 3, 4, 0, 0, []), some (.iload_n 3, 5, 0, 0, []), some (.aload_n 0, 6, 0, 0, []), some (.getfield 83, 9, 0, 0, []), none, none, some (.if_icmp .ge 18, 12, 27, 0, []), none, none, some (.iload_n 2, 13, 0, 0, []), some (.aload_n 0, 14, 0, 0, []), some (.iload_n 3, 15, 0, 0, []), some (.iload_n 1, 16, 0, 0, [])],
  [some (.invokevirtual 141, 19, 0, 0, []), none, none, some (.iadd, 20, 0, 0, []), some (.istore_n 2, 21, 0, 0, []), some (.iinc 3 1, 24, 0, 1, []), none, none, some (.goto (-20), 27, 4, 0, []), none, none, some (.iload_n 2, 28, 0, 0, []), some (.ireturn, 29, 0, 0, [])]]
def m_X6_owedTo : MT := ((cd_X6_owedTo, 6, 0, 0, 1), (yX6_owedTo, cX6_owedTo, 4, (some .int)))
def cd_X6_owedAll : List (List (Option Ent)) := [[some (.iconst 0, 1, 0, 0, []), some (.istore_n 1, 2, 0, 0, []), some (.iconst 0, 3, 0, 0, []), some (.istore_n 2, 4, 0, 0, []), some (.iload_n 2, 5, 0, 0, []), some (.aload_n 0, 6, 0, 0, []), some (.getfield 83, 9, 0, 0, []), none, none, some (.if_icmp .ge 17, 12, 26, 0, []), none, none, some (.iload_n 1, 13, 0, 0, []), some (.aload_n 0, 14, 0, 0, []), some (.iload_n 2, 15, 0, 0, []), some (.invokevirtual 135, 18, 0, 0, [])],
  [none, none, some (.iadd, 19, 0, 0, []), some (.istore_n 1, 20, 0, 0, []), some (.iinc 2 1, 23, 0, 1, []), none, none, some (.goto (-19), 26, 4, 0, []), none, none, some (.iload_n 1, 27, 0, 0, []), some (.ireturn, 28, 0, 0, [])]]
def m_X6_owedAll : MT := ((cd_X6_owedAll, 6, 0, 0, 1), (yX6_owedAll, cX6_owedAll, 3, (some .int)))
def cd_X6_feed : List (List (Option Ent)) := [[some (.iload_n 1, 1, 0, 0, []), some (.i2l, 2, 0, 0, []), some (.lconst 0, 3, 0, 0, []), some (.ldc2_w 144, 6, 0, 0, []), none, none, some (.invokestatic 86, 9, 0, 0, []), none, none, some (.ifCond .ne 6, 12, 15, 0, []), none, none, some (.bipush (-2), 14, 0, (-2), []), none, some (.ireturn, 15, 0, 0, []), some (.aload_n 0, 16, 0, 0, [])],
  [some (.getfield 146, 19, 0, 0, []), none, none, some (.sipush 160, 22, 0, 160, []), none, none, some (.if_icmp .ne 6, 25, 28, 0, []), none, none, some (.bipush (-4), 27, 0, (-4), []), none, some (.ireturn, 28, 0, 0, []), some (.aload_n 0, 29, 0, 0, []), some (.getfield 20, 32, 0, 0, []), none, none],
  [some (.aload_n 0, 33, 0, 0, []), some (.getfield 146, 36, 0, 0, []), none, none, some (.iload_n 1, 37, 0, 0, []), some (.iastore, 38, 0, 0, []), some (.aload_n 0, 39, 0, 0, []), some (.dup, 40, 0, 0, []), some (.getfield 146, 43, 0, 0, []), none, none, some (.iconst 1, 44, 0, 1, []), some (.iadd, 45, 0, 0, []), some (.putfield 146, 48, 0, 0, []), none, none],
  [some (.aload_n 0, 49, 0, 0, []), some (.getfield 146, 52, 0, 0, []), none, none, some (.ireturn, 53, 0, 0, [])]]
def m_X6_feed : MT := ((cd_X6_feed, 6, 0, 0, 1), (yX6_feed, cX6_feed, 2, (some .int)))
def cd_X6_byteAt : List (List (Option Ent)) := [[some (.iload_n 1, 1, 0, 0, []), some (.aload_n 0, 2, 0, 0, []), some (.getfield 149, 5, 0, 0, []), none, none, some (.if_icmp .ge 17, 8, 22, 0, []), none, none, some (.aload_n 0, 9, 0, 0, []), some (.getfield 13, 12, 0, 0, []), none, none, some (.aload_n 0, 13, 0, 0, []), some (.getfield 152, 16, 0, 0, []), none, none],
  [some (.iload_n 1, 17, 0, 0, []), some (.iadd, 18, 0, 0, []), some (.iaload, 19, 0, 0, []), some (.goto 4, 22, 23, 0, []), none, none, some (.iconst (-1), 23, 0, (-1), []), some (.ireturn, 24, 0, 0, [])]]
def m_X6_byteAt : MT := ((cd_X6_byteAt, 6, 0, 0, 1), (yX6_byteAt, cX6_byteAt, 2, (some .int)))
def cd_X6_next : List (List (Option Ent)) := [[some (.aload_n 0, 1, 0, 0, []), some (.aload_n 0, 2, 0, 0, []), some (.getfield 155, 5, 0, 0, []), none, none, some (.invokevirtual 158, 8, 0, 0, []), none, none, some (.bipush 32, 10, 0, 32, []), none, some (.if_icmp .eq 16, 13, 26, 0, []), none, none, some (.aload_n 0, 14, 0, 0, []), some (.aload_n 0, 15, 0, 0, []), some (.getfield 155, 18, 0, 0, [])],
  [none, none, some (.invokevirtual 158, 21, 0, 0, []), none, none, some (.bipush 10, 23, 0, 10, []), none, some (.if_icmp .ne 16, 26, 39, 0, []), none, none, some (.aload_n 0, 27, 0, 0, []), some (.dup, 28, 0, 0, []), some (.getfield 155, 31, 0, 0, []), none, none, some (.iconst 1, 32, 0, 1, [])],
  [some (.iadd, 33, 0, 0, []), some (.putfield 155, 36, 0, 0, []), none, none, some (.goto (-36), 39, 0, 0, []), none, none, some (.aload_n 0, 40, 0, 0, []), some (.aload_n 0, 41, 0, 0, []), some (.getfield 155, 44, 0, 0, []), none, none, some (.putfield 161, 47, 0, 0, []), none, none, some (.aload_n 0, 48, 0, 0, [])],
  [some (.aload_n 0, 49, 0, 0, []), some (.getfield 155, 52, 0, 0, []), none, none, some (.invokevirtual 158, 55, 0, 0, []), none, none, some (.istore_n 1, 56, 0, 0, []), some (.aload_n 0, 57, 0, 0, []), some (.iconst 4, 58, 0, 4, []), some (.putfield 164, 61, 0, 0, []), none, none, some (.iload_n 1, 62, 0, 0, []), some (.ifCond .ge 19, 65, 81, 0, []), none],
  [none, some (.aload_n 0, 66, 0, 0, []), some (.iconst 0, 67, 0, 0, []), some (.putfield 164, 70, 0, 0, []), none, none, some (.aload_n 0, 71, 0, 0, []), some (.aload_n 0, 72, 0, 0, []), some (.getfield 149, 75, 0, 0, []), none, none, some (.putfield 161, 78, 0, 0, []), none, none, some (.goto 243, 81, 321, 0, []), none],
  [none, some (.iload_n 1, 82, 0, 0, []), some (.i2l, 83, 0, 0, []), some (.ldc2_w 167, 86, 0, 0, []), none, none, some (.ldc2_w 169, 89, 0, 0, []), none, none, some (.invokestatic 86, 92, 0, 0, []), none, none, some (.ifCond .eq 42, 95, 134, 0, []), none, none, some (.aload_n 0, 96, 0, 0, [])],
  [some (.iconst 1, 97, 0, 1, []), some (.putfield 164, 100, 0, 0, []), none, none, some (.aload_n 0, 101, 0, 0, []), some (.aload_n 0, 102, 0, 0, []), some (.getfield 155, 105, 0, 0, []), none, none, some (.invokevirtual 158, 108, 0, 0, []), none, none, some (.i2l, 109, 0, 0, []), some (.ldc2_w 167, 112, 0, 0, []), none, none],
  [some (.ldc2_w 169, 115, 0, 0, []), none, none, some (.invokestatic 86, 118, 0, 0, []), none, none, some (.ifCond .eq 203, 121, 321, 0, []), none, none, some (.aload_n 0, 122, 0, 0, []), some (.dup, 123, 0, 0, []), some (.getfield 155, 126, 0, 0, []), none, none, some (.iconst 1, 127, 0, 1, []), some (.iadd, 128, 0, 0, [])],
  [some (.putfield 155, 131, 0, 0, []), none, none, some (.goto (-31), 134, 100, 0, []), none, none, some (.iload_n 1, 135, 0, 0, []), some (.i2l, 136, 0, 0, []), some (.ldc2_w 171, 139, 0, 0, []), none, none, some (.ldc2_w 173, 142, 0, 0, []), none, none, some (.invokestatic 86, 145, 0, 0, []), none],
  [none, some (.ifCond .eq 107, 148, 252, 0, []), none, none, some (.aload_n 0, 149, 0, 0, []), some (.iconst 2, 150, 0, 2, []), some (.putfield 164, 153, 0, 0, []), none, none, some (.aload_n 0, 154, 0, 0, []), some (.lconst 0, 155, 0, 0, []), some (.putfield 175, 158, 0, 0, []), none, none, some (.iconst 0, 159, 0, 0, []), some (.istore_n 2, 160, 0, 0, [])],
  [some (.aload_n 0, 161, 0, 0, []), some (.aload_n 0, 162, 0, 0, []), some (.getfield 155, 165, 0, 0, []), none, none, some (.invokevirtual 158, 168, 0, 0, []), none, none, some (.i2l, 169, 0, 0, []), some (.ldc2_w 171, 172, 0, 0, []), none, none, some (.ldc2_w 173, 175, 0, 0, []), none, none, some (.invokestatic 86, 178, 0, 0, [])],
  [none, none, some (.ifCond .eq 57, 181, 235, 0, []), none, none, some (.aload_n 0, 182, 0, 0, []), some (.iload_n 2, 183, 0, 0, []), some (.iconst 4, 184, 0, 4, []), some (.if_icmp .ge 28, 187, 212, 0, []), none, none, some (.ldc2_w 179, 190, 0, 0, []), none, none, some (.aload_n 0, 191, 0, 0, []), some (.getfield 175, 194, 0, 0, [])],
  [none, none, some (.lmul, 195, 0, 0, []), some (.aload_n 0, 196, 0, 0, []), some (.aload_n 0, 197, 0, 0, []), some (.getfield 155, 200, 0, 0, []), none, none, some (.invokevirtual 158, 203, 0, 0, []), none, none, some (.i2l, 204, 0, 0, []), some (.ladd, 205, 0, 0, []), some (.ldc2_w 171, 208, 0, 0, []), none, none],
  [some (.lsub, 209, 0, 0, []), some (.goto 7, 212, 216, 0, []), none, none, some (.aload_n 0, 213, 0, 0, []), some (.getfield 175, 216, 0, 0, []), none, none, some (.putfield 175, 219, 0, 0, []), none, none, some (.iinc 2 1, 222, 0, 1, []), none, none, some (.aload_n 0, 223, 0, 0, []), some (.dup, 224, 0, 0, [])],
  [some (.getfield 155, 227, 0, 0, []), none, none, some (.iconst 1, 228, 0, 1, []), some (.iadd, 229, 0, 0, []), some (.putfield 155, 232, 0, 0, []), none, none, some (.goto (-72), 235, 160, 0, []), none, none, some (.aload_n 0, 236, 0, 0, []), some (.iload_n 2, 237, 0, 0, []), some (.iconst 4, 238, 0, 4, []), some (.if_icmp .le 7, 241, 245, 0, []), none],
  [none, some (.iconst 4, 242, 0, 4, []), some (.goto 4, 245, 246, 0, []), none, none, some (.iconst 2, 246, 0, 2, []), some (.putfield 164, 249, 0, 0, []), none, none, some (.goto 72, 252, 321, 0, []), none, none, some (.iload_n 1, 253, 0, 0, []), some (.bipush 40, 255, 0, 40, []), none, some (.if_icmp .eq 45, 258, 300, 0, [])],
  [none, none, some (.iload_n 1, 259, 0, 0, []), some (.bipush 41, 261, 0, 41, []), none, some (.if_icmp .eq 39, 264, 300, 0, []), none, none, some (.iload_n 1, 265, 0, 0, []), some (.bipush 59, 267, 0, 59, []), none, some (.if_icmp .eq 33, 270, 300, 0, []), none, none, some (.iload_n 1, 271, 0, 0, []), some (.bipush 43, 273, 0, 43, [])],
  [none, some (.if_icmp .eq 27, 276, 300, 0, []), none, none, some (.iload_n 1, 277, 0, 0, []), some (.bipush 45, 279, 0, 45, []), none, some (.if_icmp .eq 21, 282, 300, 0, []), none, none, some (.iload_n 1, 283, 0, 0, []), some (.bipush 42, 285, 0, 42, []), none, some (.if_icmp .eq 15, 288, 300, 0, []), none, none],
  [some (.iload_n 1, 289, 0, 0, []), some (.bipush 60, 291, 0, 60, []), none, some (.if_icmp .eq 9, 294, 300, 0, []), none, none, some (.iload_n 1, 295, 0, 0, []), some (.bipush 61, 297, 0, 61, []), none, some (.if_icmp .ne 24, 300, 321, 0, []), none, none, some (.aload_n 0, 301, 0, 0, []), some (.iconst 3, 302, 0, 3, []), some (.putfield 164, 305, 0, 0, []), none],
  [none, some (.aload_n 0, 306, 0, 0, []), some (.iload_n 1, 307, 0, 0, []), some (.i2l, 308, 0, 0, []), some (.putfield 175, 311, 0, 0, []), none, none, some (.aload_n 0, 312, 0, 0, []), some (.dup, 313, 0, 0, []), some (.getfield 155, 316, 0, 0, []), none, none, some (.iconst 1, 317, 0, 1, []), some (.iadd, 318, 0, 0, []), some (.putfield 155, 321, 0, 0, []), none],
  [none, some (.return_, 322, 0, 0, [])]]
def m_X6_next : MT := ((cd_X6_next, 6, 0, 0, 0), (yX6_next, cX6_next, 3, none))
def cd_X6_fail : List (List (Option Ent)) := [[some (.aload_n 0, 1, 0, 0, []), some (.getfield 181, 4, 0, 0, []), none, none, some (.ifCond .ne 16, 7, 20, 0, []), none, none, some (.aload_n 0, 8, 0, 0, []), some (.iconst 1, 9, 0, 1, []), some (.putfield 181, 12, 0, 0, []), none, none, some (.aload_n 0, 13, 0, 0, []), some (.aload_n 0, 14, 0, 0, []), some (.getfield 161, 17, 0, 0, []), none],
  [none, some (.putfield 185, 20, 0, 0, []), none, none, some (.return_, 21, 0, 0, [])]]
def m_X6_fail : MT := ((cd_X6_fail, 6, 0, 0, 0), (yX6_fail, cX6_fail, 1, none))
def cd_X6_isLetter : List (List (Option Ent)) := [[some (.aload_n 0, 1, 0, 0, []), some (.getfield 161, 4, 0, 0, []), none, none, some (.iload_n 1, 5, 0, 0, []), some (.iadd, 6, 0, 0, []), some (.aload_n 0, 7, 0, 0, []), some (.getfield 155, 10, 0, 0, []), none, none, some (.if_icmp .ge 25, 13, 35, 0, []), none, none, some (.aload_n 0, 14, 0, 0, []), some (.aload_n 0, 15, 0, 0, []), some (.getfield 161, 18, 0, 0, [])],
  [none, none, some (.iload_n 1, 19, 0, 0, []), some (.iadd, 20, 0, 0, []), some (.invokevirtual 158, 23, 0, 0, []), none, none, some (.iload_n 2, 24, 0, 0, []), some (.if_icmp .ne 7, 27, 31, 0, []), none, none, some (.iconst 1, 28, 0, 1, []), some (.goto 16, 31, 44, 0, []), none, none, some (.iconst 0, 32, 0, 0, [])],
  [some (.goto 12, 35, 44, 0, []), none, none, some (.iload_n 2, 36, 0, 0, []), some (.ifCond .ne 7, 39, 43, 0, []), none, none, some (.iconst 1, 40, 0, 1, []), some (.goto 4, 43, 44, 0, []), none, none, some (.iconst 0, 44, 0, 0, []), some (.ireturn, 45, 0, 0, [])]]
def m_X6_isLetter : MT := ((cd_X6_isLetter, 6, 0, 0, 4), (yX6_isLetter, cX6_isLetter, 3, (some .boolean)))
def cd_X6_isWord : List (List (Option Ent)) := [[some (.aload_n 0, 1, 0, 0, []), some (.getfield 181, 4, 0, 0, []), none, none, some (.ifCond .ne 108, 7, 112, 0, []), none, none, some (.aload_n 0, 8, 0, 0, []), some (.getfield 164, 11, 0, 0, []), none, none, some (.iconst 1, 12, 0, 1, []), some (.if_icmp .ne 100, 15, 112, 0, []), none, none, some (.aload_n 0, 16, 0, 0, [])],
  [some (.getfield 155, 19, 0, 0, []), none, none, some (.aload_n 0, 20, 0, 0, []), some (.getfield 161, 23, 0, 0, []), none, none, some (.bipush 8, 25, 0, 8, []), none, some (.iadd, 26, 0, 0, []), some (.if_icmp .gt 86, 29, 112, 0, []), none, none, some (.aload_n 0, 30, 0, 0, []), some (.iconst 0, 31, 0, 0, []), some (.iload_n 1, 32, 0, 0, [])],
  [some (.invokevirtual 188, 35, 0, 0, []), none, none, some (.ifCond .eq 77, 38, 112, 0, []), none, none, some (.aload_n 0, 39, 0, 0, []), some (.iconst 1, 40, 0, 1, []), some (.iload_n 2, 41, 0, 0, []), some (.invokevirtual 188, 44, 0, 0, []), none, none, some (.ifCond .eq 68, 47, 112, 0, []), none, none, some (.aload_n 0, 48, 0, 0, [])],
  [some (.iconst 2, 49, 0, 2, []), some (.iload_n 3, 50, 0, 0, []), some (.invokevirtual 188, 53, 0, 0, []), none, none, some (.ifCond .eq 59, 56, 112, 0, []), none, none, some (.aload_n 0, 57, 0, 0, []), some (.iconst 3, 58, 0, 3, []), some (.iload 4, 60, 0, 0, []), none, some (.invokevirtual 188, 63, 0, 0, []), none, none, some (.ifCond .eq 49, 66, 112, 0, [])],
  [none, none, some (.aload_n 0, 67, 0, 0, []), some (.iconst 4, 68, 0, 4, []), some (.iload 5, 70, 0, 0, []), none, some (.invokevirtual 188, 73, 0, 0, []), none, none, some (.ifCond .eq 39, 76, 112, 0, []), none, none, some (.aload_n 0, 77, 0, 0, []), some (.iconst 5, 78, 0, 5, []), some (.iload 6, 80, 0, 0, []), none],
  [some (.invokevirtual 188, 83, 0, 0, []), none, none, some (.ifCond .eq 29, 86, 112, 0, []), none, none, some (.aload_n 0, 87, 0, 0, []), some (.bipush 6, 89, 0, 6, []), none, some (.iload 7, 91, 0, 0, []), none, some (.invokevirtual 188, 94, 0, 0, []), none, none, some (.ifCond .eq 18, 97, 112, 0, []), none],
  [none, some (.aload_n 0, 98, 0, 0, []), some (.bipush 7, 100, 0, 7, []), none, some (.iload 8, 102, 0, 0, []), none, some (.invokevirtual 188, 105, 0, 0, []), none, none, some (.ifCond .eq 7, 108, 112, 0, []), none, none, some (.iconst 1, 109, 0, 1, []), some (.goto 4, 112, 113, 0, []), none, none],
  [some (.iconst 0, 113, 0, 0, []), some (.ireturn, 114, 0, 0, [])]]
def m_X6_isWord : MT := ((cd_X6_isWord, 6, 0, 0, 4), (yX6_isWord, cX6_isWord, 9, (some .boolean)))
def cd_X6_isSign : List (List (Option Ent)) := [[some (.aload_n 0, 1, 0, 0, []), some (.getfield 181, 4, 0, 0, []), none, none, some (.ifCond .ne 25, 7, 29, 0, []), none, none, some (.aload_n 0, 8, 0, 0, []), some (.getfield 164, 11, 0, 0, []), none, none, some (.iconst 3, 12, 0, 3, []), some (.if_icmp .ne 17, 15, 29, 0, []), none, none, some (.aload_n 0, 16, 0, 0, [])],
  [some (.getfield 175, 19, 0, 0, []), none, none, some (.iload_n 1, 20, 0, 0, []), some (.i2l, 21, 0, 0, []), some (.lcmp, 22, 0, 0, []), some (.ifCond .ne 7, 25, 29, 0, []), none, none, some (.iconst 1, 26, 0, 1, []), some (.goto 4, 29, 30, 0, []), none, none, some (.iconst 0, 30, 0, 0, []), some (.ireturn, 31, 0, 0, [])]]
def m_X6_isSign : MT := ((cd_X6_isSign, 6, 0, 0, 4), (yX6_isSign, cX6_isSign, 2, (some .boolean)))
def cd_X6_opens : List (List (Option Ent)) := [[some (.aload_n 0, 1, 0, 0, []), some (.getfield 191, 4, 0, 0, []), none, none, some (.iconst 5, 5, 0, 5, []), some (.if_icmp .ne 9, 8, 14, 0, []), none, none, some (.aload_n 0, 9, 0, 0, []), some (.invokevirtual 194, 12, 0, 0, []), none, none, some (.iconst 0, 13, 0, 0, []), some (.ireturn, 14, 0, 0, []), some (.aload_n 0, 15, 0, 0, []), some (.dup, 16, 0, 0, [])],
  [some (.getfield 191, 19, 0, 0, []), none, none, some (.iconst 1, 20, 0, 1, []), some (.iadd, 21, 0, 0, []), some (.putfield 191, 24, 0, 0, []), none, none, some (.aload_n 0, 25, 0, 0, []), some (.invokevirtual 197, 28, 0, 0, []), none, none, some (.iconst 1, 29, 0, 1, []), some (.ireturn, 30, 0, 0, [])]]
def m_X6_opens : MT := ((cd_X6_opens, 6, 0, 0, 4), (yX6_opens, cX6_opens, 1, (some .boolean)))
def cd_X6_name : List (List (Option Ent)) := [[some (.aload_n 0, 1, 0, 0, []), some (.bipush 100, 3, 0, 100, []), none, some (.bipush 101, 5, 0, 101, []), none, some (.bipush 98, 7, 0, 98, []), none, some (.bipush 116, 9, 0, 116, []), none, some (.iconst 0, 10, 0, 0, []), some (.iconst 0, 11, 0, 0, []), some (.iconst 0, 12, 0, 0, []), some (.iconst 0, 13, 0, 0, []), some (.invokevirtual 200, 16, 0, 0, []), none, none],
  [some (.ifCond .eq 8, 19, 24, 0, []), none, none, some (.aload_n 0, 20, 0, 0, []), some (.getfield 204, 23, 0, 0, []), none, none, some (.ireturn, 24, 0, 0, []), some (.aload_n 0, 25, 0, 0, []), some (.bipush 111, 27, 0, 111, []), none, some (.bipush 119, 29, 0, 119, []), none, some (.bipush 101, 31, 0, 101, []), none, some (.bipush 100, 33, 0, 100, [])],
  [none, some (.iconst 0, 34, 0, 0, []), some (.iconst 0, 35, 0, 0, []), some (.iconst 0, 36, 0, 0, []), some (.iconst 0, 37, 0, 0, []), some (.invokevirtual 200, 40, 0, 0, []), none, none, some (.ifCond .eq 8, 43, 48, 0, []), none, none, some (.aload_n 0, 44, 0, 0, []), some (.getfield 207, 47, 0, 0, []), none, none, some (.ireturn, 48, 0, 0, [])],
  [some (.aload_n 0, 49, 0, 0, []), some (.bipush 110, 51, 0, 110, []), none, some (.bipush 117, 53, 0, 117, []), none, some (.bipush 109, 55, 0, 109, []), none, some (.bipush 98, 57, 0, 98, []), none, some (.bipush 101, 59, 0, 101, []), none, some (.bipush 114, 61, 0, 114, []), none, some (.iconst 0, 62, 0, 0, []), some (.iconst 0, 63, 0, 0, []), some (.invokevirtual 200, 66, 0, 0, [])],
  [none, none, some (.ifCond .eq 8, 69, 74, 0, []), none, none, some (.aload_n 0, 70, 0, 0, []), some (.getfield 210, 73, 0, 0, []), none, none, some (.ireturn, 74, 0, 0, []), some (.aload_n 0, 75, 0, 0, []), some (.bipush 114, 77, 0, 114, []), none, some (.bipush 111, 79, 0, 111, []), none, some (.bipush 117, 81, 0, 117, [])],
  [none, some (.bipush 110, 83, 0, 110, []), none, some (.bipush 100, 85, 0, 100, []), none, some (.iconst 0, 86, 0, 0, []), some (.iconst 0, 87, 0, 0, []), some (.iconst 0, 88, 0, 0, []), some (.invokevirtual 200, 91, 0, 0, []), none, none, some (.ifCond .eq 8, 94, 99, 0, []), none, none, some (.aload_n 0, 95, 0, 0, []), some (.getfield 213, 98, 0, 0, [])],
  [none, none, some (.ireturn, 99, 0, 0, []), some (.aload_n 0, 100, 0, 0, []), some (.bipush 100, 102, 0, 100, []), none, some (.bipush 111, 104, 0, 111, []), none, some (.bipush 110, 106, 0, 110, []), none, some (.bipush 101, 108, 0, 101, []), none, some (.iconst 0, 109, 0, 0, []), some (.iconst 0, 110, 0, 0, []), some (.iconst 0, 111, 0, 0, []), some (.iconst 0, 112, 0, 0, [])],
  [some (.invokevirtual 200, 115, 0, 0, []), none, none, some (.ifCond .eq 8, 118, 123, 0, []), none, none, some (.aload_n 0, 119, 0, 0, []), some (.getfield 216, 122, 0, 0, []), none, none, some (.ireturn, 123, 0, 0, []), some (.aload_n 0, 124, 0, 0, []), some (.bipush 110, 126, 0, 110, []), none, some (.bipush 105, 128, 0, 105, []), none],
  [some (.bipush 103, 130, 0, 103, []), none, some (.bipush 104, 132, 0, 104, []), none, some (.bipush 116, 134, 0, 116, []), none, some (.iconst 0, 135, 0, 0, []), some (.iconst 0, 136, 0, 0, []), some (.iconst 0, 137, 0, 0, []), some (.invokevirtual 200, 140, 0, 0, []), none, none, some (.ifCond .eq 8, 143, 148, 0, []), none, none, some (.aload_n 0, 144, 0, 0, [])],
  [some (.getfield 219, 147, 0, 0, []), none, none, some (.ireturn, 148, 0, 0, []), some (.aload_n 0, 149, 0, 0, []), some (.invokevirtual 194, 152, 0, 0, []), none, none, some (.iconst 0, 153, 0, 0, []), some (.ireturn, 154, 0, 0, [])]]
def m_X6_name : MT := ((cd_X6_name, 6, 0, 0, 1), (yX6_name, cX6_name, 1, (some .int)))
def cd_X6_atom : List (List (Option Ent)) := [[some (.iconst 0, 1, 0, 0, []), some (.istore_n 1, 2, 0, 0, []), some (.aload_n 0, 3, 0, 0, []), some (.bipush 45, 5, 0, 45, []), none, some (.invokevirtual 222, 8, 0, 0, []), none, none, some (.ifCond .eq 29, 11, 37, 0, []), none, none, some (.aload_n 0, 12, 0, 0, []), some (.invokevirtual 225, 15, 0, 0, []), none, none, some (.ifCond .eq 146, 18, 161, 0, [])],
  [none, none, some (.aload_n 0, 19, 0, 0, []), some (.invokevirtual 229, 22, 0, 0, []), none, none, some (.ineg, 23, 0, 0, []), some (.istore_n 1, 24, 0, 0, []), some (.aload_n 0, 25, 0, 0, []), some (.dup, 26, 0, 0, []), some (.getfield 191, 29, 0, 0, []), none, none, some (.iconst 1, 30, 0, 1, []), some (.isub, 31, 0, 0, []), some (.putfield 191, 34, 0, 0, [])],
  [none, none, some (.goto 127, 37, 161, 0, []), none, none, some (.aload_n 0, 38, 0, 0, []), some (.bipush 40, 40, 0, 40, []), none, some (.invokevirtual 222, 43, 0, 0, []), none, none, some (.ifCond .eq 52, 46, 95, 0, []), none, none, some (.aload_n 0, 47, 0, 0, []), some (.invokevirtual 225, 50, 0, 0, [])],
  [none, none, some (.ifCond .eq 111, 53, 161, 0, []), none, none, some (.aload_n 0, 54, 0, 0, []), some (.invokevirtual 233, 57, 0, 0, []), none, none, some (.istore_n 1, 58, 0, 0, []), some (.aload_n 0, 59, 0, 0, []), some (.bipush 41, 61, 0, 41, []), none, some (.invokevirtual 222, 64, 0, 0, []), none, none],
  [some (.ifCond .ne 7, 67, 71, 0, []), none, none, some (.aload_n 0, 68, 0, 0, []), some (.invokevirtual 194, 71, 0, 0, []), none, none, some (.aload_n 0, 72, 0, 0, []), some (.dup, 73, 0, 0, []), some (.getfield 191, 76, 0, 0, []), none, none, some (.iconst 1, 77, 0, 1, []), some (.isub, 78, 0, 0, []), some (.putfield 191, 81, 0, 0, []), none],
  [none, some (.aload_n 0, 82, 0, 0, []), some (.getfield 181, 85, 0, 0, []), none, none, some (.ifCond .ne 76, 88, 161, 0, []), none, none, some (.aload_n 0, 89, 0, 0, []), some (.invokevirtual 197, 92, 0, 0, []), none, none, some (.goto 69, 95, 161, 0, []), none, none, some (.aload_n 0, 96, 0, 0, [])],
  [some (.getfield 181, 99, 0, 0, []), none, none, some (.ifCond .ne 24, 102, 123, 0, []), none, none, some (.aload_n 0, 103, 0, 0, []), some (.getfield 164, 106, 0, 0, []), none, none, some (.iconst 2, 107, 0, 2, []), some (.if_icmp .ne 16, 110, 123, 0, []), none, none, some (.aload_n 0, 111, 0, 0, []), some (.getfield 175, 114, 0, 0, [])],
  [none, none, some (.l2i, 115, 0, 0, []), some (.istore_n 1, 116, 0, 0, []), some (.aload_n 0, 117, 0, 0, []), some (.invokevirtual 197, 120, 0, 0, []), none, none, some (.goto 41, 123, 161, 0, []), none, none, some (.aload_n 0, 124, 0, 0, []), some (.getfield 181, 127, 0, 0, []), none, none, some (.ifCond .ne 30, 130, 157, 0, [])],
  [none, none, some (.aload_n 0, 131, 0, 0, []), some (.getfield 164, 134, 0, 0, []), none, none, some (.iconst 1, 135, 0, 1, []), some (.if_icmp .ne 22, 138, 157, 0, []), none, none, some (.aload_n 0, 139, 0, 0, []), some (.invokevirtual 236, 142, 0, 0, []), none, none, some (.istore_n 1, 143, 0, 0, []), some (.aload_n 0, 144, 0, 0, [])],
  [some (.getfield 181, 147, 0, 0, []), none, none, some (.ifCond .ne 14, 150, 161, 0, []), none, none, some (.aload_n 0, 151, 0, 0, []), some (.invokevirtual 197, 154, 0, 0, []), none, none, some (.goto 7, 157, 161, 0, []), none, none, some (.aload_n 0, 158, 0, 0, []), some (.invokevirtual 194, 161, 0, 0, []), none],
  [none, some (.iload_n 1, 162, 0, 0, []), some (.ireturn, 163, 0, 0, [])]]
def m_X6_atom : MT := ((cd_X6_atom, 6, 0, 0, 1), (yX6_atom, cX6_atom, 2, (some .int)))
def cd_X6_term : List (List (Option Ent)) := [[some (.aload_n 0, 1, 0, 0, []), some (.invokevirtual 229, 4, 0, 0, []), none, none, some (.istore_n 1, 5, 0, 0, []), some (.aload_n 0, 6, 0, 0, []), some (.bipush 42, 8, 0, 42, []), none, some (.invokevirtual 222, 11, 0, 0, []), none, none, some (.ifCond .eq 17, 14, 28, 0, []), none, none, some (.aload_n 0, 15, 0, 0, []), some (.invokevirtual 197, 18, 0, 0, [])],
  [none, none, some (.iload_n 1, 19, 0, 0, []), some (.aload_n 0, 20, 0, 0, []), some (.invokevirtual 229, 23, 0, 0, []), none, none, some (.imul, 24, 0, 0, []), some (.istore_n 1, 25, 0, 0, []), some (.goto (-20), 28, 5, 0, []), none, none, some (.iload_n 1, 29, 0, 0, []), some (.ireturn, 30, 0, 0, [])]]
def m_X6_term : MT := ((cd_X6_term, 6, 0, 0, 1), (yX6_term, cX6_term, 2, (some .int)))
def cd_X6_added : List (List (Option Ent)) := [[some (.aload_n 0, 1, 0, 0, []), some (.invokevirtual 239, 4, 0, 0, []), none, none, some (.istore_n 1, 5, 0, 0, []), some (.aload_n 0, 6, 0, 0, []), some (.bipush 43, 8, 0, 43, []), none, some (.invokevirtual 222, 11, 0, 0, []), none, none, some (.ifCond .ne 12, 14, 23, 0, []), none, none, some (.aload_n 0, 15, 0, 0, []), some (.bipush 45, 17, 0, 45, [])],
  [none, some (.invokevirtual 222, 20, 0, 0, []), none, none, some (.ifCond .eq 46, 23, 66, 0, []), none, none, some (.aload_n 0, 24, 0, 0, []), some (.getfield 175, 27, 0, 0, []), none, none, some (.ldc2_w 242, 30, 0, 0, []), none, none, some (.lcmp, 31, 0, 0, []), some (.ifCond .ne 7, 34, 38, 0, [])],
  [none, none, some (.iconst 1, 35, 0, 1, []), some (.goto 4, 38, 39, 0, []), none, none, some (.iconst 0, 39, 0, 0, []), some (.istore_n 2, 40, 0, 0, []), some (.aload_n 0, 41, 0, 0, []), some (.invokevirtual 197, 44, 0, 0, []), none, none, some (.aload_n 0, 45, 0, 0, []), some (.invokevirtual 239, 48, 0, 0, []), none, none],
  [some (.istore_n 3, 49, 0, 0, []), some (.iload_n 2, 50, 0, 0, []), some (.ifCond .eq 9, 53, 59, 0, []), none, none, some (.iload_n 1, 54, 0, 0, []), some (.iload_n 3, 55, 0, 0, []), some (.iadd, 56, 0, 0, []), some (.goto 6, 59, 62, 0, []), none, none, some (.iload_n 1, 60, 0, 0, []), some (.iload_n 3, 61, 0, 0, []), some (.isub, 62, 0, 0, []), some (.istore_n 1, 63, 0, 0, []), some (.goto (-58), 66, 5, 0, [])],
  [none, none, some (.iload_n 1, 67, 0, 0, []), some (.ireturn, 68, 0, 0, [])]]
def m_X6_added : MT := ((cd_X6_added, 6, 0, 0, 1), (yX6_added, cX6_added, 4, (some .int)))
def cd_X6_not : List (List (Option Ent)) := [[some (.aload_n 0, 1, 0, 0, []), some (.bipush 110, 3, 0, 110, []), none, some (.bipush 111, 5, 0, 111, []), none, some (.bipush 116, 7, 0, 116, []), none, some (.iconst 0, 8, 0, 0, []), some (.iconst 0, 9, 0, 0, []), some (.iconst 0, 10, 0, 0, []), some (.iconst 0, 11, 0, 0, []), some (.iconst 0, 12, 0, 0, []), some (.invokevirtual 200, 15, 0, 0, []), none, none, some (.ifCond .eq 37, 18, 52, 0, [])],
  [none, none, some (.aload_n 0, 19, 0, 0, []), some (.invokevirtual 225, 22, 0, 0, []), none, none, some (.ifCond .ne 5, 25, 27, 0, []), none, none, some (.iconst 0, 26, 0, 0, []), some (.ireturn, 27, 0, 0, []), some (.aload_n 0, 28, 0, 0, []), some (.invokevirtual 244, 31, 0, 0, []), none, none, some (.istore_n 1, 32, 0, 0, [])],
  [some (.aload_n 0, 33, 0, 0, []), some (.dup, 34, 0, 0, []), some (.getfield 191, 37, 0, 0, []), none, none, some (.iconst 1, 38, 0, 1, []), some (.isub, 39, 0, 0, []), some (.putfield 191, 42, 0, 0, []), none, none, some (.iload_n 1, 43, 0, 0, []), some (.ifCond .ne 7, 46, 50, 0, []), none, none, some (.iconst 1, 47, 0, 1, []), some (.goto 4, 50, 51, 0, [])],
  [none, none, some (.iconst 0, 51, 0, 0, []), some (.ireturn, 52, 0, 0, []), some (.aload_n 0, 53, 0, 0, []), some (.invokevirtual 247, 56, 0, 0, []), none, none, some (.istore_n 1, 57, 0, 0, []), some (.aload_n 0, 58, 0, 0, []), some (.bipush 60, 60, 0, 60, []), none, some (.invokevirtual 222, 63, 0, 0, []), none, none, some (.ifCond .ne 14, 66, 77, 0, [])],
  [none, none, some (.aload_n 0, 67, 0, 0, []), some (.bipush 61, 69, 0, 61, []), none, some (.invokevirtual 222, 72, 0, 0, []), none, none, some (.ifCond .ne 5, 75, 77, 0, []), none, none, some (.iload_n 1, 76, 0, 0, []), some (.ireturn, 77, 0, 0, []), some (.aload_n 0, 78, 0, 0, []), some (.getfield 175, 81, 0, 0, []), none],
  [none, some (.ldc2_w 250, 84, 0, 0, []), none, none, some (.lcmp, 85, 0, 0, []), some (.ifCond .ne 7, 88, 92, 0, []), none, none, some (.iconst 1, 89, 0, 1, []), some (.goto 4, 92, 93, 0, []), none, none, some (.iconst 0, 93, 0, 0, []), some (.istore_n 2, 94, 0, 0, []), some (.aload_n 0, 95, 0, 0, []), some (.invokevirtual 197, 98, 0, 0, [])],
  [none, none, some (.aload_n 0, 99, 0, 0, []), some (.invokevirtual 247, 102, 0, 0, []), none, none, some (.istore_n 3, 103, 0, 0, []), some (.iload_n 2, 104, 0, 0, []), some (.ifCond .eq 11, 107, 115, 0, []), none, none, some (.iload_n 1, 108, 0, 0, []), some (.iload_n 3, 109, 0, 0, []), some (.if_icmp .ge 15, 112, 124, 0, []), none, none],
  [some (.goto 8, 115, 120, 0, []), none, none, some (.iload_n 1, 116, 0, 0, []), some (.iload_n 3, 117, 0, 0, []), some (.if_icmp .ne 7, 120, 124, 0, []), none, none, some (.iconst 1, 121, 0, 1, []), some (.goto 4, 124, 125, 0, []), none, none, some (.iconst 0, 125, 0, 0, []), some (.ireturn, 126, 0, 0, [])]]
def m_X6_not : MT := ((cd_X6_not, 6, 0, 0, 1), (yX6_not, cX6_not, 4, (some .int)))
def cd_X6_both : List (List (Option Ent)) := [[some (.aload_n 0, 1, 0, 0, []), some (.invokevirtual 244, 4, 0, 0, []), none, none, some (.istore_n 1, 5, 0, 0, []), some (.aload_n 0, 6, 0, 0, []), some (.bipush 97, 8, 0, 97, []), none, some (.bipush 110, 10, 0, 110, []), none, some (.bipush 100, 12, 0, 100, []), none, some (.iconst 0, 13, 0, 0, []), some (.iconst 0, 14, 0, 0, []), some (.iconst 0, 15, 0, 0, []), some (.iconst 0, 16, 0, 0, [])],
  [some (.iconst 0, 17, 0, 0, []), some (.invokevirtual 200, 20, 0, 0, []), none, none, some (.ifCond .eq 29, 23, 49, 0, []), none, none, some (.aload_n 0, 24, 0, 0, []), some (.invokevirtual 197, 27, 0, 0, []), none, none, some (.aload_n 0, 28, 0, 0, []), some (.invokevirtual 244, 31, 0, 0, []), none, none, some (.istore_n 2, 32, 0, 0, [])],
  [some (.iload_n 1, 33, 0, 0, []), some (.ifCond .eq 11, 36, 44, 0, []), none, none, some (.iload_n 2, 37, 0, 0, []), some (.ifCond .eq 7, 40, 44, 0, []), none, none, some (.iconst 1, 41, 0, 1, []), some (.goto 4, 44, 45, 0, []), none, none, some (.iconst 0, 45, 0, 0, []), some (.istore_n 1, 46, 0, 0, []), some (.goto (-41), 49, 5, 0, []), none],
  [none, some (.iload_n 1, 50, 0, 0, []), some (.ireturn, 51, 0, 0, [])]]
def m_X6_both : MT := ((cd_X6_both, 6, 0, 0, 1), (yX6_both, cX6_both, 3, (some .int)))
def cd_X6_either : List (List (Option Ent)) := [[some (.aload_n 0, 1, 0, 0, []), some (.invokevirtual 252, 4, 0, 0, []), none, none, some (.istore_n 1, 5, 0, 0, []), some (.aload_n 0, 6, 0, 0, []), some (.bipush 111, 8, 0, 111, []), none, some (.bipush 114, 10, 0, 114, []), none, some (.iconst 0, 11, 0, 0, []), some (.iconst 0, 12, 0, 0, []), some (.iconst 0, 13, 0, 0, []), some (.iconst 0, 14, 0, 0, []), some (.iconst 0, 15, 0, 0, []), some (.iconst 0, 16, 0, 0, [])],
  [some (.invokevirtual 200, 19, 0, 0, []), none, none, some (.ifCond .eq 29, 22, 48, 0, []), none, none, some (.aload_n 0, 23, 0, 0, []), some (.invokevirtual 197, 26, 0, 0, []), none, none, some (.aload_n 0, 27, 0, 0, []), some (.invokevirtual 252, 30, 0, 0, []), none, none, some (.istore_n 2, 31, 0, 0, []), some (.iload_n 1, 32, 0, 0, [])],
  [some (.ifCond .ne 7, 35, 39, 0, []), none, none, some (.iload_n 2, 36, 0, 0, []), some (.ifCond .eq 7, 39, 43, 0, []), none, none, some (.iconst 1, 40, 0, 1, []), some (.goto 4, 43, 44, 0, []), none, none, some (.iconst 0, 44, 0, 0, []), some (.istore_n 1, 45, 0, 0, []), some (.goto (-40), 48, 5, 0, []), none, none],
  [some (.iload_n 1, 49, 0, 0, []), some (.ireturn, 50, 0, 0, [])]]
def m_X6_either : MT := ((cd_X6_either, 6, 0, 0, 1), (yX6_either, cX6_either, 3, (some .int)))
def cd_X6_part : List (List (Option Ent)) := [[some (.iload_n 1, 1, 0, 0, []), some (.ifCond .ne 7, 4, 8, 0, []), none, none, some (.aload_n 0, 5, 0, 0, []), some (.invokevirtual 194, 8, 0, 0, []), none, none, some (.aload_n 0, 9, 0, 0, []), some (.getfield 181, 12, 0, 0, []), none, none, some (.ifCond .ne 7, 15, 19, 0, []), none, none, some (.aload_n 0, 16, 0, 0, [])],
  [some (.invokevirtual 197, 19, 0, 0, []), none, none, some (.aload_n 0, 20, 0, 0, []), some (.getfield 181, 23, 0, 0, []), none, none, some (.ifCond .eq 7, 26, 30, 0, []), none, none, some (.iconst 0, 27, 0, 0, []), some (.goto 7, 30, 34, 0, []), none, none, some (.aload_n 0, 31, 0, 0, []), some (.invokevirtual 233, 34, 0, 0, [])],
  [none, none, some (.istore_n 2, 35, 0, 0, []), some (.aload_n 0, 36, 0, 0, []), some (.bipush 59, 38, 0, 59, []), none, some (.invokevirtual 222, 41, 0, 0, []), none, none, some (.ifCond .ne 7, 44, 48, 0, []), none, none, some (.aload_n 0, 45, 0, 0, []), some (.invokevirtual 194, 48, 0, 0, []), none, none],
  [some (.aload_n 0, 49, 0, 0, []), some (.getfield 181, 52, 0, 0, []), none, none, some (.ifCond .ne 7, 55, 59, 0, []), none, none, some (.aload_n 0, 56, 0, 0, []), some (.invokevirtual 197, 59, 0, 0, []), none, none, some (.iload_n 2, 60, 0, 0, []), some (.ireturn, 61, 0, 0, [])]]
def m_X6_part : MT := ((cd_X6_part, 6, 0, 0, 1), (yX6_part, cX6_part, 3, (some .int)))
def cd_X6_read : List (List (Option Ent)) := [[some (.aload_n 0, 1, 0, 0, []), some (.sipush 160, 4, 0, 160, []), none, none, some (.iload_n 1, 5, 0, 0, []), some (.imul, 6, 0, 0, []), some (.putfield 152, 9, 0, 0, []), none, none, some (.aload_n 0, 10, 0, 0, []), some (.aload_n 0, 11, 0, 0, []), some (.getfield 17, 14, 0, 0, []), none, none, some (.iload_n 1, 15, 0, 0, []), some (.iaload, 16, 0, 0, [])],
  [some (.putfield 149, 19, 0, 0, []), none, none, some (.aload_n 0, 20, 0, 0, []), some (.iconst 0, 21, 0, 0, []), some (.putfield 155, 24, 0, 0, []), none, none, some (.aload_n 0, 25, 0, 0, []), some (.iconst 0, 26, 0, 0, []), some (.putfield 191, 29, 0, 0, []), none, none, some (.aload_n 0, 30, 0, 0, []), some (.iconst 0, 31, 0, 0, []), some (.putfield 181, 34, 0, 0, [])],
  [none, none, some (.aload_n 0, 35, 0, 0, []), some (.invokevirtual 197, 38, 0, 0, []), none, none, some (.aload_n 0, 39, 0, 0, []), some (.aload_n 0, 40, 0, 0, []), some (.bipush 112, 42, 0, 112, []), none, some (.bipush 97, 44, 0, 97, []), none, some (.bipush 121, 46, 0, 121, []), none, some (.bipush 115, 48, 0, 115, []), none],
  [some (.iconst 0, 49, 0, 0, []), some (.iconst 0, 50, 0, 0, []), some (.iconst 0, 51, 0, 0, []), some (.iconst 0, 52, 0, 0, []), some (.invokevirtual 200, 55, 0, 0, []), none, none, some (.invokevirtual 255, 58, 0, 0, []), none, none, some (.istore_n 3, 59, 0, 0, []), some (.aload_n 0, 60, 0, 0, []), some (.getfield 181, 63, 0, 0, []), none, none, some (.ifCond .eq 7, 66, 70, 0, [])],
  [none, none, some (.iconst 0, 67, 0, 0, []), some (.goto 24, 70, 91, 0, []), none, none, some (.aload_n 0, 71, 0, 0, []), some (.aload_n 0, 72, 0, 0, []), some (.bipush 119, 74, 0, 119, []), none, some (.bipush 105, 76, 0, 105, []), none, some (.bipush 108, 78, 0, 108, []), none, some (.bipush 108, 80, 0, 108, []), none],
  [some (.bipush 115, 82, 0, 115, []), none, some (.iconst 0, 83, 0, 0, []), some (.iconst 0, 84, 0, 0, []), some (.iconst 0, 85, 0, 0, []), some (.invokevirtual 200, 88, 0, 0, []), none, none, some (.invokevirtual 255, 91, 0, 0, []), none, none, some (.istore 4, 93, 0, 0, []), none, some (.aload_n 0, 94, 0, 0, []), some (.getfield 181, 97, 0, 0, []), none],
  [none, some (.ifCond .eq 7, 100, 104, 0, []), none, none, some (.iconst 0, 101, 0, 0, []), some (.goto 25, 104, 126, 0, []), none, none, some (.aload_n 0, 105, 0, 0, []), some (.aload_n 0, 106, 0, 0, []), some (.bipush 98, 108, 0, 98, []), none, some (.bipush 114, 110, 0, 114, []), none, some (.bipush 101, 112, 0, 101, []), none],
  [some (.bipush 97, 114, 0, 97, []), none, some (.bipush 116, 116, 0, 116, []), none, some (.bipush 104, 118, 0, 104, []), none, some (.iconst 0, 119, 0, 0, []), some (.iconst 0, 120, 0, 0, []), some (.invokevirtual 200, 123, 0, 0, []), none, none, some (.invokevirtual 255, 126, 0, 0, []), none, none, some (.istore 5, 128, 0, 0, []), none],
  [some (.aload_n 0, 129, 0, 0, []), some (.getfield 181, 132, 0, 0, []), none, none, some (.ifCond .ne 14, 135, 146, 0, []), none, none, some (.aload_n 0, 136, 0, 0, []), some (.getfield 164, 139, 0, 0, []), none, none, some (.ifCond .eq 7, 142, 146, 0, []), none, none, some (.aload_n 0, 143, 0, 0, []), some (.invokevirtual 194, 146, 0, 0, [])],
  [none, none, some (.iload_n 2, 147, 0, 0, []), some (.ifCond .ne 7, 150, 154, 0, []), none, none, some (.iload_n 3, 151, 0, 0, []), some (.goto 15, 154, 166, 0, []), none, none, some (.iload_n 2, 155, 0, 0, []), some (.iconst 1, 156, 0, 1, []), some (.if_icmp .ne 8, 159, 164, 0, []), none, none, some (.iload 4, 161, 0, 0, [])],
  [none, some (.goto 5, 164, 166, 0, []), none, none, some (.iload 5, 166, 0, 0, []), none, some (.ireturn, 167, 0, 0, [])]]
def m_X6_read : MT := ((cd_X6_read, 6, 0, 0, 1), (yX6_read, cX6_read, 6, (some .int)))
def cd_X6_text : List (List (Option Ent)) := [[some (.aload_n 0, 1, 0, 0, []), some (.getfield 80, 4, 0, 0, []), none, none, some (.bipush 6, 6, 0, 6, []), none, some (.if_icmp .ne 6, 9, 12, 0, []), none, none, some (.bipush (-4), 11, 0, (-4), []), none, some (.ireturn, 12, 0, 0, []), some (.iconst 0, 13, 0, 0, []), some (.istore_n 1, 14, 0, 0, []), some (.iload_n 1, 15, 0, 0, []), some (.aload_n 0, 16, 0, 0, [])],
  [some (.getfield 146, 19, 0, 0, []), none, none, some (.if_icmp .ge 30, 22, 49, 0, []), none, none, some (.aload_n 0, 23, 0, 0, []), some (.getfield 13, 26, 0, 0, []), none, none, some (.sipush 160, 29, 0, 160, []), none, none, some (.aload_n 0, 30, 0, 0, []), some (.getfield 80, 33, 0, 0, []), none],
  [none, some (.imul, 34, 0, 0, []), some (.iload_n 1, 35, 0, 0, []), some (.iadd, 36, 0, 0, []), some (.aload_n 0, 37, 0, 0, []), some (.getfield 20, 40, 0, 0, []), none, none, some (.iload_n 1, 41, 0, 0, []), some (.iaload, 42, 0, 0, []), some (.iastore, 43, 0, 0, []), some (.iinc 1 1, 46, 0, 1, []), none, none, some (.goto (-32), 49, 14, 0, []), none],
  [none, some (.aload_n 0, 50, 0, 0, []), some (.getfield 17, 53, 0, 0, []), none, none, some (.aload_n 0, 54, 0, 0, []), some (.getfield 80, 57, 0, 0, []), none, none, some (.aload_n 0, 58, 0, 0, []), some (.getfield 146, 61, 0, 0, []), none, none, some (.iastore, 62, 0, 0, []), some (.aload_n 0, 63, 0, 0, []), some (.iconst 0, 64, 0, 0, [])],
  [some (.putfield 146, 67, 0, 0, []), none, none, some (.aload_n 0, 68, 0, 0, []), some (.aload_n 0, 69, 0, 0, []), some (.getfield 80, 72, 0, 0, []), none, none, some (.iconst 0, 73, 0, 0, []), some (.invokevirtual 259, 76, 0, 0, []), none, none, some (.istore_n 1, 77, 0, 0, []), some (.aload_n 0, 78, 0, 0, []), some (.getfield 181, 81, 0, 0, []), none],
  [none, some (.ifCond .eq 11, 84, 92, 0, []), none, none, some (.bipush (-100), 86, 0, (-100), []), none, some (.aload_n 0, 87, 0, 0, []), some (.getfield 185, 90, 0, 0, []), none, none, some (.isub, 91, 0, 0, []), some (.ireturn, 92, 0, 0, []), some (.aload_n 0, 93, 0, 0, []), some (.dup, 94, 0, 0, []), some (.getfield 80, 97, 0, 0, []), none],
  [none, some (.iconst 1, 98, 0, 1, []), some (.iadd, 99, 0, 0, []), some (.putfield 80, 102, 0, 0, []), none, none, some (.aload_n 0, 103, 0, 0, []), some (.getfield 80, 106, 0, 0, []), none, none, some (.iconst 1, 107, 0, 1, []), some (.isub, 108, 0, 0, []), some (.ireturn, 109, 0, 0, [])]]
def m_X6_text : MT := ((cd_X6_text, 6, 0, 0, 1), (yX6_text, cX6_text, 2, (some .int)))
def cd_X6_force : List (List (Option Ent)) := [[some (.iload_n 1, 1, 0, 0, []), some (.i2l, 2, 0, 0, []), some (.lconst 0, 3, 0, 0, []), some (.aload_n 0, 4, 0, 0, []), some (.getfield 80, 7, 0, 0, []), none, none, some (.iconst 1, 8, 0, 1, []), some (.isub, 9, 0, 0, []), some (.i2l, 10, 0, 0, []), some (.invokestatic 86, 13, 0, 0, []), none, none, some (.ifCond .ne 6, 16, 19, 0, []), none, none],
  [some (.bipush (-2), 18, 0, (-2), []), none, some (.ireturn, 19, 0, 0, []), some (.aload_n 0, 20, 0, 0, []), some (.getfield 123, 23, 0, 0, []), none, none, some (.istore_n 2, 24, 0, 0, []), some (.aload_n 0, 25, 0, 0, []), some (.iload_n 1, 26, 0, 0, []), some (.putfield 123, 29, 0, 0, []), none, none, some (.iload_n 2, 30, 0, 0, []), some (.ireturn, 31, 0, 0, [])]]
def m_X6_force : MT := ((cd_X6_force, 6, 0, 0, 1), (yX6_force, cX6_force, 3, (some .int)))
def cd_X6_says : List (List (Option Ent)) := [[some (.aload_n 0, 1, 0, 0, []), some (.iload_n 3, 2, 0, 0, []), some (.putfield 204, 5, 0, 0, []), none, none, some (.aload_n 0, 6, 0, 0, []), some (.aload_n 0, 7, 0, 0, []), some (.iload_n 2, 8, 0, 0, []), some (.invokevirtual 138, 11, 0, 0, []), none, none, some (.putfield 207, 14, 0, 0, []), none, none, some (.aload_n 0, 15, 0, 0, []), some (.aload_n 0, 16, 0, 0, [])],
  [some (.getfield 26, 19, 0, 0, []), none, none, some (.iconst 2, 20, 0, 2, []), some (.iload_n 2, 21, 0, 0, []), some (.imul, 22, 0, 0, []), some (.iaload, 23, 0, 0, []), some (.putfield 210, 26, 0, 0, []), none, none, some (.aload_n 0, 27, 0, 0, []), some (.aload_n 0, 28, 0, 0, []), some (.getfield 114, 31, 0, 0, []), none, none, some (.putfield 213, 34, 0, 0, [])],
  [none, none, some (.aload_n 0, 35, 0, 0, []), some (.aload_n 0, 36, 0, 0, []), some (.getfield 26, 39, 0, 0, []), none, none, some (.iconst 2, 40, 0, 2, []), some (.iload_n 2, 41, 0, 0, []), some (.imul, 42, 0, 0, []), some (.iconst 1, 43, 0, 1, []), some (.iadd, 44, 0, 0, []), some (.iaload, 45, 0, 0, []), some (.putfield 216, 48, 0, 0, []), none, none],
  [some (.aload_n 0, 49, 0, 0, []), some (.aload_n 0, 50, 0, 0, []), some (.getfield 117, 53, 0, 0, []), none, none, some (.putfield 219, 56, 0, 0, []), none, none, some (.aload_n 0, 57, 0, 0, []), some (.aload_n 0, 58, 0, 0, []), some (.getfield 123, 61, 0, 0, []), none, none, some (.iload_n 1, 62, 0, 0, []), some (.invokevirtual 259, 65, 0, 0, []), none],
  [none, some (.istore 4, 67, 0, 0, []), none, some (.iload_n 1, 68, 0, 0, []), some (.iconst 1, 69, 0, 1, []), some (.if_icmp .ne 8, 72, 77, 0, []), none, none, some (.iload 4, 74, 0, 0, []), none, some (.goto 11, 77, 85, 0, []), none, none, some (.iload 4, 79, 0, 0, []), none, some (.iconst 0, 80, 0, 0, [])],
  [some (.bipush 99, 82, 0, 99, []), none, some (.invokestatic 262, 85, 0, 0, []), none, none, some (.ireturn, 86, 0, 0, [])]]
def m_X6_says : MT := ((cd_X6_says, 6, 0, 0, 1), (yX6_says, cX6_says, 5, (some .int)))
def cd_X6_paysOf : List (List (Option Ent)) := [[some (.aload_n 0, 1, 0, 0, []), some (.getfield 23, 4, 0, 0, []), none, none, some (.iload_n 1, 5, 0, 0, []), some (.iaload, 6, 0, 0, []), some (.istore_n 3, 7, 0, 0, []), some (.iload_n 3, 8, 0, 0, []), some (.iconst 4, 9, 0, 4, []), some (.if_icmp .eq 8, 12, 17, 0, []), none, none, some (.iload_n 3, 13, 0, 0, []), some (.iconst 5, 14, 0, 5, []), some (.if_icmp .ne 14, 17, 28, 0, []), none],
  [none, some (.iload_n 3, 18, 0, 0, []), some (.iconst 5, 19, 0, 5, []), some (.if_icmp .ne 7, 22, 26, 0, []), none, none, some (.iconst 0, 23, 0, 0, []), some (.goto 4, 26, 27, 0, []), none, none, some (.iload_n 2, 27, 0, 0, []), some (.ireturn, 28, 0, 0, []), some (.iload_n 3, 29, 0, 0, []), some (.iconst 2, 30, 0, 2, []), some (.if_icmp .ne 10, 33, 40, 0, []), none],
  [none, some (.iconst 1, 34, 0, 1, []), some (.iconst 0, 35, 0, 0, []), some (.iload_n 2, 36, 0, 0, []), some (.invokestatic 262, 39, 0, 0, []), none, none, some (.ireturn, 40, 0, 0, []), some (.aload_n 0, 41, 0, 0, []), some (.iconst 0, 42, 0, 0, []), some (.iload_n 1, 43, 0, 0, []), some (.iload_n 2, 44, 0, 0, []), some (.invokevirtual 266, 47, 0, 0, []), none, none, some (.istore 4, 49, 0, 0, [])],
  [none, some (.iload_n 3, 50, 0, 0, []), some (.ifCond .ne 8, 53, 58, 0, []), none, none, some (.iload 4, 55, 0, 0, []), none, some (.goto 37, 58, 92, 0, []), none, none, some (.iload_n 3, 59, 0, 0, []), some (.iconst 3, 60, 0, 3, []), some (.if_icmp .ne 28, 63, 88, 0, []), none, none, some (.aload_n 0, 64, 0, 0, [])],
  [some (.getfield 114, 67, 0, 0, []), none, none, some (.iconst 2, 68, 0, 2, []), some (.irem, 69, 0, 0, []), some (.ifCond .ne 19, 72, 88, 0, []), none, none, some (.iconst 2, 73, 0, 2, []), some (.iload 4, 75, 0, 0, []), none, some (.imul, 76, 0, 0, []), some (.aload_n 0, 77, 0, 0, []), some (.getfield 26, 80, 0, 0, []), none, none],
  [some (.iconst 2, 81, 0, 2, []), some (.iload_n 1, 82, 0, 0, []), some (.imul, 83, 0, 0, []), some (.iaload, 84, 0, 0, []), some (.iadd, 85, 0, 0, []), some (.goto 7, 88, 92, 0, []), none, none, some (.iconst 2, 89, 0, 2, []), some (.iload 4, 91, 0, 0, []), none, some (.imul, 92, 0, 0, []), some (.iconst 0, 93, 0, 0, []), some (.iload_n 2, 94, 0, 0, []), some (.invokestatic 262, 97, 0, 0, []), none],
  [none, some (.ireturn, 98, 0, 0, [])]]
def m_X6_paysOf : MT := ((cd_X6_paysOf, 6, 0, 0, 1), (yX6_paysOf, cX6_paysOf, 5, (some .int)))
def cd_X6_willOf : List (List (Option Ent)) := [[some (.aload_n 0, 1, 0, 0, []), some (.getfield 23, 4, 0, 0, []), none, none, some (.iload_n 1, 5, 0, 0, []), some (.iaload, 6, 0, 0, []), some (.istore_n 3, 7, 0, 0, []), some (.iload_n 3, 8, 0, 0, []), some (.iconst 5, 9, 0, 5, []), some (.if_icmp .eq 8, 12, 17, 0, []), none, none, some (.iload_n 3, 13, 0, 0, []), some (.iconst 1, 14, 0, 1, []), some (.if_icmp .ne 14, 17, 28, 0, []), none],
  [none, some (.iload_n 3, 18, 0, 0, []), some (.iconst 1, 19, 0, 1, []), some (.if_icmp .ne 7, 22, 26, 0, []), none, none, some (.iconst 1, 23, 0, 1, []), some (.goto 4, 26, 27, 0, []), none, none, some (.iconst 0, 27, 0, 0, []), some (.ireturn, 28, 0, 0, []), some (.iload_n 3, 29, 0, 0, []), some (.iconst 3, 30, 0, 3, []), some (.if_icmp .ne 30, 33, 60, 0, []), none],
  [none, some (.aload_n 0, 34, 0, 0, []), some (.getfield 26, 37, 0, 0, []), none, none, some (.iconst 2, 38, 0, 2, []), some (.iload_n 1, 39, 0, 0, []), some (.imul, 40, 0, 0, []), some (.iconst 1, 41, 0, 1, []), some (.iadd, 42, 0, 0, []), some (.iaload, 43, 0, 0, []), some (.aload_n 0, 44, 0, 0, []), some (.getfield 26, 47, 0, 0, []), none, none, some (.iconst 2, 48, 0, 2, [])],
  [some (.iload_n 1, 49, 0, 0, []), some (.imul, 50, 0, 0, []), some (.iaload, 51, 0, 0, []), some (.if_icmp .eq 7, 54, 58, 0, []), none, none, some (.iconst 1, 55, 0, 1, []), some (.goto 4, 58, 59, 0, []), none, none, some (.iconst 0, 59, 0, 0, []), some (.ireturn, 60, 0, 0, []), some (.iload_n 3, 61, 0, 0, []), some (.iconst 4, 62, 0, 4, []), some (.if_icmp .ne 13, 65, 75, 0, []), none],
  [none, some (.aload_n 0, 66, 0, 0, []), some (.iload_n 1, 67, 0, 0, []), some (.invokevirtual 138, 70, 0, 0, []), none, none, some (.ifCond .ne 5, 73, 75, 0, []), none, none, some (.iconst 1, 74, 0, 1, []), some (.ireturn, 75, 0, 0, []), some (.aload_n 0, 76, 0, 0, []), some (.iconst 1, 77, 0, 1, []), some (.iload_n 1, 78, 0, 0, []), some (.aload_n 0, 79, 0, 0, []), some (.iload_n 1, 80, 0, 0, [])],
  [some (.iload_n 2, 81, 0, 0, []), some (.invokevirtual 141, 84, 0, 0, []), none, none, some (.invokevirtual 266, 87, 0, 0, []), none, none, some (.ifCond .eq 7, 90, 94, 0, []), none, none, some (.iconst 1, 91, 0, 1, []), some (.goto 4, 94, 95, 0, []), none, none, some (.iconst 0, 95, 0, 0, []), some (.istore 4, 97, 0, 0, [])],
  [none, some (.iload_n 3, 98, 0, 0, []), some (.ifCond .ne 8, 101, 106, 0, []), none, none, some (.iload 4, 103, 0, 0, []), none, some (.goto 22, 106, 125, 0, []), none, none, some (.iload 4, 108, 0, 0, []), none, some (.ifCond .eq 16, 111, 124, 0, []), none, none, some (.aload_n 0, 112, 0, 0, [])],
  [some (.iload_n 2, 113, 0, 0, []), some (.iload_n 1, 114, 0, 0, []), some (.invokevirtual 141, 117, 0, 0, []), none, none, some (.ifCond .le 7, 120, 124, 0, []), none, none, some (.iconst 1, 121, 0, 1, []), some (.goto 4, 124, 125, 0, []), none, none, some (.iconst 0, 125, 0, 0, []), some (.ireturn, 126, 0, 0, [])]]
def m_X6_willOf : MT := ((cd_X6_willOf, 6, 0, 0, 4), (yX6_willOf, cX6_willOf, 5, (some .boolean)))
def cd_X6_breathOf : List (List (Option Ent)) := [[some (.aload_n 0, 1, 0, 0, []), some (.getfield 23, 4, 0, 0, []), none, none, some (.iload_n 1, 5, 0, 0, []), some (.iaload, 6, 0, 0, []), some (.istore_n 2, 7, 0, 0, []), some (.iload_n 2, 8, 0, 0, []), some (.iconst 4, 9, 0, 4, []), some (.if_icmp .eq 8, 12, 17, 0, []), none, none, some (.iload_n 2, 13, 0, 0, []), some (.iconst 5, 14, 0, 5, []), some (.if_icmp .ne 22, 17, 36, 0, []), none],
  [none, some (.iload_n 2, 18, 0, 0, []), some (.iconst 5, 19, 0, 5, []), some (.if_icmp .ne 14, 22, 33, 0, []), none, none, some (.aload_n 0, 23, 0, 0, []), some (.getfield 26, 26, 0, 0, []), none, none, some (.iconst 2, 27, 0, 2, []), some (.iload_n 1, 28, 0, 0, []), some (.imul, 29, 0, 0, []), some (.iaload, 30, 0, 0, []), some (.goto 5, 33, 35, 0, []), none],
  [none, some (.bipush 99, 35, 0, 99, []), none, some (.ireturn, 36, 0, 0, []), some (.aload_n 0, 37, 0, 0, []), some (.iconst 2, 38, 0, 2, []), some (.iload_n 1, 39, 0, 0, []), some (.iconst 0, 40, 0, 0, []), some (.invokevirtual 266, 43, 0, 0, []), none, none, some (.istore_n 3, 44, 0, 0, []), some (.iload_n 2, 45, 0, 0, []), some (.iconst 2, 46, 0, 2, []), some (.if_icmp .ne 9, 49, 55, 0, []), none],
  [none, some (.iload_n 3, 50, 0, 0, []), some (.iconst 2, 51, 0, 2, []), some (.idiv, 52, 0, 0, []), some (.goto 14, 55, 66, 0, []), none, none, some (.iload_n 2, 56, 0, 0, []), some (.ifCond .ne 7, 59, 63, 0, []), none, none, some (.iload_n 3, 60, 0, 0, []), some (.goto 6, 63, 66, 0, []), none, none, some (.iload_n 3, 64, 0, 0, [])],
  [some (.iconst 3, 65, 0, 3, []), some (.iadd, 66, 0, 0, []), some (.iconst 0, 67, 0, 0, []), some (.bipush 99, 69, 0, 99, []), none, some (.invokestatic 262, 72, 0, 0, []), none, none, some (.ireturn, 73, 0, 0, [])]]
def m_X6_breathOf : MT := ((cd_X6_breathOf, 6, 0, 0, 1), (yX6_breathOf, cX6_breathOf, 4, (some .int)))
def cd_X6_hasBreath : List (List (Option Ent)) := [[some (.aload_n 0, 1, 0, 0, []), some (.getfield 26, 4, 0, 0, []), none, none, some (.iconst 2, 5, 0, 2, []), some (.iload_n 1, 6, 0, 0, []), some (.imul, 7, 0, 0, []), some (.iconst 1, 8, 0, 1, []), some (.iadd, 9, 0, 0, []), some (.iaload, 10, 0, 0, []), some (.aload_n 0, 11, 0, 0, []), some (.iload_n 1, 12, 0, 0, []), some (.invokevirtual 132, 15, 0, 0, []), none, none, some (.if_icmp .ge 7, 18, 22, 0, [])],
  [none, none, some (.iconst 1, 19, 0, 1, []), some (.goto 4, 22, 23, 0, []), none, none, some (.iconst 0, 23, 0, 0, []), some (.ireturn, 24, 0, 0, [])]]
def m_X6_hasBreath : MT := ((cd_X6_hasBreath, 6, 0, 0, 4), (yX6_hasBreath, cX6_hasBreath, 2, (some .boolean)))
def cd_X6_mayDance : List (List (Option Ent)) := [[some (.aload_n 0, 1, 0, 0, []), some (.iload_n 1, 2, 0, 0, []), some (.iload_n 2, 3, 0, 0, []), some (.invokevirtual 141, 6, 0, 0, []), none, none, some (.ifCond .gt 12, 9, 18, 0, []), none, none, some (.aload_n 0, 10, 0, 0, []), some (.iload_n 2, 11, 0, 0, []), some (.iload_n 1, 12, 0, 0, []), some (.invokevirtual 141, 15, 0, 0, []), none, none, some (.ifCond .le 41, 18, 56, 0, [])],
  [none, none, some (.aload_n 0, 19, 0, 0, []), some (.iload_n 1, 20, 0, 0, []), some (.iload_n 2, 21, 0, 0, []), some (.invokevirtual 269, 24, 0, 0, []), none, none, some (.ifCond .eq 32, 27, 56, 0, []), none, none, some (.aload_n 0, 28, 0, 0, []), some (.iload_n 2, 29, 0, 0, []), some (.iload_n 1, 30, 0, 0, []), some (.invokevirtual 269, 33, 0, 0, []), none],
  [none, some (.ifCond .eq 23, 36, 56, 0, []), none, none, some (.aload_n 0, 37, 0, 0, []), some (.iload_n 1, 38, 0, 0, []), some (.invokevirtual 272, 41, 0, 0, []), none, none, some (.ifCond .eq 15, 44, 56, 0, []), none, none, some (.aload_n 0, 45, 0, 0, []), some (.iload_n 2, 46, 0, 0, []), some (.invokevirtual 272, 49, 0, 0, []), none],
  [none, some (.ifCond .eq 7, 52, 56, 0, []), none, none, some (.iconst 1, 53, 0, 1, []), some (.goto 4, 56, 57, 0, []), none, none, some (.iconst 0, 57, 0, 0, []), some (.ireturn, 58, 0, 0, [])]]
def m_X6_mayDance : MT := ((cd_X6_mayDance, 6, 0, 0, 4), (yX6_mayDance, cX6_mayDance, 3, (some .boolean)))
def cd_X6_asks : List (List (Option Ent)) := [[some (.aload_n 0, 1, 0, 0, []), some (.iload_n 1, 2, 0, 0, []), some (.iload_n 2, 3, 0, 0, []), some (.invokevirtual 93, 6, 0, 0, []), none, none, some (.ifCond .eq 15, 9, 21, 0, []), none, none, some (.iload_n 3, 10, 0, 0, []), some (.i2l, 11, 0, 0, []), some (.lconst 0, 12, 0, 0, []), some (.ldc2_w 275, 15, 0, 0, []), none, none, some (.invokestatic 86, 18, 0, 0, [])],
  [none, none, some (.ifCond .ne 6, 21, 24, 0, []), none, none, some (.bipush (-2), 23, 0, (-2), []), none, some (.ireturn, 24, 0, 0, []), some (.iload_n 3, 25, 0, 0, []), some (.ifCond .ne 17, 28, 42, 0, []), none, none, some (.aload_n 0, 29, 0, 0, []), some (.iload_n 1, 30, 0, 0, []), some (.aload_n 0, 31, 0, 0, []), some (.iload_n 1, 32, 0, 0, [])],
  [some (.iload_n 2, 33, 0, 0, []), some (.invokevirtual 141, 36, 0, 0, []), none, none, some (.invokevirtual 277, 39, 0, 0, []), none, none, some (.goto 34, 42, 73, 0, []), none, none, some (.iload_n 3, 43, 0, 0, []), some (.iconst 1, 44, 0, 1, []), some (.if_icmp .ne 15, 47, 59, 0, []), none, none, some (.aload_n 0, 48, 0, 0, [])],
  [some (.iload_n 1, 49, 0, 0, []), some (.iload_n 2, 50, 0, 0, []), some (.invokevirtual 269, 53, 0, 0, []), none, none, some (.ifCond .eq 19, 56, 72, 0, []), none, none, some (.goto 12, 59, 68, 0, []), none, none, some (.aload_n 0, 60, 0, 0, []), some (.iload_n 1, 61, 0, 0, []), some (.iload_n 2, 62, 0, 0, []), some (.invokevirtual 280, 65, 0, 0, []), none],
  [none, some (.ifCond .eq 7, 68, 72, 0, []), none, none, some (.iconst 1, 69, 0, 1, []), some (.goto 4, 72, 73, 0, []), none, none, some (.iconst 0, 73, 0, 0, []), some (.ireturn, 74, 0, 0, [])]]
def m_X6_asks : MT := ((cd_X6_asks, 6, 0, 0, 1), (yX6_asks, cX6_asks, 4, (some .int)))
def cd_X6_dances : List (List (Option Ent)) := [[some (.aload_n 0, 1, 0, 0, []), some (.getfield 26, 4, 0, 0, []), none, none, some (.iconst 2, 5, 0, 2, []), some (.iload_n 1, 6, 0, 0, []), some (.imul, 7, 0, 0, []), some (.iconst 1, 8, 0, 1, []), some (.iadd, 9, 0, 0, []), some (.aload_n 0, 10, 0, 0, []), some (.getfield 26, 13, 0, 0, []), none, none, some (.iconst 2, 14, 0, 2, []), some (.iload_n 1, 15, 0, 0, []), some (.imul, 16, 0, 0, [])],
  [some (.iconst 1, 17, 0, 1, []), some (.iadd, 18, 0, 0, []), some (.iaload, 19, 0, 0, []), some (.iconst 1, 20, 0, 1, []), some (.iadd, 21, 0, 0, []), some (.iconst 0, 22, 0, 0, []), some (.bipush 99, 24, 0, 99, []), none, some (.invokestatic 262, 27, 0, 0, []), none, none, some (.iastore, 28, 0, 0, []), some (.return_, 29, 0, 0, [])]]
def m_X6_dances : MT := ((cd_X6_dances, 6, 0, 0, 0), (yX6_dances, cX6_dances, 2, none))
def cd_X6_danceBoth : List (List (Option Ent)) := [[some (.aload_n 0, 1, 0, 0, []), some (.iload_n 1, 2, 0, 0, []), some (.aload_n 0, 3, 0, 0, []), some (.iload_n 1, 4, 0, 0, []), some (.iload_n 2, 5, 0, 0, []), some (.invokevirtual 141, 8, 0, 0, []), none, none, some (.invokevirtual 277, 11, 0, 0, []), none, none, some (.istore_n 3, 12, 0, 0, []), some (.aload_n 0, 13, 0, 0, []), some (.iload_n 2, 14, 0, 0, []), some (.aload_n 0, 15, 0, 0, []), some (.iload_n 2, 16, 0, 0, [])],
  [some (.iload_n 1, 17, 0, 0, []), some (.invokevirtual 141, 20, 0, 0, []), none, none, some (.invokevirtual 277, 23, 0, 0, []), none, none, some (.istore 4, 25, 0, 0, []), none, some (.aload_n 0, 26, 0, 0, []), some (.getfield 29, 29, 0, 0, []), none, none, some (.iconst 5, 30, 0, 5, []), some (.iload_n 1, 31, 0, 0, []), some (.imul, 32, 0, 0, [])],
  [some (.iload_n 2, 33, 0, 0, []), some (.iadd, 34, 0, 0, []), some (.dup2, 35, 0, 0, []), some (.iaload, 36, 0, 0, []), some (.iload_n 3, 37, 0, 0, []), some (.isub, 38, 0, 0, []), some (.iastore, 39, 0, 0, []), some (.aload_n 0, 40, 0, 0, []), some (.getfield 29, 43, 0, 0, []), none, none, some (.iconst 5, 44, 0, 5, []), some (.iload_n 2, 45, 0, 0, []), some (.imul, 46, 0, 0, []), some (.iload_n 1, 47, 0, 0, []), some (.iadd, 48, 0, 0, [])],
  [some (.dup2, 49, 0, 0, []), some (.iaload, 50, 0, 0, []), some (.iload 4, 52, 0, 0, []), none, some (.isub, 53, 0, 0, []), some (.iastore, 54, 0, 0, []), some (.aload_n 0, 55, 0, 0, []), some (.iload_n 1, 56, 0, 0, []), some (.invokevirtual 283, 59, 0, 0, []), none, none, some (.aload_n 0, 60, 0, 0, []), some (.iload_n 2, 61, 0, 0, []), some (.invokevirtual 283, 64, 0, 0, []), none, none],
  [some (.iload_n 3, 65, 0, 0, []), some (.iload 4, 67, 0, 0, []), none, some (.iadd, 68, 0, 0, []), some (.ireturn, 69, 0, 0, [])]]
def m_X6_danceBoth : MT := ((cd_X6_danceBoth, 6, 0, 0, 1), (yX6_danceBoth, cX6_danceBoth, 5, (some .int)))
def cd_X6_dance : List (List (Option Ent)) := [[some (.aload_n 0, 1, 0, 0, []), some (.iload_n 1, 2, 0, 0, []), some (.iload_n 2, 3, 0, 0, []), some (.invokevirtual 93, 6, 0, 0, []), none, none, some (.ifCond .ne 6, 9, 12, 0, []), none, none, some (.bipush (-2), 11, 0, (-2), []), none, some (.ireturn, 12, 0, 0, []), some (.aload_n 0, 13, 0, 0, []), some (.iload_n 1, 14, 0, 0, []), some (.iload_n 2, 15, 0, 0, []), some (.invokevirtual 280, 18, 0, 0, [])],
  [none, none, some (.ifCond .eq 12, 21, 30, 0, []), none, none, some (.aload_n 0, 22, 0, 0, []), some (.iload_n 1, 23, 0, 0, []), some (.iload_n 2, 24, 0, 0, []), some (.invokevirtual 287, 27, 0, 0, []), none, none, some (.goto 5, 30, 32, 0, []), none, none, some (.bipush (-3), 32, 0, (-3), []), none],
  [some (.ireturn, 33, 0, 0, [])]]
def m_X6_dance : MT := ((cd_X6_dance, 6, 0, 0, 1), (yX6_dance, cX6_dance, 3, (some .int)))
def cd_X6_passes : List (List (Option Ent)) := [[some (.aload_n 0, 1, 0, 0, []), some (.iconst 0, 2, 0, 0, []), some (.putfield 290, 5, 0, 0, []), none, none, some (.iconst 0, 6, 0, 0, []), some (.istore_n 1, 7, 0, 0, []), some (.iconst 0, 8, 0, 0, []), some (.istore_n 2, 9, 0, 0, []), some (.iload_n 2, 10, 0, 0, []), some (.aload_n 0, 11, 0, 0, []), some (.getfield 83, 14, 0, 0, []), none, none, some (.if_icmp .ge 75, 17, 89, 0, []), none],
  [none, some (.iload_n 2, 18, 0, 0, []), some (.iconst 1, 19, 0, 1, []), some (.iadd, 20, 0, 0, []), some (.istore_n 3, 21, 0, 0, []), some (.iload_n 3, 22, 0, 0, []), some (.aload_n 0, 23, 0, 0, []), some (.getfield 83, 26, 0, 0, []), none, none, some (.if_icmp .ge 57, 29, 83, 0, []), none, none, some (.iconst 1, 30, 0, 1, []), some (.iload_n 2, 31, 0, 0, []), some (.ishl, 32, 0, 0, [])],
  [some (.iconst 1, 33, 0, 1, []), some (.iload_n 3, 34, 0, 0, []), some (.ishl, 35, 0, 0, []), some (.ior, 36, 0, 0, []), some (.istore 4, 38, 0, 0, []), none, some (.aload_n 0, 39, 0, 0, []), some (.getfield 290, 42, 0, 0, []), none, none, some (.iload 4, 44, 0, 0, []), none, some (.iand, 45, 0, 0, []), some (.ifCond .ne 32, 48, 77, 0, []), none, none],
  [some (.aload_n 0, 49, 0, 0, []), some (.iload_n 2, 50, 0, 0, []), some (.iload_n 3, 51, 0, 0, []), some (.invokevirtual 280, 54, 0, 0, []), none, none, some (.ifCond .eq 23, 57, 77, 0, []), none, none, some (.iload_n 1, 58, 0, 0, []), some (.aload_n 0, 59, 0, 0, []), some (.iload_n 2, 60, 0, 0, []), some (.iload_n 3, 61, 0, 0, []), some (.invokevirtual 287, 64, 0, 0, []), none, none],
  [some (.iadd, 65, 0, 0, []), some (.istore_n 1, 66, 0, 0, []), some (.aload_n 0, 67, 0, 0, []), some (.dup, 68, 0, 0, []), some (.getfield 290, 71, 0, 0, []), none, none, some (.iload 4, 73, 0, 0, []), none, some (.ior, 74, 0, 0, []), some (.putfield 290, 77, 0, 0, []), none, none, some (.iinc 3 1, 80, 0, 1, []), none, none],
  [some (.goto (-59), 83, 21, 0, []), none, none, some (.iinc 2 1, 86, 0, 1, []), none, none, some (.goto (-77), 89, 9, 0, []), none, none, some (.aload_n 0, 90, 0, 0, []), some (.dup, 91, 0, 0, []), some (.getfield 114, 94, 0, 0, []), none, none, some (.iconst 1, 95, 0, 1, []), some (.iadd, 96, 0, 0, [])],
  [some (.putfield 114, 99, 0, 0, []), none, none, some (.iload_n 1, 100, 0, 0, []), some (.ireturn, 101, 0, 0, [])]]
def m_X6_passes : MT := ((cd_X6_passes, 6, 0, 0, 1), (yX6_passes, cX6_passes, 5, (some .int)))
def cd_X6_round : List (List (Option Ent)) := [[some (.aload_n 0, 1, 0, 0, []), some (.getfield 114, 4, 0, 0, []), none, none, some (.sipush 999, 7, 0, 999, []), none, none, some (.if_icmp .ne 8, 10, 15, 0, []), none, none, some (.bipush (-3), 12, 0, (-3), []), none, some (.goto 7, 15, 19, 0, []), none, none, some (.aload_n 0, 16, 0, 0, [])],
  [some (.invokevirtual 293, 19, 0, 0, []), none, none, some (.ireturn, 20, 0, 0, [])]]
def m_X6_round : MT := ((cd_X6_round, 6, 0, 0, 1), (yX6_round, cX6_round, 1, (some .int)))
def cd_X6_night : List (List (Option Ent)) := [[some (.aload_n 0, 1, 0, 0, []), some (.getfield 117, 4, 0, 0, []), none, none, some (.sipush 999, 7, 0, 999, []), none, none, some (.if_icmp .ne 6, 10, 13, 0, []), none, none, some (.bipush (-3), 12, 0, (-3), []), none, some (.ireturn, 13, 0, 0, []), some (.iconst 0, 14, 0, 0, []), some (.istore_n 1, 15, 0, 0, []), some (.iconst 0, 16, 0, 0, [])],
  [some (.istore_n 2, 17, 0, 0, []), some (.iload_n 2, 18, 0, 0, []), some (.aload_n 0, 19, 0, 0, []), some (.getfield 83, 22, 0, 0, []), none, none, some (.if_icmp .ge 33, 25, 55, 0, []), none, none, some (.iload_n 1, 26, 0, 0, []), some (.aload_n 0, 27, 0, 0, []), some (.getfield 26, 30, 0, 0, []), none, none, some (.iconst 2, 31, 0, 2, []), some (.iload_n 2, 32, 0, 0, [])],
  [some (.imul, 33, 0, 0, []), some (.iconst 1, 34, 0, 1, []), some (.iadd, 35, 0, 0, []), some (.iaload, 36, 0, 0, []), some (.iadd, 37, 0, 0, []), some (.istore_n 1, 38, 0, 0, []), some (.aload_n 0, 39, 0, 0, []), some (.getfield 26, 42, 0, 0, []), none, none, some (.iconst 2, 43, 0, 2, []), some (.iload_n 2, 44, 0, 0, []), some (.imul, 45, 0, 0, []), some (.iconst 1, 46, 0, 1, []), some (.iadd, 47, 0, 0, []), some (.iconst 0, 48, 0, 0, [])],
  [some (.iastore, 49, 0, 0, []), some (.iinc 2 1, 52, 0, 1, []), none, none, some (.goto (-35), 55, 17, 0, []), none, none, some (.aload_n 0, 56, 0, 0, []), some (.dup, 57, 0, 0, []), some (.getfield 117, 60, 0, 0, []), none, none, some (.iconst 1, 61, 0, 1, []), some (.iadd, 62, 0, 0, []), some (.putfield 117, 65, 0, 0, []), none],
  [none, some (.iload_n 1, 66, 0, 0, []), some (.ireturn, 67, 0, 0, [])]]
def m_X6_night : MT := ((cd_X6_night, 6, 0, 0, 1), (yX6_night, cX6_night, 3, (some .int)))
def cd_X6_ringOf : List (List (Option Ent)) := [[some (.iconst 0, 1, 0, 0, []), some (.istore_n 2, 2, 0, 0, []), some (.iconst 0, 3, 0, 0, []), some (.istore_n 3, 4, 0, 0, []), some (.iload_n 1, 5, 0, 0, []), some (.istore 4, 7, 0, 0, []), none, some (.iload 4, 9, 0, 0, []), none, some (.ifCond .le 66, 12, 75, 0, []), none, none, some (.iload_n 2, 13, 0, 0, []), some (.iconst 5, 14, 0, 5, []), some (.if_icmp .ge 61, 17, 75, 0, []), none],
  [none, some (.iload 4, 19, 0, 0, []), none, some (.bipush 10, 21, 0, 10, []), none, some (.irem, 22, 0, 0, []), some (.iconst 1, 23, 0, 1, []), some (.isub, 24, 0, 0, []), some (.istore 5, 26, 0, 0, []), none, some (.aload_n 0, 27, 0, 0, []), some (.iload 5, 29, 0, 0, []), none, some (.invokevirtual 90, 32, 0, 0, []), none, none],
  [some (.ifCond .eq 13, 35, 45, 0, []), none, none, some (.iload_n 3, 36, 0, 0, []), some (.iload 5, 38, 0, 0, []), none, some (.ishr, 39, 0, 0, []), some (.iconst 1, 40, 0, 1, []), some (.iand, 41, 0, 0, []), some (.iconst 1, 42, 0, 1, []), some (.if_icmp .ne 5, 45, 47, 0, []), none, none, some (.iconst 0, 46, 0, 0, []), some (.ireturn, 47, 0, 0, []), some (.iload_n 3, 48, 0, 0, [])],
  [some (.iconst 1, 49, 0, 1, []), some (.iload 5, 51, 0, 0, []), none, some (.ishl, 52, 0, 0, []), some (.ior, 53, 0, 0, []), some (.istore_n 3, 54, 0, 0, []), some (.aload_n 0, 55, 0, 0, []), some (.getfield 35, 58, 0, 0, []), none, none, some (.iload_n 2, 59, 0, 0, []), some (.iload 5, 61, 0, 0, []), none, some (.iastore, 62, 0, 0, []), some (.iinc 2 1, 65, 0, 1, []), none],
  [none, some (.iload 4, 67, 0, 0, []), none, some (.bipush 10, 69, 0, 10, []), none, some (.idiv, 70, 0, 0, []), some (.istore 4, 72, 0, 0, []), none, some (.goto (-65), 75, 7, 0, []), none, none, some (.iload_n 1, 76, 0, 0, []), some (.ldc_w 296, 79, 0, 0, []), none, none, some (.if_icmp .gt 8, 82, 87, 0, [])],
  [none, none, some (.iload_n 2, 83, 0, 0, []), some (.iconst 2, 84, 0, 2, []), some (.if_icmp .ge 7, 87, 91, 0, []), none, none, some (.iconst 0, 88, 0, 0, []), some (.goto 4, 91, 92, 0, []), none, none, some (.iload_n 2, 92, 0, 0, []), some (.ireturn, 93, 0, 0, [])]]
def m_X6_ringOf : MT := ((cd_X6_ringOf, 6, 0, 0, 1), (yX6_ringOf, cX6_ringOf, 6, (some .int)))
def cd_X6_strike : List (List (Option Ent)) := [[some (.aload_n 0, 1, 0, 0, []), some (.iload_n 1, 2, 0, 0, []), some (.invokevirtual 297, 5, 0, 0, []), none, none, some (.istore_n 2, 6, 0, 0, []), some (.iload_n 2, 7, 0, 0, []), some (.ifCond .ne 6, 10, 13, 0, []), none, none, some (.bipush (-2), 12, 0, (-2), []), none, some (.ireturn, 13, 0, 0, []), some (.bipush 99, 15, 0, 99, []), none, some (.istore_n 3, 16, 0, 0, [])],
  [some (.iconst 0, 17, 0, 0, []), some (.istore 4, 19, 0, 0, []), none, some (.iload 4, 21, 0, 0, []), none, some (.iload_n 2, 22, 0, 0, []), some (.if_icmp .ge 37, 25, 59, 0, []), none, none, some (.aload_n 0, 26, 0, 0, []), some (.aload_n 0, 27, 0, 0, []), some (.getfield 35, 30, 0, 0, []), none, none, some (.iload 4, 32, 0, 0, []), none],
  [some (.iconst 1, 33, 0, 1, []), some (.iadd, 34, 0, 0, []), some (.iload_n 2, 35, 0, 0, []), some (.irem, 36, 0, 0, []), some (.iaload, 37, 0, 0, []), some (.aload_n 0, 38, 0, 0, []), some (.getfield 35, 41, 0, 0, []), none, none, some (.iload 4, 43, 0, 0, []), none, some (.iaload, 44, 0, 0, []), some (.invokevirtual 141, 47, 0, 0, []), none, none, some (.iconst 0, 48, 0, 0, [])],
  [some (.iload_n 3, 49, 0, 0, []), some (.invokestatic 262, 52, 0, 0, []), none, none, some (.istore_n 3, 53, 0, 0, []), some (.iinc 4 1, 56, 0, 1, []), none, none, some (.goto (-37), 59, 19, 0, []), none, none, some (.iload_n 3, 60, 0, 0, []), some (.ifCond .ne 6, 63, 66, 0, []), none, none, some (.bipush (-3), 65, 0, (-3), [])],
  [none, some (.ireturn, 66, 0, 0, []), some (.iconst 0, 67, 0, 0, []), some (.istore 4, 69, 0, 0, []), none, some (.iload 4, 71, 0, 0, []), none, some (.iload_n 2, 72, 0, 0, []), some (.if_icmp .ge 39, 75, 111, 0, []), none, none, some (.aload_n 0, 76, 0, 0, []), some (.getfield 29, 79, 0, 0, []), none, none, some (.iconst 5, 80, 0, 5, [])],
  [some (.aload_n 0, 81, 0, 0, []), some (.getfield 35, 84, 0, 0, []), none, none, some (.iload 4, 86, 0, 0, []), none, some (.iconst 1, 87, 0, 1, []), some (.iadd, 88, 0, 0, []), some (.iload_n 2, 89, 0, 0, []), some (.irem, 90, 0, 0, []), some (.iaload, 91, 0, 0, []), some (.imul, 92, 0, 0, []), some (.aload_n 0, 93, 0, 0, []), some (.getfield 35, 96, 0, 0, []), none, none],
  [some (.iload 4, 98, 0, 0, []), none, some (.iaload, 99, 0, 0, []), some (.iadd, 100, 0, 0, []), some (.dup2, 101, 0, 0, []), some (.iaload, 102, 0, 0, []), some (.iload_n 3, 103, 0, 0, []), some (.isub, 104, 0, 0, []), some (.iastore, 105, 0, 0, []), some (.iinc 4 1, 108, 0, 1, []), none, none, some (.goto (-39), 111, 69, 0, []), none, none, some (.iload_n 3, 112, 0, 0, [])],
  [some (.ireturn, 113, 0, 0, [])]]
def m_X6_strike : MT := ((cd_X6_strike, 6, 0, 0, 1), (yX6_strike, cX6_strike, 5, (some .int)))
def cd_X6_laysAside : List (List (Option Ent)) := [[some (.iconst 0, 1, 0, 0, []), some (.istore_n 1, 2, 0, 0, []), some (.iload_n 1, 3, 0, 0, []), some (.bipush 25, 5, 0, 25, []), none, some (.if_icmp .ge 21, 8, 26, 0, []), none, none, some (.aload_n 0, 9, 0, 0, []), some (.getfield 38, 12, 0, 0, []), none, none, some (.iload_n 1, 13, 0, 0, []), some (.aload_n 0, 14, 0, 0, []), some (.getfield 29, 17, 0, 0, []), none],
  [none, some (.iload_n 1, 18, 0, 0, []), some (.iaload, 19, 0, 0, []), some (.iastore, 20, 0, 0, []), some (.iinc 1 1, 23, 0, 1, []), none, none, some (.goto (-21), 26, 2, 0, []), none, none, some (.iconst 0, 27, 0, 0, []), some (.istore_n 1, 28, 0, 0, []), some (.iload_n 1, 29, 0, 0, []), some (.bipush 10, 31, 0, 10, []), none, some (.if_icmp .ge 24, 34, 55, 0, [])],
  [none, none, some (.aload_n 0, 35, 0, 0, []), some (.getfield 38, 38, 0, 0, []), none, none, some (.bipush 25, 40, 0, 25, []), none, some (.iload_n 1, 41, 0, 0, []), some (.iadd, 42, 0, 0, []), some (.aload_n 0, 43, 0, 0, []), some (.getfield 26, 46, 0, 0, []), none, none, some (.iload_n 1, 47, 0, 0, []), some (.iaload, 48, 0, 0, [])],
  [some (.iastore, 49, 0, 0, []), some (.iinc 1 1, 52, 0, 1, []), none, none, some (.goto (-24), 55, 28, 0, []), none, none, some (.aload_n 0, 56, 0, 0, []), some (.getfield 38, 59, 0, 0, []), none, none, some (.bipush 35, 61, 0, 35, []), none, some (.aload_n 0, 62, 0, 0, []), some (.getfield 114, 65, 0, 0, []), none],
  [none, some (.iastore, 66, 0, 0, []), some (.return_, 67, 0, 0, [])]]
def m_X6_laysAside : MT := ((cd_X6_laysAside, 6, 0, 0, 0), (yX6_laysAside, cX6_laysAside, 2, none))
def cd_X6_laysBack : List (List (Option Ent)) := [[some (.iconst 0, 1, 0, 0, []), some (.istore_n 1, 2, 0, 0, []), some (.iload_n 1, 3, 0, 0, []), some (.bipush 25, 5, 0, 25, []), none, some (.if_icmp .ge 21, 8, 26, 0, []), none, none, some (.aload_n 0, 9, 0, 0, []), some (.getfield 29, 12, 0, 0, []), none, none, some (.iload_n 1, 13, 0, 0, []), some (.aload_n 0, 14, 0, 0, []), some (.getfield 38, 17, 0, 0, []), none],
  [none, some (.iload_n 1, 18, 0, 0, []), some (.iaload, 19, 0, 0, []), some (.iastore, 20, 0, 0, []), some (.iinc 1 1, 23, 0, 1, []), none, none, some (.goto (-21), 26, 2, 0, []), none, none, some (.iconst 0, 27, 0, 0, []), some (.istore_n 1, 28, 0, 0, []), some (.iload_n 1, 29, 0, 0, []), some (.bipush 10, 31, 0, 10, []), none, some (.if_icmp .ge 24, 34, 55, 0, [])],
  [none, none, some (.aload_n 0, 35, 0, 0, []), some (.getfield 26, 38, 0, 0, []), none, none, some (.iload_n 1, 39, 0, 0, []), some (.aload_n 0, 40, 0, 0, []), some (.getfield 38, 43, 0, 0, []), none, none, some (.bipush 25, 45, 0, 25, []), none, some (.iload_n 1, 46, 0, 0, []), some (.iadd, 47, 0, 0, []), some (.iaload, 48, 0, 0, [])],
  [some (.iastore, 49, 0, 0, []), some (.iinc 1 1, 52, 0, 1, []), none, none, some (.goto (-24), 55, 28, 0, []), none, none, some (.aload_n 0, 56, 0, 0, []), some (.aload_n 0, 57, 0, 0, []), some (.getfield 38, 60, 0, 0, []), none, none, some (.bipush 35, 62, 0, 35, []), none, some (.iaload, 63, 0, 0, []), some (.putfield 114, 66, 0, 0, [])],
  [none, none, some (.return_, 67, 0, 0, [])]]
def m_X6_laysBack : MT := ((cd_X6_laysBack, 6, 0, 0, 0), (yX6_laysBack, cX6_laysBack, 2, none))
def cd_X6_owedSet : List (List (Option Ent)) := [[some (.iconst 0, 1, 0, 0, []), some (.istore_n 1, 2, 0, 0, []), some (.iconst 0, 3, 0, 0, []), some (.istore_n 2, 4, 0, 0, []), some (.iload_n 2, 5, 0, 0, []), some (.aload_n 0, 6, 0, 0, []), some (.getfield 83, 9, 0, 0, []), none, none, some (.if_icmp .ge 27, 12, 36, 0, []), none, none, some (.iload_n 1, 13, 0, 0, []), some (.aload_n 0, 14, 0, 0, []), some (.iload_n 2, 15, 0, 0, []), some (.invokevirtual 138, 18, 0, 0, [])],
  [none, none, some (.ifCond .le 7, 21, 25, 0, []), none, none, some (.iconst 1, 22, 0, 1, []), some (.goto 4, 25, 26, 0, []), none, none, some (.iconst 0, 26, 0, 0, []), some (.iload_n 2, 27, 0, 0, []), some (.ishl, 28, 0, 0, []), some (.ior, 29, 0, 0, []), some (.istore_n 1, 30, 0, 0, []), some (.iinc 2 1, 33, 0, 1, []), none],
  [none, some (.goto (-29), 36, 4, 0, []), none, none, some (.iload_n 1, 37, 0, 0, []), some (.ireturn, 38, 0, 0, [])]]
def m_X6_owedSet : MT := ((cd_X6_owedSet, 6, 0, 0, 1), (yX6_owedSet, cX6_owedSet, 3, (some .int)))
def cd_X6_run : List (List (Option Ent)) := [[some (.iload_n 1, 1, 0, 0, []), some (.i2l, 2, 0, 0, []), some (.lconst 0, 3, 0, 0, []), some (.ldc2_w 300, 6, 0, 0, []), none, none, some (.invokestatic 86, 9, 0, 0, []), none, none, some (.ifCond .eq 31, 12, 40, 0, []), none, none, some (.iload 4, 14, 0, 0, []), none, some (.i2l, 15, 0, 0, []), some (.lconst 0, 16, 0, 0, [])],
  [some (.ldc2_w 275, 19, 0, 0, []), none, none, some (.invokestatic 86, 22, 0, 0, []), none, none, some (.ifCond .eq 18, 25, 40, 0, []), none, none, some (.iload 4, 27, 0, 0, []), none, some (.iconst 2, 28, 0, 2, []), some (.if_icmp .ne 15, 31, 43, 0, []), none, none, some (.aload_n 0, 32, 0, 0, [])],
  [some (.iload_n 2, 33, 0, 0, []), some (.iload_n 3, 34, 0, 0, []), some (.invokevirtual 93, 37, 0, 0, []), none, none, some (.ifCond .ne 6, 40, 43, 0, []), none, none, some (.bipush (-2), 42, 0, (-2), []), none, some (.ireturn, 43, 0, 0, []), some (.aload_n 0, 44, 0, 0, []), some (.invokevirtual 302, 47, 0, 0, []), none, none, some (.iconst 0, 48, 0, 0, [])],
  [some (.istore 5, 50, 0, 0, []), none, some (.iload 5, 52, 0, 0, []), none, some (.iload_n 1, 53, 0, 0, []), some (.if_icmp .ge 14, 56, 67, 0, []), none, none, some (.aload_n 0, 57, 0, 0, []), some (.invokevirtual 293, 60, 0, 0, []), none, none, some (.pop, 61, 0, 0, []), some (.iinc 5 1, 64, 0, 1, []), none, none],
  [some (.goto (-14), 67, 50, 0, []), none, none, some (.iload 4, 69, 0, 0, []), none, some (.ifCond .ne 10, 72, 79, 0, []), none, none, some (.aload_n 0, 73, 0, 0, []), some (.invokevirtual 305, 76, 0, 0, []), none, none, some (.goto 22, 79, 98, 0, []), none, none, some (.iload 4, 81, 0, 0, [])],
  [none, some (.iconst 1, 82, 0, 1, []), some (.if_icmp .ne 10, 85, 92, 0, []), none, none, some (.aload_n 0, 86, 0, 0, []), some (.invokevirtual 308, 89, 0, 0, []), none, none, some (.goto 9, 92, 98, 0, []), none, none, some (.aload_n 0, 93, 0, 0, []), some (.iload_n 2, 94, 0, 0, []), some (.iload_n 3, 95, 0, 0, []), some (.invokevirtual 141, 98, 0, 0, [])],
  [none, none, some (.istore 5, 100, 0, 0, []), none, some (.aload_n 0, 101, 0, 0, []), some (.invokevirtual 311, 104, 0, 0, []), none, none, some (.iload 5, 106, 0, 0, []), none, some (.ireturn, 107, 0, 0, [])]]
def m_X6_run : MT := ((cd_X6_run, 6, 0, 0, 1), (yX6_run, cX6_run, 6, (some .int)))
def cd_X6_both_ : List (List (Option Ent)) := [[some (.iload_n 0, 1, 0, 0, []), some (.iconst 4, 2, 0, 4, []), some (.if_icmp .ge 7, 5, 9, 0, []), none, none, some (.iconst 0, 6, 0, 0, []), some (.goto 24, 9, 30, 0, []), none, none, some (.iload_n 0, 10, 0, 0, []), some (.bipush 7, 12, 0, 7, []), none, some (.if_icmp .ge 7, 15, 19, 0, []), none, none, some (.iconst 1, 16, 0, 1, [])],
  [some (.goto 14, 19, 30, 0, []), none, none, some (.iload_n 0, 20, 0, 0, []), some (.bipush 9, 22, 0, 9, []), none, some (.if_icmp .ge 7, 25, 29, 0, []), none, none, some (.iconst 2, 26, 0, 2, []), some (.goto 4, 29, 30, 0, []), none, none, some (.iconst 3, 30, 0, 3, []), some (.istore_n 1, 31, 0, 0, []), some (.iload_n 0, 32, 0, 0, [])],
  [some (.iconst 4, 33, 0, 4, []), some (.if_icmp .ge 9, 36, 42, 0, []), none, none, some (.iload_n 0, 37, 0, 0, []), some (.iconst 1, 38, 0, 1, []), some (.iadd, 39, 0, 0, []), some (.goto 28, 42, 67, 0, []), none, none, some (.iload_n 0, 43, 0, 0, []), some (.bipush 7, 45, 0, 7, []), none, some (.if_icmp .ge 9, 48, 54, 0, []), none, none],
  [some (.iload_n 0, 49, 0, 0, []), some (.iconst 2, 50, 0, 2, []), some (.isub, 51, 0, 0, []), some (.goto 16, 54, 67, 0, []), none, none, some (.iload_n 0, 55, 0, 0, []), some (.bipush 9, 57, 0, 9, []), none, some (.if_icmp .ge 9, 60, 66, 0, []), none, none, some (.iload_n 0, 61, 0, 0, []), some (.iconst 4, 62, 0, 4, []), some (.isub, 63, 0, 0, []), some (.goto 4, 66, 67, 0, [])],
  [none, none, some (.iconst 4, 67, 0, 4, []), some (.istore_n 2, 68, 0, 0, []), some (.iconst 1, 69, 0, 1, []), some (.iload_n 1, 70, 0, 0, []), some (.ishl, 71, 0, 0, []), some (.iconst 1, 72, 0, 1, []), some (.iload_n 2, 73, 0, 0, []), some (.ishl, 74, 0, 0, []), some (.ior, 75, 0, 0, []), some (.ireturn, 76, 0, 0, [])]]
def m_X6_both_ : MT := ((cd_X6_both_, 6, 0, 0, 1), (yX6_both_, cX6_both_, 3, (some .int)))
def cd_X6_lesser : List (List (Option Ent)) := [[some (.iload_n 0, 1, 0, 0, []), some (.iconst 1, 2, 0, 1, []), some (.iand, 3, 0, 0, []), some (.iconst 1, 4, 0, 1, []), some (.if_icmp .ne 7, 7, 11, 0, []), none, none, some (.iconst 0, 8, 0, 0, []), some (.goto 26, 11, 34, 0, []), none, none, some (.iload_n 0, 12, 0, 0, []), some (.iconst 2, 13, 0, 2, []), some (.iand, 14, 0, 0, []), some (.iconst 2, 15, 0, 2, []), some (.if_icmp .ne 7, 18, 22, 0, [])],
  [none, none, some (.iconst 1, 19, 0, 1, []), some (.goto 15, 22, 34, 0, []), none, none, some (.iload_n 0, 23, 0, 0, []), some (.iconst 4, 24, 0, 4, []), some (.iand, 25, 0, 0, []), some (.iconst 4, 26, 0, 4, []), some (.if_icmp .ne 7, 29, 33, 0, []), none, none, some (.iconst 2, 30, 0, 2, []), some (.goto 4, 33, 34, 0, []), none],
  [none, some (.iconst 3, 34, 0, 3, []), some (.ireturn, 35, 0, 0, [])]]
def m_X6_lesser : MT := ((cd_X6_lesser, 6, 0, 0, 1), (yX6_lesser, cX6_lesser, 1, (some .int)))
def cd_X6_greater : List (List (Option Ent)) := [[some (.iload_n 0, 1, 0, 0, []), some (.bipush 16, 3, 0, 16, []), none, some (.if_icmp .lt 7, 6, 10, 0, []), none, none, some (.iconst 4, 7, 0, 4, []), some (.goto 23, 10, 30, 0, []), none, none, some (.iload_n 0, 11, 0, 0, []), some (.bipush 8, 13, 0, 8, []), none, some (.if_icmp .lt 7, 16, 20, 0, []), none, none],
  [some (.iconst 3, 17, 0, 3, []), some (.goto 13, 20, 30, 0, []), none, none, some (.iload_n 0, 21, 0, 0, []), some (.iconst 4, 22, 0, 4, []), some (.if_icmp .lt 7, 25, 29, 0, []), none, none, some (.iconst 2, 26, 0, 2, []), some (.goto 4, 29, 30, 0, []), none, none, some (.iconst 1, 30, 0, 1, []), some (.ireturn, 31, 0, 0, [])]]
def m_X6_greater : MT := ((cd_X6_greater, 6, 0, 0, 1), (yX6_greater, cX6_greater, 1, (some .int)))
def cd_X6_isApart : List (List (Option Ent)) := [[some (.iconst 0, 1, 0, 0, []), some (.istore_n 1, 2, 0, 0, []), some (.iconst 0, 3, 0, 0, []), some (.istore_n 2, 4, 0, 0, []), some (.iload_n 2, 5, 0, 0, []), some (.bipush 10, 7, 0, 10, []), none, some (.if_icmp .ge 39, 10, 46, 0, []), none, none, some (.iload_n 0, 11, 0, 0, []), some (.iload_n 2, 12, 0, 0, []), some (.ishr, 13, 0, 0, []), some (.iconst 1, 14, 0, 1, []), some (.iand, 15, 0, 0, []), some (.iconst 1, 16, 0, 1, [])],
  [some (.if_icmp .ne 10, 19, 26, 0, []), none, none, some (.iload_n 2, 20, 0, 0, []), some (.invokestatic 314, 23, 0, 0, []), none, none, some (.goto 4, 26, 27, 0, []), none, none, some (.iconst 0, 27, 0, 0, []), some (.istore_n 3, 28, 0, 0, []), some (.iload_n 1, 29, 0, 0, []), some (.iload_n 3, 30, 0, 0, []), some (.iand, 31, 0, 0, []), some (.ifCond .eq 5, 34, 36, 0, [])],
  [none, none, some (.iconst 0, 35, 0, 0, []), some (.ireturn, 36, 0, 0, []), some (.iload_n 1, 37, 0, 0, []), some (.iload_n 3, 38, 0, 0, []), some (.ior, 39, 0, 0, []), some (.istore_n 1, 40, 0, 0, []), some (.iinc 2 1, 43, 0, 1, []), none, none, some (.goto (-39), 46, 4, 0, []), none, none, some (.iconst 1, 47, 0, 1, []), some (.ireturn, 48, 0, 0, [])]]
def m_X6_isApart : MT := ((cd_X6_isApart, 6, 0, 0, 4), (yX6_isApart, cX6_isApart, 4, (some .boolean)))
def cd_X6_isSet : List (List (Option Ent)) := [[some (.iconst 0, 1, 0, 0, []), some (.istore_n 2, 2, 0, 0, []), some (.iload_n 2, 3, 0, 0, []), some (.bipush 10, 5, 0, 10, []), none, some (.if_icmp .ge 51, 8, 56, 0, []), none, none, some (.iload_n 2, 9, 0, 0, []), some (.invokestatic 314, 12, 0, 0, []), none, none, some (.istore_n 3, 13, 0, 0, []), some (.iload_n 1, 14, 0, 0, []), some (.iload_n 2, 15, 0, 0, []), some (.ishr, 16, 0, 0, [])],
  [some (.iconst 1, 17, 0, 1, []), some (.iand, 18, 0, 0, []), some (.iconst 1, 19, 0, 1, []), some (.if_icmp .ne 31, 22, 50, 0, []), none, none, some (.aload_n 0, 23, 0, 0, []), some (.iload_n 3, 24, 0, 0, []), some (.invokestatic 316, 27, 0, 0, []), none, none, some (.invokevirtual 90, 30, 0, 0, []), none, none, some (.ifCond .eq 18, 33, 48, 0, []), none],
  [none, some (.aload_n 0, 34, 0, 0, []), some (.iload_n 3, 35, 0, 0, []), some (.invokestatic 319, 38, 0, 0, []), none, none, some (.iload_n 3, 39, 0, 0, []), some (.invokestatic 316, 42, 0, 0, []), none, none, some (.invokevirtual 280, 45, 0, 0, []), none, none, some (.ifCond .ne 5, 48, 50, 0, []), none, none],
  [some (.iconst 0, 49, 0, 0, []), some (.ireturn, 50, 0, 0, []), some (.iinc 2 1, 53, 0, 1, []), none, none, some (.goto (-51), 56, 2, 0, []), none, none, some (.iconst 1, 57, 0, 1, []), some (.ireturn, 58, 0, 0, [])]]
def m_X6_isSet : MT := ((cd_X6_isSet, 6, 0, 0, 4), (yX6_isSet, cX6_isSet, 4, (some .boolean)))
def cd_X6_dancesOf : List (List (Option Ent)) := [[some (.iconst 0, 1, 0, 0, []), some (.istore_n 2, 2, 0, 0, []), some (.iconst 0, 3, 0, 0, []), some (.istore_n 3, 4, 0, 0, []), some (.iload_n 3, 5, 0, 0, []), some (.bipush 10, 7, 0, 10, []), none, some (.if_icmp .ge 43, 10, 50, 0, []), none, none, some (.iload_n 2, 11, 0, 0, []), some (.iload_n 1, 12, 0, 0, []), some (.iload_n 3, 13, 0, 0, []), some (.ishr, 14, 0, 0, []), some (.iconst 1, 15, 0, 1, []), some (.iand, 16, 0, 0, [])],
  [some (.iconst 1, 17, 0, 1, []), some (.if_icmp .ne 24, 20, 41, 0, []), none, none, some (.aload_n 0, 21, 0, 0, []), some (.iload_n 3, 22, 0, 0, []), some (.invokestatic 314, 25, 0, 0, []), none, none, some (.invokestatic 319, 28, 0, 0, []), none, none, some (.iload_n 3, 29, 0, 0, []), some (.invokestatic 314, 32, 0, 0, []), none, none],
  [some (.invokestatic 316, 35, 0, 0, []), none, none, some (.invokevirtual 287, 38, 0, 0, []), none, none, some (.goto 4, 41, 42, 0, []), none, none, some (.iconst 0, 42, 0, 0, []), some (.iadd, 43, 0, 0, []), some (.istore_n 2, 44, 0, 0, []), some (.iinc 3 1, 47, 0, 1, []), none, none, some (.goto (-43), 50, 4, 0, [])],
  [none, none, some (.iload_n 2, 51, 0, 0, []), some (.ireturn, 52, 0, 0, [])]]
def m_X6_dancesOf : MT := ((cd_X6_dancesOf, 6, 0, 0, 1), (yX6_dancesOf, cX6_dancesOf, 4, (some .int)))
def cd_X6_bestSet : List (List (Option Ent)) := [[some (.iconst 0, 1, 0, 0, []), some (.istore_n 2, 2, 0, 0, []), some (.iconst 0, 3, 0, 0, []), some (.istore_n 3, 4, 0, 0, []), some (.iconst 1, 5, 0, 1, []), some (.istore 4, 7, 0, 0, []), none, some (.iload 4, 9, 0, 0, []), none, some (.bipush 26, 11, 0, 26, []), none, some (.if_icmp .ge 55, 14, 66, 0, []), none, none, some (.aload_n 0, 15, 0, 0, []), some (.getfield 32, 18, 0, 0, [])],
  [none, none, some (.iload 4, 20, 0, 0, []), none, some (.iaload, 21, 0, 0, []), some (.istore 5, 23, 0, 0, []), none, some (.aload_n 0, 24, 0, 0, []), some (.iload 5, 26, 0, 0, []), none, some (.invokevirtual 322, 29, 0, 0, []), none, none, some (.ifCond .eq 31, 32, 60, 0, []), none, none],
  [some (.aload_n 0, 33, 0, 0, []), some (.invokevirtual 302, 36, 0, 0, []), none, none, some (.aload_n 0, 37, 0, 0, []), some (.iload 5, 39, 0, 0, []), none, some (.invokevirtual 325, 42, 0, 0, []), none, none, some (.istore 6, 44, 0, 0, []), none, some (.aload_n 0, 45, 0, 0, []), some (.invokevirtual 311, 48, 0, 0, []), none, none],
  [some (.iload 6, 50, 0, 0, []), none, some (.iload_n 3, 51, 0, 0, []), some (.if_icmp .le 9, 54, 60, 0, []), none, none, some (.iload 5, 56, 0, 0, []), none, some (.istore_n 2, 57, 0, 0, []), some (.iload 6, 59, 0, 0, []), none, some (.istore_n 3, 60, 0, 0, []), some (.iinc 4 1, 63, 0, 1, []), none, none, some (.goto (-56), 66, 7, 0, [])],
  [none, none, some (.iload_n 1, 67, 0, 0, []), some (.ifCond .ne 7, 70, 74, 0, []), none, none, some (.iload_n 2, 71, 0, 0, []), some (.goto 4, 74, 75, 0, []), none, none, some (.iload_n 3, 75, 0, 0, []), some (.ireturn, 76, 0, 0, [])]]
def m_X6_bestSet : MT := ((cd_X6_bestSet, 6, 0, 0, 1), (yX6_bestSet, cX6_bestSet, 7, (some .int)))
def cd_X6_nextRound : List (List (Option Ent)) := [[some (.aload_n 0, 1, 0, 0, []), some (.invokevirtual 302, 4, 0, 0, []), none, none, some (.aload_n 0, 5, 0, 0, []), some (.invokevirtual 293, 8, 0, 0, []), none, none, some (.istore_n 2, 9, 0, 0, []), some (.aload_n 0, 10, 0, 0, []), some (.getfield 290, 13, 0, 0, []), none, none, some (.istore_n 3, 14, 0, 0, []), some (.aload_n 0, 15, 0, 0, []), some (.invokevirtual 311, 18, 0, 0, [])],
  [none, none, some (.iload_n 1, 19, 0, 0, []), some (.iconst 2, 20, 0, 2, []), some (.if_icmp .ne 18, 23, 38, 0, []), none, none, some (.iconst 1, 24, 0, 1, []), some (.aload_n 0, 25, 0, 0, []), some (.getfield 83, 28, 0, 0, []), none, none, some (.ishl, 29, 0, 0, []), some (.iconst 1, 30, 0, 1, []), some (.isub, 31, 0, 0, []), some (.iload_n 3, 32, 0, 0, [])],
  [some (.iconst (-1), 33, 0, (-1), []), some (.ixor, 34, 0, 0, []), some (.iand, 35, 0, 0, []), some (.goto 4, 38, 39, 0, []), none, none, some (.iload_n 2, 39, 0, 0, []), some (.ireturn, 40, 0, 0, [])]]
def m_X6_nextRound : MT := ((cd_X6_nextRound, 6, 0, 0, 1), (yX6_nextRound, cX6_nextRound, 4, (some .int)))
def cd_X6_isPaidBy : List (List (Option Ent)) := [[some (.iload_n 1, 1, 0, 0, []), some (.ifCond .ne 16, 4, 17, 0, []), none, none, some (.aload_n 0, 5, 0, 0, []), some (.invokevirtual 305, 8, 0, 0, []), none, none, some (.ifCond .ne 7, 11, 15, 0, []), none, none, some (.iconst 1, 12, 0, 1, []), some (.goto 4, 15, 16, 0, []), none, none, some (.iconst 0, 16, 0, 0, [])],
  [some (.ireturn, 17, 0, 0, []), some (.iconst 0, 18, 0, 0, []), some (.istore_n 2, 19, 0, 0, []), some (.iload_n 2, 20, 0, 0, []), some (.bipush 25, 22, 0, 25, []), none, some (.if_icmp .ge 26, 25, 48, 0, []), none, none, some (.aload_n 0, 26, 0, 0, []), some (.getfield 41, 29, 0, 0, []), none, none, some (.bipush 25, 31, 0, 25, []), none, some (.iload_n 1, 32, 0, 0, [])],
  [some (.imul, 33, 0, 0, []), some (.iload_n 2, 34, 0, 0, []), some (.iadd, 35, 0, 0, []), some (.aload_n 0, 36, 0, 0, []), some (.getfield 29, 39, 0, 0, []), none, none, some (.iload_n 2, 40, 0, 0, []), some (.iaload, 41, 0, 0, []), some (.iastore, 42, 0, 0, []), some (.iinc 2 1, 45, 0, 1, []), none, none, some (.goto (-26), 48, 19, 0, []), none, none],
  [some (.iconst 0, 49, 0, 0, []), some (.istore_n 2, 50, 0, 0, []), some (.iload_n 2, 51, 0, 0, []), some (.bipush 10, 53, 0, 10, []), none, some (.if_icmp .ge 26, 56, 79, 0, []), none, none, some (.aload_n 0, 57, 0, 0, []), some (.getfield 44, 60, 0, 0, []), none, none, some (.bipush 10, 62, 0, 10, []), none, some (.iload_n 1, 63, 0, 0, []), some (.imul, 64, 0, 0, [])],
  [some (.iload_n 2, 65, 0, 0, []), some (.iadd, 66, 0, 0, []), some (.aload_n 0, 67, 0, 0, []), some (.getfield 26, 70, 0, 0, []), none, none, some (.iload_n 2, 71, 0, 0, []), some (.iaload, 72, 0, 0, []), some (.iastore, 73, 0, 0, []), some (.iinc 2 1, 76, 0, 1, []), none, none, some (.goto (-26), 79, 50, 0, []), none, none, some (.iconst 0, 80, 0, 0, [])],
  [some (.istore_n 2, 81, 0, 0, []), some (.iconst 0, 82, 0, 0, []), some (.istore_n 3, 83, 0, 0, []), some (.iload_n 3, 84, 0, 0, []), some (.bipush 26, 86, 0, 26, []), none, some (.if_icmp .ge 135, 89, 221, 0, []), none, none, some (.iload_n 2, 90, 0, 0, []), some (.ifCond .ne 131, 93, 221, 0, []), none, none, some (.aload_n 0, 94, 0, 0, []), some (.aload_n 0, 95, 0, 0, []), some (.getfield 32, 98, 0, 0, [])],
  [none, none, some (.iload_n 3, 99, 0, 0, []), some (.iaload, 100, 0, 0, []), some (.invokevirtual 322, 103, 0, 0, []), none, none, some (.ifCond .eq 112, 106, 215, 0, []), none, none, some (.aload_n 0, 107, 0, 0, []), some (.aload_n 0, 108, 0, 0, []), some (.getfield 32, 111, 0, 0, []), none, none, some (.iload_n 3, 112, 0, 0, [])],
  [some (.iaload, 113, 0, 0, []), some (.invokevirtual 325, 116, 0, 0, []), none, none, some (.pop, 117, 0, 0, []), some (.aload_n 0, 118, 0, 0, []), some (.dup, 119, 0, 0, []), some (.getfield 114, 122, 0, 0, []), none, none, some (.iconst 1, 123, 0, 1, []), some (.iadd, 124, 0, 0, []), some (.putfield 114, 127, 0, 0, []), none, none, some (.aload_n 0, 128, 0, 0, [])],
  [some (.iload_n 1, 129, 0, 0, []), some (.iconst 1, 130, 0, 1, []), some (.isub, 131, 0, 0, []), some (.invokevirtual 328, 134, 0, 0, []), none, none, some (.istore_n 2, 135, 0, 0, []), some (.aload_n 0, 136, 0, 0, []), some (.dup, 137, 0, 0, []), some (.getfield 114, 140, 0, 0, []), none, none, some (.iconst 1, 141, 0, 1, []), some (.isub, 142, 0, 0, []), some (.putfield 114, 145, 0, 0, []), none],
  [none, some (.iconst 0, 146, 0, 0, []), some (.istore 4, 148, 0, 0, []), none, some (.iload 4, 150, 0, 0, []), none, some (.bipush 25, 152, 0, 25, []), none, some (.if_icmp .ge 28, 155, 180, 0, []), none, none, some (.aload_n 0, 156, 0, 0, []), some (.getfield 29, 159, 0, 0, []), none, none, some (.iload 4, 161, 0, 0, [])],
  [none, some (.aload_n 0, 162, 0, 0, []), some (.getfield 41, 165, 0, 0, []), none, none, some (.bipush 25, 167, 0, 25, []), none, some (.iload_n 1, 168, 0, 0, []), some (.imul, 169, 0, 0, []), some (.iload 4, 171, 0, 0, []), none, some (.iadd, 172, 0, 0, []), some (.iaload, 173, 0, 0, []), some (.iastore, 174, 0, 0, []), some (.iinc 4 1, 177, 0, 1, []), none],
  [none, some (.goto (-29), 180, 148, 0, []), none, none, some (.iconst 0, 181, 0, 0, []), some (.istore 4, 183, 0, 0, []), none, some (.iload 4, 185, 0, 0, []), none, some (.bipush 10, 187, 0, 10, []), none, some (.if_icmp .ge 28, 190, 215, 0, []), none, none, some (.aload_n 0, 191, 0, 0, []), some (.getfield 26, 194, 0, 0, [])],
  [none, none, some (.iload 4, 196, 0, 0, []), none, some (.aload_n 0, 197, 0, 0, []), some (.getfield 44, 200, 0, 0, []), none, none, some (.bipush 10, 202, 0, 10, []), none, some (.iload_n 1, 203, 0, 0, []), some (.imul, 204, 0, 0, []), some (.iload 4, 206, 0, 0, []), none, some (.iadd, 207, 0, 0, []), some (.iaload, 208, 0, 0, [])],
  [some (.iastore, 209, 0, 0, []), some (.iinc 4 1, 212, 0, 1, []), none, none, some (.goto (-29), 215, 183, 0, []), none, none, some (.iinc 3 1, 218, 0, 1, []), none, none, some (.goto (-135), 221, 83, 0, []), none, none, some (.iload_n 2, 222, 0, 0, []), some (.ireturn, 223, 0, 0, [])]]
def m_X6_isPaidBy : MT := ((cd_X6_isPaidBy, 6, 0, 0, 4), (yX6_isPaidBy, cX6_isPaidBy, 5, (some .boolean)))
def cd_X6_soonest : List (List (Option Ent)) := [[some (.iconst 0, 1, 0, 0, []), some (.istore_n 1, 2, 0, 0, []), some (.iload_n 1, 3, 0, 0, []), some (.iconst 4, 4, 0, 4, []), some (.if_icmp .ge 19, 7, 23, 0, []), none, none, some (.aload_n 0, 8, 0, 0, []), some (.iload_n 1, 9, 0, 0, []), some (.invokevirtual 328, 12, 0, 0, []), none, none, some (.ifCond .eq 5, 15, 17, 0, []), none, none, some (.iload_n 1, 16, 0, 0, [])],
  [some (.ireturn, 17, 0, 0, []), some (.iinc 1 1, 20, 0, 1, []), none, none, some (.goto (-18), 23, 2, 0, []), none, none, some (.iconst (-1), 24, 0, (-1), []), some (.ireturn, 25, 0, 0, [])]]
def m_X6_soonest : MT := ((cd_X6_soonest, 6, 0, 0, 1), (yX6_soonest, cX6_soonest, 2, (some .int)))
def cd_X6_leastOwed : List (List (Option Ent)) := [[some (.iconst 0, 1, 0, 0, []), some (.istore_n 1, 2, 0, 0, []), some (.iconst 0, 3, 0, 0, []), some (.istore_n 2, 4, 0, 0, []), some (.iload_n 2, 5, 0, 0, []), some (.aload_n 0, 6, 0, 0, []), some (.getfield 83, 9, 0, 0, []), none, none, some (.if_icmp .ge 30, 12, 39, 0, []), none, none, some (.iload_n 1, 13, 0, 0, []), some (.aload_n 0, 14, 0, 0, []), some (.iload_n 2, 15, 0, 0, []), some (.invokevirtual 135, 18, 0, 0, [])],
  [none, none, some (.aload_n 0, 19, 0, 0, []), some (.iload_n 2, 20, 0, 0, []), some (.invokevirtual 138, 23, 0, 0, []), none, none, some (.isub, 24, 0, 0, []), some (.iconst 0, 25, 0, 0, []), some (.ldc_w 331, 28, 0, 0, []), none, none, some (.invokestatic 262, 31, 0, 0, []), none, none, some (.iadd, 32, 0, 0, [])],
  [some (.istore_n 1, 33, 0, 0, []), some (.iinc 2 1, 36, 0, 1, []), none, none, some (.goto (-32), 39, 4, 0, []), none, none, some (.iload_n 1, 40, 0, 0, []), some (.ireturn, 41, 0, 0, [])]]
def m_X6_leastOwed : MT := ((cd_X6_leastOwed, 6, 0, 0, 1), (yX6_leastOwed, cX6_leastOwed, 3, (some .int)))
def cd_X6_ringFrom : List (List (Option Ent)) := [[some (.iload 4, 2, 0, 0, []), none, some (.iconst 1, 3, 0, 1, []), some (.if_icmp .le 17, 6, 20, 0, []), none, none, some (.aload_n 0, 7, 0, 0, []), some (.iload_n 2, 8, 0, 0, []), some (.iload_n 1, 9, 0, 0, []), some (.invokevirtual 141, 12, 0, 0, []), none, none, some (.ifCond .le 8, 15, 20, 0, []), none, none, some (.iload 4, 17, 0, 0, [])],
  [none, some (.goto 4, 20, 21, 0, []), none, none, some (.iconst 0, 21, 0, 0, []), some (.istore 5, 23, 0, 0, []), none, some (.iconst 0, 24, 0, 0, []), some (.istore 6, 26, 0, 0, []), none, some (.iload 6, 28, 0, 0, []), none, some (.aload_n 0, 29, 0, 0, []), some (.getfield 83, 32, 0, 0, []), none, none],
  [some (.if_icmp .ge 63, 35, 95, 0, []), none, none, some (.iload_n 3, 36, 0, 0, []), some (.iload 6, 38, 0, 0, []), none, some (.ishr, 39, 0, 0, []), some (.iconst 1, 40, 0, 1, []), some (.iand, 41, 0, 0, []), some (.ifCond .ne 48, 44, 89, 0, []), none, none, some (.aload_n 0, 45, 0, 0, []), some (.iload_n 2, 46, 0, 0, []), some (.iload 6, 48, 0, 0, []), none],
  [some (.invokevirtual 141, 51, 0, 0, []), none, none, some (.ifCond .le 38, 54, 89, 0, []), none, none, some (.aload_n 0, 55, 0, 0, []), some (.iload_n 1, 56, 0, 0, []), some (.iload 6, 58, 0, 0, []), none, some (.iload_n 3, 59, 0, 0, []), some (.iconst 1, 60, 0, 1, []), some (.iload 6, 62, 0, 0, []), none, some (.ishl, 63, 0, 0, []), some (.ior, 64, 0, 0, [])],
  [some (.iload 4, 66, 0, 0, []), none, some (.iconst 1, 67, 0, 1, []), some (.iadd, 68, 0, 0, []), some (.invokevirtual 332, 71, 0, 0, []), none, none, some (.istore 7, 73, 0, 0, []), none, some (.iload 7, 75, 0, 0, []), none, some (.iload 5, 77, 0, 0, []), none, some (.if_icmp .le 8, 80, 85, 0, []), none, none],
  [some (.iload 7, 82, 0, 0, []), none, some (.goto 5, 85, 87, 0, []), none, none, some (.iload 5, 87, 0, 0, []), none, some (.istore 5, 89, 0, 0, []), none, some (.iinc 6 1, 92, 0, 1, []), none, none, some (.goto (-66), 95, 26, 0, []), none, none, some (.iload 5, 97, 0, 0, [])],
  [none, some (.ireturn, 98, 0, 0, [])]]
def m_X6_ringFrom : MT := ((cd_X6_ringFrom, 6, 0, 0, 1), (yX6_ringFrom, cX6_ringFrom, 8, (some .int)))
def cd_X6_longestRing : List (List (Option Ent)) := [[some (.iconst 0, 1, 0, 0, []), some (.istore_n 1, 2, 0, 0, []), some (.iconst 0, 3, 0, 0, []), some (.istore_n 2, 4, 0, 0, []), some (.iload_n 2, 5, 0, 0, []), some (.aload_n 0, 6, 0, 0, []), some (.getfield 83, 9, 0, 0, []), none, none, some (.if_icmp .ge 31, 12, 40, 0, []), none, none, some (.aload_n 0, 13, 0, 0, []), some (.iload_n 2, 14, 0, 0, []), some (.iload_n 2, 15, 0, 0, []), some (.iconst 1, 16, 0, 1, [])],
  [some (.iload_n 2, 17, 0, 0, []), some (.ishl, 18, 0, 0, []), some (.iconst 1, 19, 0, 1, []), some (.invokevirtual 332, 22, 0, 0, []), none, none, some (.istore_n 3, 23, 0, 0, []), some (.iload_n 3, 24, 0, 0, []), some (.iload_n 1, 25, 0, 0, []), some (.if_icmp .le 7, 28, 32, 0, []), none, none, some (.iload_n 3, 29, 0, 0, []), some (.goto 4, 32, 33, 0, []), none, none],
  [some (.iload_n 1, 33, 0, 0, []), some (.istore_n 1, 34, 0, 0, []), some (.iinc 2 1, 37, 0, 1, []), none, none, some (.goto (-33), 40, 4, 0, []), none, none, some (.iload_n 1, 41, 0, 0, []), some (.ireturn, 42, 0, 0, [])]]
def m_X6_longestRing : MT := ((cd_X6_longestRing, 6, 0, 0, 1), (yX6_longestRing, cX6_longestRing, 4, (some .int)))
def cd_X6_ends : List (List (Option Ent)) := [[some (.aload_n 0, 1, 0, 0, []), some (.invokevirtual 302, 4, 0, 0, []), none, none, some (.iconst 0, 5, 0, 0, []), some (.istore_n 1, 6, 0, 0, []), some (.iload_n 1, 7, 0, 0, []), some (.bipush 61, 9, 0, 61, []), none, some (.if_icmp .ge 16, 12, 25, 0, []), none, none, some (.aload_n 0, 13, 0, 0, []), some (.invokevirtual 293, 16, 0, 0, []), none, none],
  [some (.ifCond .le 9, 19, 25, 0, []), none, none, some (.iinc 1 1, 22, 0, 1, []), none, none, some (.goto (-16), 25, 6, 0, []), none, none, some (.aload_n 0, 26, 0, 0, []), some (.invokevirtual 311, 29, 0, 0, []), none, none, some (.iload_n 1, 30, 0, 0, []), some (.bipush 61, 32, 0, 61, []), none],
  [some (.if_icmp .ne 7, 35, 39, 0, []), none, none, some (.iconst (-1), 36, 0, (-1), []), some (.goto 4, 39, 40, 0, []), none, none, some (.iload_n 1, 40, 0, 0, []), some (.ireturn, 41, 0, 0, [])]]
def m_X6_ends : MT := ((cd_X6_ends, 6, 0, 0, 1), (yX6_ends, cX6_ends, 2, (some .int)))
def cd_X6_keeper : List (List (Option Ent)) := [[some (.iconst (-1), 1, 0, (-1), []), some (.istore_n 1, 2, 0, 0, []), some (.iconst 0, 3, 0, 0, []), some (.istore_n 2, 4, 0, 0, []), some (.iconst 0, 5, 0, 0, []), some (.istore_n 3, 6, 0, 0, []), some (.iload_n 3, 7, 0, 0, []), some (.aload_n 0, 8, 0, 0, []), some (.getfield 83, 11, 0, 0, []), none, none, some (.if_icmp .ge 26, 14, 37, 0, []), none, none, some (.aload_n 0, 15, 0, 0, []), some (.iload_n 3, 16, 0, 0, [])],
  [some (.invokevirtual 138, 19, 0, 0, []), none, none, some (.iload_n 2, 20, 0, 0, []), some (.if_icmp .le 11, 23, 31, 0, []), none, none, some (.iload_n 3, 24, 0, 0, []), some (.istore_n 1, 25, 0, 0, []), some (.aload_n 0, 26, 0, 0, []), some (.iload_n 3, 27, 0, 0, []), some (.invokevirtual 138, 30, 0, 0, []), none, none, some (.istore_n 2, 31, 0, 0, []), some (.iinc 3 1, 34, 0, 1, [])],
  [none, none, some (.goto (-28), 37, 6, 0, []), none, none, some (.iload_n 1, 38, 0, 0, []), some (.ireturn, 39, 0, 0, [])]]
def m_X6_keeper : MT := ((cd_X6_keeper, 6, 0, 0, 1), (yX6_keeper, cX6_keeper, 4, (some .int)))
def cd_X6_best : List (List (Option Ent)) := [[some (.iload_n 1, 1, 0, 0, []), some (.i2l, 2, 0, 0, []), some (.lconst 0, 3, 0, 0, []), some (.ldc2_w 130, 6, 0, 0, []), none, none, some (.invokestatic 86, 9, 0, 0, []), none, none, some (.ifCond .ne 6, 12, 15, 0, []), none, none, some (.bipush (-2), 14, 0, (-2), []), none, some (.ireturn, 15, 0, 0, []), some (.iload_n 1, 16, 0, 0, [])],
  [some (.iconst 4, 17, 0, 4, []), some (.if_icmp .ge 22, 20, 39, 0, []), none, none, some (.iload_n 1, 21, 0, 0, []), some (.iconst 2, 22, 0, 2, []), some (.if_icmp .ge 11, 25, 33, 0, []), none, none, some (.aload_n 0, 26, 0, 0, []), some (.iload_n 1, 27, 0, 0, []), some (.invokevirtual 336, 30, 0, 0, []), none, none, some (.goto 8, 33, 38, 0, []), none],
  [none, some (.aload_n 0, 34, 0, 0, []), some (.iload_n 1, 35, 0, 0, []), some (.invokevirtual 339, 38, 0, 0, []), none, none, some (.ireturn, 39, 0, 0, []), some (.iload_n 1, 40, 0, 0, []), some (.iconst 4, 41, 0, 4, []), some (.if_icmp .ne 10, 44, 51, 0, []), none, none, some (.aload_n 0, 45, 0, 0, []), some (.invokevirtual 342, 48, 0, 0, []), none, none],
  [some (.goto 45, 51, 93, 0, []), none, none, some (.iload_n 1, 52, 0, 0, []), some (.iconst 5, 53, 0, 5, []), some (.if_icmp .ne 10, 56, 63, 0, []), none, none, some (.aload_n 0, 57, 0, 0, []), some (.invokevirtual 345, 60, 0, 0, []), none, none, some (.goto 33, 63, 93, 0, []), none, none, some (.iload_n 1, 64, 0, 0, [])],
  [some (.bipush 6, 66, 0, 6, []), none, some (.if_icmp .ne 10, 69, 76, 0, []), none, none, some (.aload_n 0, 70, 0, 0, []), some (.invokevirtual 348, 73, 0, 0, []), none, none, some (.goto 20, 76, 93, 0, []), none, none, some (.iload_n 1, 77, 0, 0, []), some (.bipush 7, 79, 0, 7, []), none, some (.if_icmp .ne 10, 82, 89, 0, [])],
  [none, none, some (.aload_n 0, 83, 0, 0, []), some (.invokevirtual 351, 86, 0, 0, []), none, none, some (.goto 7, 89, 93, 0, []), none, none, some (.aload_n 0, 90, 0, 0, []), some (.invokevirtual 354, 93, 0, 0, []), none, none, some (.ireturn, 94, 0, 0, [])]]
def m_X6_best : MT := ((cd_X6_best, 6, 0, 0, 1), (yX6_best, cX6_best, 2, (some .int)))
def cd_X6_lowest : List (List (Option Ent)) := [[some (.lload_n 0, 1, 0, 0, []), some (.lstore 5, 3, 0, 0, []), none, some (.lload_n 2, 4, 0, 0, []), some (.lstore 7, 6, 0, 0, []), none, some (.lload 7, 8, 0, 0, []), none, some (.lconst 0, 9, 0, 0, []), some (.lcmp, 10, 0, 0, []), some (.ifCond .eq 21, 13, 31, 0, []), none, none, some (.lload 5, 15, 0, 0, []), none, some (.lload 7, 17, 0, 0, [])],
  [none, some (.lrem, 18, 0, 0, []), some (.lstore 9, 20, 0, 0, []), none, some (.lload 7, 22, 0, 0, []), none, some (.lstore 5, 24, 0, 0, []), none, some (.lload 9, 26, 0, 0, []), none, some (.lstore 7, 28, 0, 0, []), none, some (.goto (-22), 31, 6, 0, []), none, none, some (.iload 4, 33, 0, 0, [])],
  [none, some (.ifCond .ne 10, 36, 43, 0, []), none, none, some (.lload_n 0, 37, 0, 0, []), some (.lload 5, 39, 0, 0, []), none, some (.ldiv, 40, 0, 0, []), some (.goto 7, 43, 47, 0, []), none, none, some (.lload_n 2, 44, 0, 0, []), some (.lload 5, 46, 0, 0, []), none, some (.ldiv, 47, 0, 0, []), some (.lreturn, 48, 0, 0, [])]]
def m_X6_lowest : MT := ((cd_X6_lowest, 6, 0, 0, 2), (yX6_lowest, cX6_lowest, 11, (some .long)))
def cd_X6_share : List (List (Option Ent)) := [[some (.aload_n 0, 1, 0, 0, []), some (.iload_n 1, 2, 0, 0, []), some (.invokevirtual 90, 5, 0, 0, []), none, none, some (.ifCond .eq 38, 8, 43, 0, []), none, none, some (.iload_n 2, 9, 0, 0, []), some (.i2l, 10, 0, 0, []), some (.lconst 0, 11, 0, 0, []), some (.lconst 1, 12, 0, 0, []), some (.invokestatic 86, 15, 0, 0, []), none, none, some (.ifCond .eq 28, 18, 43, 0, [])],
  [none, none, some (.aload_n 0, 19, 0, 0, []), some (.invokevirtual 305, 22, 0, 0, []), none, none, some (.ifCond .le 21, 25, 43, 0, []), none, none, some (.aload_n 0, 26, 0, 0, []), some (.iload_n 1, 27, 0, 0, []), some (.invokevirtual 135, 30, 0, 0, []), none, none, some (.i2l, 31, 0, 0, []), some (.aload_n 0, 32, 0, 0, [])],
  [some (.invokevirtual 305, 35, 0, 0, []), none, none, some (.i2l, 36, 0, 0, []), some (.iload_n 2, 37, 0, 0, []), some (.invokestatic 357, 40, 0, 0, []), none, none, some (.goto 6, 43, 46, 0, []), none, none, some (.ldc2_w 361, 46, 0, 0, []), none, none, some (.lreturn, 47, 0, 0, [])]]
def m_X6_share : MT := ((cd_X6_share, 6, 0, 0, 2), (yX6_share, cX6_share, 3, (some .long)))
def cd_X6_firstOther : List (List (Option Ent)) := [[some (.iconst 0, 1, 0, 0, []), some (.istore_n 3, 2, 0, 0, []), some (.iload_n 3, 3, 0, 0, []), some (.aload_n 0, 4, 0, 0, []), some (.getfield 66, 7, 0, 0, []), none, none, some (.iload_n 1, 8, 0, 0, []), some (.iaload, 9, 0, 0, []), some (.if_icmp .ge 31, 12, 40, 0, []), none, none, some (.aload_n 0, 13, 0, 0, []), some (.iload_n 2, 14, 0, 0, []), some (.iload_n 3, 15, 0, 0, []), some (.invokevirtual 277, 18, 0, 0, [])],
  [none, none, some (.aload_n 0, 19, 0, 0, []), some (.getfield 69, 22, 0, 0, []), none, none, some (.bipush 40, 24, 0, 40, []), none, some (.iload_n 1, 25, 0, 0, []), some (.imul, 26, 0, 0, []), some (.iload_n 3, 27, 0, 0, []), some (.iadd, 28, 0, 0, []), some (.iaload, 29, 0, 0, []), some (.if_icmp .eq 5, 32, 34, 0, []), none, none],
  [some (.iload_n 3, 33, 0, 0, []), some (.ireturn, 34, 0, 0, []), some (.iinc 3 1, 37, 0, 1, []), none, none, some (.goto (-35), 40, 2, 0, []), none, none, some (.iconst (-1), 41, 0, (-1), []), some (.ireturn, 42, 0, 0, [])]]
def m_X6_firstOther : MT := ((cd_X6_firstOther, 6, 0, 0, 1), (yX6_firstOther, cX6_firstOther, 4, (some .int)))
def cd_X6_likeSet : List (List (Option Ent)) := [[some (.iconst 0, 1, 0, 0, []), some (.istore_n 3, 2, 0, 0, []), some (.iconst 0, 3, 0, 0, []), some (.istore 4, 5, 0, 0, []), none, some (.iload 4, 7, 0, 0, []), none, some (.aload_n 0, 8, 0, 0, []), some (.getfield 83, 11, 0, 0, []), none, none, some (.if_icmp .ge 37, 14, 48, 0, []), none, none, some (.iload_n 3, 15, 0, 0, []), some (.iload 4, 17, 0, 0, [])],
  [none, some (.iload_n 2, 18, 0, 0, []), some (.if_icmp .eq 18, 21, 36, 0, []), none, none, some (.aload_n 0, 22, 0, 0, []), some (.iload_n 1, 23, 0, 0, []), some (.iload 4, 25, 0, 0, []), none, some (.invokevirtual 363, 28, 0, 0, []), none, none, some (.iconst (-1), 29, 0, (-1), []), some (.if_icmp .ne 7, 32, 36, 0, []), none, none],
  [some (.iconst 1, 33, 0, 1, []), some (.goto 4, 36, 37, 0, []), none, none, some (.iconst 0, 37, 0, 0, []), some (.iload 4, 39, 0, 0, []), none, some (.ishl, 40, 0, 0, []), some (.ior, 41, 0, 0, []), some (.istore_n 3, 42, 0, 0, []), some (.iinc 4 1, 45, 0, 1, []), none, none, some (.goto (-40), 48, 5, 0, []), none, none],
  [some (.iload_n 3, 49, 0, 0, []), some (.ireturn, 50, 0, 0, [])]]
def m_X6_likeSet : MT := ((cd_X6_likeSet, 6, 0, 0, 1), (yX6_likeSet, cX6_likeSet, 5, (some .int)))
def cd_X6_tells : List (List (Option Ent)) := [[some (.iload_n 1, 1, 0, 0, []), some (.invokestatic 366, 4, 0, 0, []), none, none, some (.ifCond .eq 25, 7, 29, 0, []), none, none, some (.aload_n 0, 8, 0, 0, []), some (.iload_n 2, 9, 0, 0, []), some (.iload_n 3, 10, 0, 0, []), some (.invokevirtual 93, 13, 0, 0, []), none, none, some (.ifCond .eq 16, 16, 29, 0, []), none, none],
  [some (.iload 4, 18, 0, 0, []), none, some (.i2l, 19, 0, 0, []), some (.lconst 0, 20, 0, 0, []), some (.ldc2_w 130, 23, 0, 0, []), none, none, some (.invokestatic 86, 26, 0, 0, []), none, none, some (.ifCond .ne 6, 29, 32, 0, []), none, none, some (.bipush (-2), 31, 0, (-2), []), none, some (.ireturn, 32, 0, 0, [])],
  [some (.aload_n 0, 33, 0, 0, []), some (.getfield 59, 36, 0, 0, []), none, none, some (.iload_n 1, 37, 0, 0, []), some (.baload, 38, 0, 0, []), some (.ifCond .ne 6, 41, 44, 0, []), none, none, some (.bipush (-11), 43, 0, (-11), []), none, some (.ireturn, 44, 0, 0, []), some (.aload_n 0, 45, 0, 0, []), some (.getfield 66, 48, 0, 0, []), none, none],
  [some (.iload_n 1, 49, 0, 0, []), some (.iaload, 50, 0, 0, []), some (.bipush 30, 52, 0, 30, []), none, some (.if_icmp .le 6, 55, 58, 0, []), none, none, some (.bipush (-2), 57, 0, (-2), []), none, some (.ireturn, 58, 0, 0, []), some (.iload 4, 60, 0, 0, []), none, some (.ifCond .eq 10, 63, 70, 0, []), none, none, some (.iload 4, 65, 0, 0, [])],
  [none, some (.bipush 8, 67, 0, 8, []), none, some (.if_icmp .ne 24, 70, 91, 0, []), none, none, some (.iload 4, 72, 0, 0, []), none, some (.ifCond .ne 12, 75, 84, 0, []), none, none, some (.aload_n 0, 76, 0, 0, []), some (.iload_n 1, 77, 0, 0, []), some (.iload_n 2, 78, 0, 0, []), some (.invokevirtual 363, 81, 0, 0, []), none],
  [none, some (.goto 9, 84, 90, 0, []), none, none, some (.aload_n 0, 85, 0, 0, []), some (.iload_n 1, 86, 0, 0, []), some (.iload_n 3, 87, 0, 0, []), some (.invokevirtual 369, 90, 0, 0, []), none, none, some (.ireturn, 91, 0, 0, []), some (.iload 4, 93, 0, 0, []), none, some (.iconst 1, 94, 0, 1, []), some (.if_icmp .ne 7, 97, 101, 0, []), none],
  [none, some (.iconst 5, 98, 0, 5, []), some (.goto 36, 101, 134, 0, []), none, none, some (.iload 4, 103, 0, 0, []), none, some (.iconst 2, 104, 0, 2, []), some (.if_icmp .ne 7, 107, 111, 0, []), none, none, some (.iconst 2, 108, 0, 2, []), some (.goto 26, 111, 134, 0, []), none, none, some (.iload 4, 113, 0, 0, [])],
  [none, some (.iconst 5, 114, 0, 5, []), some (.if_icmp .ge 7, 117, 121, 0, []), none, none, some (.iconst 0, 118, 0, 0, []), some (.goto 16, 121, 134, 0, []), none, none, some (.iload 4, 123, 0, 0, []), none, some (.bipush 7, 125, 0, 7, []), none, some (.if_icmp .ge 7, 128, 132, 0, []), none, none],
  [some (.iconst 3, 129, 0, 3, []), some (.goto 5, 132, 134, 0, []), none, none, some (.bipush 6, 134, 0, 6, []), none, some (.istore 5, 136, 0, 0, []), none, some (.iload 5, 138, 0, 0, []), none, some (.bipush 6, 140, 0, 6, []), none, some (.if_icmp .ne 10, 143, 150, 0, []), none, none, some (.aload_n 0, 144, 0, 0, [])],
  [some (.getfield 123, 147, 0, 0, []), none, none, some (.goto 10, 150, 157, 0, []), none, none, some (.aload_n 0, 151, 0, 0, []), some (.iload_n 2, 152, 0, 0, []), some (.iload 5, 154, 0, 0, []), none, some (.invokevirtual 106, 157, 0, 0, []), none, none, some (.istore 6, 159, 0, 0, []), none, some (.iload 5, 161, 0, 0, [])],
  [none, some (.bipush 6, 163, 0, 6, []), none, some (.if_icmp .ne 12, 166, 175, 0, []), none, none, some (.aload_n 0, 167, 0, 0, []), some (.getfield 80, 170, 0, 0, []), none, none, some (.iconst 1, 171, 0, 1, []), some (.isub, 172, 0, 0, []), some (.goto 26, 175, 198, 0, []), none, none, some (.iload 5, 177, 0, 0, [])],
  [none, some (.iconst 5, 178, 0, 5, []), some (.if_icmp .ne 7, 181, 185, 0, []), none, none, some (.iconst 5, 182, 0, 5, []), some (.goto 16, 185, 198, 0, []), none, none, some (.iload 5, 187, 0, 0, []), none, some (.iconst 2, 188, 0, 2, []), some (.if_icmp .ne 8, 191, 196, 0, []), none, none, some (.bipush 9, 193, 0, 9, [])],
  [none, some (.goto 5, 196, 198, 0, []), none, none, some (.bipush 99, 198, 0, 99, []), none, some (.istore 7, 200, 0, 0, []), none, some (.iconst 0, 201, 0, 0, []), some (.istore 8, 203, 0, 0, []), none, some (.iconst 0, 204, 0, 0, []), some (.istore 9, 206, 0, 0, []), none, some (.iconst (-1), 207, 0, (-1), []), some (.istore 10, 209, 0, 0, [])],
  [none, some (.iload 7, 211, 0, 0, []), none, some (.istore 11, 213, 0, 0, []), none, some (.iload 11, 215, 0, 0, []), none, some (.ifCond .lt 55, 218, 270, 0, []), none, none, some (.aload_n 0, 219, 0, 0, []), some (.iload 5, 221, 0, 0, []), none, some (.iload_n 2, 222, 0, 0, []), some (.iload 11, 224, 0, 0, []), none],
  [some (.invokevirtual 110, 227, 0, 0, []), none, none, some (.aload_n 0, 228, 0, 0, []), some (.iload_n 1, 229, 0, 0, []), some (.iload_n 2, 230, 0, 0, []), some (.invokevirtual 363, 233, 0, 0, []), none, none, some (.iconst (-1), 234, 0, (-1), []), some (.if_icmp .ne 30, 237, 264, 0, []), none, none, some (.iload 8, 239, 0, 0, []), none, some (.iload 11, 241, 0, 0, [])],
  [none, some (.bipush 10, 243, 0, 10, []), none, some (.if_icmp .ge 10, 246, 253, 0, []), none, none, some (.iconst 1, 247, 0, 1, []), some (.iload 11, 249, 0, 0, []), none, some (.ishl, 250, 0, 0, []), some (.goto 4, 253, 254, 0, []), none, none, some (.iconst 0, 254, 0, 0, []), some (.ior, 255, 0, 0, []), some (.istore 8, 257, 0, 0, [])],
  [none, some (.iinc 9 1, 260, 0, 1, []), none, none, some (.iload 11, 262, 0, 0, []), none, some (.istore 10, 264, 0, 0, []), none, some (.iinc 11 (-1), 267, 0, (-1), []), none, none, some (.goto (-54), 270, 213, 0, []), none, none, some (.aload_n 0, 271, 0, 0, []), some (.iload 5, 273, 0, 0, [])],
  [none, some (.iload_n 2, 274, 0, 0, []), some (.iload 6, 276, 0, 0, []), none, some (.invokevirtual 110, 279, 0, 0, []), none, none, some (.iload 4, 281, 0, 0, []), none, some (.iconst 3, 282, 0, 3, []), some (.if_icmp .eq 9, 285, 291, 0, []), none, none, some (.iload 4, 287, 0, 0, []), none, some (.iconst 5, 288, 0, 5, [])],
  [some (.if_icmp .ne 8, 291, 296, 0, []), none, none, some (.iload 9, 293, 0, 0, []), none, some (.goto 23, 296, 316, 0, []), none, none, some (.iload 4, 298, 0, 0, []), none, some (.iconst 4, 299, 0, 4, []), some (.if_icmp .eq 10, 302, 309, 0, []), none, none, some (.iload 4, 304, 0, 0, []), none],
  [some (.bipush 6, 306, 0, 6, []), none, some (.if_icmp .ne 8, 309, 314, 0, []), none, none, some (.iload 10, 311, 0, 0, []), none, some (.goto 5, 314, 316, 0, []), none, none, some (.iload 8, 316, 0, 0, []), none, some (.ireturn, 317, 0, 0, [])]]
def m_X6_tells : MT := ((cd_X6_tells, 6, 0, 0, 1), (yX6_tells, cX6_tells, 12, (some .int)))
def cd_X6_film : List (List (Option Ent)) := [[some (.iload_n 1, 1, 0, 0, []), some (.invokestatic 366, 4, 0, 0, []), none, none, some (.ifCond .eq 25, 7, 29, 0, []), none, none, some (.aload_n 0, 8, 0, 0, []), some (.iload_n 2, 9, 0, 0, []), some (.iload_n 3, 10, 0, 0, []), some (.invokevirtual 93, 13, 0, 0, []), none, none, some (.ifCond .eq 16, 16, 29, 0, []), none, none],
  [some (.iload 4, 18, 0, 0, []), none, some (.i2l, 19, 0, 0, []), some (.lconst 0, 20, 0, 0, []), some (.ldc2_w 372, 23, 0, 0, []), none, none, some (.invokestatic 86, 26, 0, 0, []), none, none, some (.ifCond .ne 6, 29, 32, 0, []), none, none, some (.bipush (-2), 31, 0, (-2), []), none, some (.ireturn, 32, 0, 0, [])],
  [some (.aload_n 0, 33, 0, 0, []), some (.iload_n 1, 34, 0, 0, []), some (.iconst 0, 35, 0, 0, []), some (.iload 4, 37, 0, 0, []), none, some (.invokevirtual 374, 40, 0, 0, []), none, none, some (.pop, 41, 0, 0, []), some (.iconst 0, 42, 0, 0, []), some (.istore 5, 44, 0, 0, []), none, some (.iconst 0, 45, 0, 0, []), some (.istore 6, 47, 0, 0, []), none, some (.iload 6, 49, 0, 0, [])],
  [none, some (.iload 4, 51, 0, 0, []), none, some (.if_icmp .ge 40, 54, 91, 0, []), none, none, some (.aload_n 0, 55, 0, 0, []), some (.getfield 69, 58, 0, 0, []), none, none, some (.bipush 40, 60, 0, 40, []), none, some (.iload_n 1, 61, 0, 0, []), some (.imul, 62, 0, 0, []), some (.iload 6, 64, 0, 0, []), none],
  [some (.iadd, 65, 0, 0, []), some (.aload_n 0, 66, 0, 0, []), some (.iload_n 2, 67, 0, 0, []), some (.iload 6, 69, 0, 0, []), none, some (.invokevirtual 277, 72, 0, 0, []), none, none, some (.iastore, 73, 0, 0, []), some (.iload 5, 75, 0, 0, []), none, some (.aload_n 0, 76, 0, 0, []), some (.iload_n 2, 77, 0, 0, []), some (.iload 6, 79, 0, 0, []), none, some (.invokevirtual 277, 82, 0, 0, [])],
  [none, none, some (.iadd, 83, 0, 0, []), some (.istore 5, 85, 0, 0, []), none, some (.iinc 6 1, 88, 0, 1, []), none, none, some (.goto (-41), 91, 47, 0, []), none, none, some (.iload 5, 93, 0, 0, []), none, some (.ireturn, 94, 0, 0, [])]]
def m_X6_film : MT := ((cd_X6_film, 6, 0, 0, 1), (yX6_film, cX6_film, 7, (some .int)))
def cd_X6_endsDrawn : List (List (Option Ent)) := [[some (.iconst 0, 1, 0, 0, []), some (.istore_n 2, 2, 0, 0, []), some (.iload_n 2, 3, 0, 0, []), some (.bipush 25, 5, 0, 25, []), none, some (.if_icmp .ge 21, 8, 26, 0, []), none, none, some (.aload_n 0, 9, 0, 0, []), some (.getfield 47, 12, 0, 0, []), none, none, some (.iload_n 2, 13, 0, 0, []), some (.aload_n 0, 14, 0, 0, []), some (.getfield 29, 17, 0, 0, []), none],
  [none, some (.iload_n 2, 18, 0, 0, []), some (.iaload, 19, 0, 0, []), some (.iastore, 20, 0, 0, []), some (.iinc 2 1, 23, 0, 1, []), none, none, some (.goto (-21), 26, 2, 0, []), none, none, some (.iload_n 1, 27, 0, 0, []), some (.istore_n 2, 28, 0, 0, []), some (.iconst 0, 29, 0, 0, []), some (.istore_n 3, 30, 0, 0, []), some (.iload_n 3, 31, 0, 0, []), some (.aload_n 0, 32, 0, 0, [])],
  [some (.getfield 83, 35, 0, 0, []), none, none, some (.if_icmp .ge 60, 38, 95, 0, []), none, none, some (.iconst 0, 39, 0, 0, []), some (.istore 4, 41, 0, 0, []), none, some (.iload 4, 43, 0, 0, []), none, some (.aload_n 0, 44, 0, 0, []), some (.getfield 83, 47, 0, 0, []), none, none, some (.if_icmp .ge 42, 50, 89, 0, [])],
  [none, none, some (.iload_n 3, 51, 0, 0, []), some (.iload 4, 53, 0, 0, []), none, some (.if_icmp .eq 30, 56, 83, 0, []), none, none, some (.iload_n 2, 57, 0, 0, []), some (.ldc_w 377, 60, 0, 0, []), none, none, some (.imul, 61, 0, 0, []), some (.sipush 12345, 64, 0, 12345, []), none, none],
  [some (.iadd, 65, 0, 0, []), some (.istore_n 2, 66, 0, 0, []), some (.aload_n 0, 67, 0, 0, []), some (.getfield 29, 70, 0, 0, []), none, none, some (.iconst 5, 71, 0, 5, []), some (.iload_n 3, 72, 0, 0, []), some (.imul, 73, 0, 0, []), some (.iload 4, 75, 0, 0, []), none, some (.iadd, 76, 0, 0, []), some (.iload_n 2, 77, 0, 0, []), some (.bipush 9, 79, 0, 9, []), none, some (.iushr, 80, 0, 0, [])],
  [some (.iconst 4, 81, 0, 4, []), some (.irem, 82, 0, 0, []), some (.iastore, 83, 0, 0, []), some (.iinc 4 1, 86, 0, 1, []), none, none, some (.goto (-45), 89, 41, 0, []), none, none, some (.iinc 3 1, 92, 0, 1, []), none, none, some (.goto (-62), 95, 30, 0, []), none, none, some (.aload_n 0, 96, 0, 0, [])],
  [some (.invokevirtual 351, 99, 0, 0, []), none, none, some (.istore_n 3, 100, 0, 0, []), some (.iconst 0, 101, 0, 0, []), some (.istore 4, 103, 0, 0, []), none, some (.iload 4, 105, 0, 0, []), none, some (.bipush 25, 107, 0, 25, []), none, some (.if_icmp .ge 23, 110, 130, 0, []), none, none, some (.aload_n 0, 111, 0, 0, []), some (.getfield 29, 114, 0, 0, [])],
  [none, none, some (.iload 4, 116, 0, 0, []), none, some (.aload_n 0, 117, 0, 0, []), some (.getfield 47, 120, 0, 0, []), none, none, some (.iload 4, 122, 0, 0, []), none, some (.iaload, 123, 0, 0, []), some (.iastore, 124, 0, 0, []), some (.iinc 4 1, 127, 0, 1, []), none, none, some (.goto (-24), 130, 103, 0, [])],
  [none, none, some (.iload_n 3, 131, 0, 0, []), some (.ireturn, 132, 0, 0, [])]]
def m_X6_endsDrawn : MT := ((cd_X6_endsDrawn, 6, 0, 0, 1), (yX6_endsDrawn, cX6_endsDrawn, 5, (some .int)))
def cd_X6_drawn : List (List (Option Ent)) := [[some (.aload_n 0, 1, 0, 0, []), some (.iload_n 1, 2, 0, 0, []), some (.invokevirtual 378, 5, 0, 0, []), none, none, some (.ireturn, 6, 0, 0, [])]]
def m_X6_drawn : MT := ((cd_X6_drawn, 6, 0, 0, 1), (yX6_drawn, cX6_drawn, 2, (some .int)))
def cd_X6_chance : List (List (Option Ent)) := [[some (.iload_n 2, 1, 0, 0, []), some (.i2l, 2, 0, 0, []), some (.lconst 1, 3, 0, 0, []), some (.ldc2_w 179, 6, 0, 0, []), none, none, some (.invokestatic 86, 9, 0, 0, []), none, none, some (.ifCond .eq 26, 12, 35, 0, []), none, none, some (.iload_n 3, 13, 0, 0, []), some (.i2l, 14, 0, 0, []), some (.lconst 0, 15, 0, 0, []), some (.ldc2_w 381, 18, 0, 0, [])],
  [none, none, some (.invokestatic 86, 21, 0, 0, []), none, none, some (.ifCond .eq 14, 24, 35, 0, []), none, none, some (.iload 4, 26, 0, 0, []), none, some (.i2l, 27, 0, 0, []), some (.lconst 0, 28, 0, 0, []), some (.lconst 1, 29, 0, 0, []), some (.invokestatic 86, 32, 0, 0, []), none, none],
  [some (.ifCond .ne 7, 35, 39, 0, []), none, none, some (.ldc2_w 361, 38, 0, 0, []), none, none, some (.lreturn, 39, 0, 0, []), some (.lconst 0, 40, 0, 0, []), some (.lstore 5, 42, 0, 0, []), none, some (.iconst 0, 43, 0, 0, []), some (.istore 7, 45, 0, 0, []), none, some (.iload 7, 47, 0, 0, []), none, some (.iload_n 2, 48, 0, 0, [])],
  [some (.if_icmp .ge 46, 51, 94, 0, []), none, none, some (.aload_n 0, 52, 0, 0, []), some (.iload_n 1, 53, 0, 0, []), some (.iload 7, 55, 0, 0, []), none, some (.iadd, 56, 0, 0, []), some (.invokevirtual 378, 59, 0, 0, []), none, none, some (.istore 8, 61, 0, 0, []), none, some (.lload 5, 63, 0, 0, []), none, some (.iload 8, 65, 0, 0, [])],
  [none, some (.iconst (-1), 66, 0, (-1), []), some (.if_icmp .ne 8, 69, 74, 0, []), none, none, some (.bipush 61, 71, 0, 61, []), none, some (.goto 5, 74, 76, 0, []), none, none, some (.iload 8, 76, 0, 0, []), none, some (.iload_n 3, 77, 0, 0, []), some (.if_icmp .gt 7, 80, 84, 0, []), none, none],
  [some (.lconst 1, 81, 0, 0, []), some (.goto 4, 84, 85, 0, []), none, none, some (.lconst 0, 85, 0, 0, []), some (.ladd, 86, 0, 0, []), some (.lstore 5, 88, 0, 0, []), none, some (.iinc 7 1, 91, 0, 1, []), none, none, some (.goto (-46), 94, 45, 0, []), none, none, some (.lload 5, 96, 0, 0, []), none],
  [some (.iload_n 2, 97, 0, 0, []), some (.i2l, 98, 0, 0, []), some (.iload 4, 100, 0, 0, []), none, some (.invokestatic 357, 103, 0, 0, []), none, none, some (.lreturn, 104, 0, 0, [])]]
def m_X6_chance : MT := ((cd_X6_chance, 6, 0, 0, 2), (yX6_chance, cX6_chance, 9, (some .long)))
def cd_X6_image : List (List (Option Ent)) := [[some (.iconst 0, 1, 0, 0, []), some (.istore_n 1, 2, 0, 0, []), some (.iload_n 1, 3, 0, 0, []), some (.bipush 25, 5, 0, 25, []), none, some (.if_icmp .ge 21, 8, 26, 0, []), none, none, some (.aload_n 0, 9, 0, 0, []), some (.getfield 50, 12, 0, 0, []), none, none, some (.iload_n 1, 13, 0, 0, []), some (.aload_n 0, 14, 0, 0, []), some (.getfield 29, 17, 0, 0, []), none],
  [none, some (.iload_n 1, 18, 0, 0, []), some (.iaload, 19, 0, 0, []), some (.iastore, 20, 0, 0, []), some (.iinc 1 1, 23, 0, 1, []), none, none, some (.goto (-21), 26, 2, 0, []), none, none, some (.iconst 0, 27, 0, 0, []), some (.istore_n 1, 28, 0, 0, []), some (.iload_n 1, 29, 0, 0, []), some (.bipush 10, 31, 0, 10, []), none, some (.if_icmp .ge 21, 34, 52, 0, [])],
  [none, none, some (.aload_n 0, 35, 0, 0, []), some (.getfield 53, 38, 0, 0, []), none, none, some (.iload_n 1, 39, 0, 0, []), some (.aload_n 0, 40, 0, 0, []), some (.getfield 26, 43, 0, 0, []), none, none, some (.iload_n 1, 44, 0, 0, []), some (.iaload, 45, 0, 0, []), some (.iastore, 46, 0, 0, []), some (.iinc 1 1, 49, 0, 1, []), none],
  [none, some (.goto (-21), 52, 28, 0, []), none, none, some (.aload_n 0, 53, 0, 0, []), some (.aload_n 0, 54, 0, 0, []), some (.getfield 83, 57, 0, 0, []), none, none, some (.putfield 56, 60, 0, 0, []), none, none, some (.aload_n 0, 61, 0, 0, []), some (.aload_n 0, 62, 0, 0, []), some (.getfield 114, 65, 0, 0, []), none],
  [none, some (.putfield 383, 68, 0, 0, []), none, none, some (.aload_n 0, 69, 0, 0, []), some (.aload_n 0, 70, 0, 0, []), some (.getfield 117, 73, 0, 0, []), none, none, some (.putfield 386, 76, 0, 0, []), none, none, some (.aload_n 0, 77, 0, 0, []), some (.aload_n 0, 78, 0, 0, []), some (.getfield 123, 81, 0, 0, []), none],
  [none, some (.putfield 389, 84, 0, 0, []), none, none, some (.aload_n 0, 85, 0, 0, []), some (.getfield 83, 88, 0, 0, []), none, none, some (.ireturn, 89, 0, 0, [])]]
def m_X6_image : MT := ((cd_X6_image, 6, 0, 0, 1), (yX6_image, cX6_image, 2, (some .int)))
def cd_X6_back : List (List (Option Ent)) := [[some (.aload_n 0, 1, 0, 0, []), some (.getfield 56, 4, 0, 0, []), none, none, some (.iconst (-1), 5, 0, (-1), []), some (.if_icmp .ne 6, 8, 11, 0, []), none, none, some (.bipush (-3), 10, 0, (-3), []), none, some (.ireturn, 11, 0, 0, []), some (.iconst 0, 12, 0, 0, []), some (.istore_n 1, 13, 0, 0, []), some (.iload_n 1, 14, 0, 0, []), some (.bipush 25, 16, 0, 25, []), none],
  [some (.if_icmp .ge 21, 19, 37, 0, []), none, none, some (.aload_n 0, 20, 0, 0, []), some (.getfield 29, 23, 0, 0, []), none, none, some (.iload_n 1, 24, 0, 0, []), some (.aload_n 0, 25, 0, 0, []), some (.getfield 50, 28, 0, 0, []), none, none, some (.iload_n 1, 29, 0, 0, []), some (.iaload, 30, 0, 0, []), some (.iastore, 31, 0, 0, []), some (.iinc 1 1, 34, 0, 1, [])],
  [none, none, some (.goto (-21), 37, 13, 0, []), none, none, some (.iconst 0, 38, 0, 0, []), some (.istore_n 1, 39, 0, 0, []), some (.iload_n 1, 40, 0, 0, []), some (.bipush 10, 42, 0, 10, []), none, some (.if_icmp .ge 21, 45, 63, 0, []), none, none, some (.aload_n 0, 46, 0, 0, []), some (.getfield 26, 49, 0, 0, []), none],
  [none, some (.iload_n 1, 50, 0, 0, []), some (.aload_n 0, 51, 0, 0, []), some (.getfield 53, 54, 0, 0, []), none, none, some (.iload_n 1, 55, 0, 0, []), some (.iaload, 56, 0, 0, []), some (.iastore, 57, 0, 0, []), some (.iinc 1 1, 60, 0, 1, []), none, none, some (.goto (-21), 63, 39, 0, []), none, none, some (.aload_n 0, 64, 0, 0, [])],
  [some (.aload_n 0, 65, 0, 0, []), some (.getfield 56, 68, 0, 0, []), none, none, some (.putfield 83, 71, 0, 0, []), none, none, some (.aload_n 0, 72, 0, 0, []), some (.aload_n 0, 73, 0, 0, []), some (.getfield 383, 76, 0, 0, []), none, none, some (.putfield 114, 79, 0, 0, []), none, none, some (.aload_n 0, 80, 0, 0, [])],
  [some (.aload_n 0, 81, 0, 0, []), some (.getfield 386, 84, 0, 0, []), none, none, some (.putfield 117, 87, 0, 0, []), none, none, some (.aload_n 0, 88, 0, 0, []), some (.aload_n 0, 89, 0, 0, []), some (.getfield 389, 92, 0, 0, []), none, none, some (.putfield 123, 95, 0, 0, []), none, none, some (.aload_n 0, 96, 0, 0, [])],
  [some (.getfield 83, 99, 0, 0, []), none, none, some (.ireturn, 100, 0, 0, [])]]
def m_X6_back : MT := ((cd_X6_back, 6, 0, 0, 1), (yX6_back, cX6_back, 2, (some .int)))
def cd_X6_count : List (List (Option Ent)) := [[some (.iload_n 1, 1, 0, 0, []), some (.i2l, 2, 0, 0, []), some (.lconst 0, 3, 0, 0, []), some (.ldc2_w 126, 6, 0, 0, []), none, none, some (.invokestatic 86, 9, 0, 0, []), none, none, some (.ifCond .ne 6, 12, 15, 0, []), none, none, some (.bipush (-2), 14, 0, (-2), []), none, some (.ireturn, 15, 0, 0, []), some (.iload_n 1, 16, 0, 0, [])],
  [some (.ifCond .ne 10, 19, 26, 0, []), none, none, some (.aload_n 0, 20, 0, 0, []), some (.getfield 83, 23, 0, 0, []), none, none, some (.goto 55, 26, 78, 0, []), none, none, some (.iload_n 1, 27, 0, 0, []), some (.iconst 1, 28, 0, 1, []), some (.if_icmp .ne 10, 31, 38, 0, []), none, none, some (.aload_n 0, 32, 0, 0, [])],
  [some (.invokevirtual 305, 35, 0, 0, []), none, none, some (.goto 43, 38, 78, 0, []), none, none, some (.iload_n 1, 39, 0, 0, []), some (.iconst 2, 40, 0, 2, []), some (.if_icmp .ne 10, 43, 50, 0, []), none, none, some (.aload_n 0, 44, 0, 0, []), some (.getfield 114, 47, 0, 0, []), none, none, some (.goto 31, 50, 78, 0, [])],
  [none, none, some (.iload_n 1, 51, 0, 0, []), some (.iconst 3, 52, 0, 3, []), some (.if_icmp .ne 10, 55, 62, 0, []), none, none, some (.aload_n 0, 56, 0, 0, []), some (.getfield 80, 59, 0, 0, []), none, none, some (.goto 19, 62, 78, 0, []), none, none, some (.iload_n 1, 63, 0, 0, []), some (.iconst 4, 64, 0, 4, [])],
  [some (.if_icmp .ne 10, 67, 74, 0, []), none, none, some (.aload_n 0, 68, 0, 0, []), some (.getfield 146, 71, 0, 0, []), none, none, some (.goto 7, 74, 78, 0, []), none, none, some (.aload_n 0, 75, 0, 0, []), some (.getfield 123, 78, 0, 0, []), none, none, some (.ireturn, 79, 0, 0, [])]]
def m_X6_count : MT := ((cd_X6_count, 6, 0, 0, 1), (yX6_count, cX6_count, 2, (some .int)))
def cd_X6_isSheet : List (List (Option Ent)) := [[some (.iload_n 0, 1, 0, 0, []), some (.i2l, 2, 0, 0, []), some (.lconst 0, 3, 0, 0, []), some (.ldc2_w 392, 6, 0, 0, []), none, none, some (.invokestatic 86, 9, 0, 0, []), none, none, some (.ireturn, 10, 0, 0, [])]]
def m_X6_isSheet : MT := ((cd_X6_isSheet, 6, 0, 0, 4), (yX6_isSheet, cX6_isSheet, 1, (some .boolean)))
def cd_X6_sheet : List (List (Option Ent)) := [[some (.iload_n 1, 1, 0, 0, []), some (.invokestatic 366, 4, 0, 0, []), none, none, some (.ifCond .eq 27, 7, 31, 0, []), none, none, some (.iload_n 2, 8, 0, 0, []), some (.i2l, 9, 0, 0, []), some (.ldc2_w 394, 12, 0, 0, []), none, none, some (.ldc2_w 275, 15, 0, 0, []), none, none, some (.invokestatic 86, 18, 0, 0, [])],
  [none, none, some (.ifCond .eq 13, 21, 31, 0, []), none, none, some (.iload_n 2, 22, 0, 0, []), some (.ifCond .lt 12, 25, 34, 0, []), none, none, some (.iload_n 3, 26, 0, 0, []), some (.bipush 40, 28, 0, 40, []), none, some (.if_icmp .le 6, 31, 34, 0, []), none, none, some (.bipush (-2), 33, 0, (-2), [])],
  [none, some (.ireturn, 34, 0, 0, []), some (.iload_n 2, 35, 0, 0, []), some (.ifCond .lt 10, 38, 45, 0, []), none, none, some (.iload_n 3, 39, 0, 0, []), some (.ifCond .ge 6, 42, 45, 0, []), none, none, some (.bipush (-14), 44, 0, (-14), []), none, some (.ireturn, 45, 0, 0, []), some (.aload_n 0, 46, 0, 0, []), some (.getfield 59, 49, 0, 0, []), none],
  [none, some (.iload_n 1, 50, 0, 0, []), some (.iload_n 2, 51, 0, 0, []), some (.ifCond .lt 7, 54, 58, 0, []), none, none, some (.iconst 1, 55, 0, 1, []), some (.goto 4, 58, 59, 0, []), none, none, some (.iconst 0, 59, 0, 0, []), some (.bastore, 60, 0, 0, []), some (.aload_n 0, 61, 0, 0, []), some (.getfield 63, 64, 0, 0, []), none, none],
  [some (.iload_n 1, 65, 0, 0, []), some (.iload_n 2, 66, 0, 0, []), some (.iastore, 67, 0, 0, []), some (.aload_n 0, 68, 0, 0, []), some (.getfield 66, 71, 0, 0, []), none, none, some (.iload_n 1, 72, 0, 0, []), some (.iload_n 3, 73, 0, 0, []), some (.iastore, 74, 0, 0, []), some (.iconst 0, 75, 0, 0, []), some (.istore 4, 77, 0, 0, []), none, some (.iload 4, 79, 0, 0, []), none, some (.iload_n 3, 80, 0, 0, [])],
  [some (.if_icmp .ge 26, 83, 106, 0, []), none, none, some (.iload_n 2, 84, 0, 0, []), some (.ifCond .lt 22, 87, 106, 0, []), none, none, some (.aload_n 0, 88, 0, 0, []), some (.getfield 69, 91, 0, 0, []), none, none, some (.bipush 40, 93, 0, 40, []), none, some (.iload_n 1, 94, 0, 0, []), some (.imul, 95, 0, 0, []), some (.iload 4, 97, 0, 0, [])],
  [none, some (.iadd, 98, 0, 0, []), some (.iconst 0, 99, 0, 0, []), some (.iastore, 100, 0, 0, []), some (.iinc 4 1, 103, 0, 1, []), none, none, some (.goto (-26), 106, 77, 0, []), none, none, some (.iconst 1, 107, 0, 1, []), some (.ireturn, 108, 0, 0, [])]]
def m_X6_sheet : MT := ((cd_X6_sheet, 6, 0, 0, 1), (yX6_sheet, cX6_sheet, 5, (some .int)))
def cd_X6_cell : List (List (Option Ent)) := [[some (.iload_n 1, 1, 0, 0, []), some (.invokestatic 366, 4, 0, 0, []), none, none, some (.ifCond .ne 6, 7, 10, 0, []), none, none, some (.bipush (-2), 9, 0, (-2), []), none, some (.ireturn, 10, 0, 0, []), some (.aload_n 0, 11, 0, 0, []), some (.getfield 59, 14, 0, 0, []), none, none, some (.iload_n 1, 15, 0, 0, []), some (.baload, 16, 0, 0, [])],
  [some (.ifCond .ne 6, 19, 22, 0, []), none, none, some (.bipush (-11), 21, 0, (-11), []), none, some (.ireturn, 22, 0, 0, []), some (.iload_n 2, 23, 0, 0, []), some (.i2l, 24, 0, 0, []), some (.lconst 0, 25, 0, 0, []), some (.aload_n 0, 26, 0, 0, []), some (.getfield 66, 29, 0, 0, []), none, none, some (.iload_n 1, 30, 0, 0, []), some (.iaload, 31, 0, 0, []), some (.iconst 1, 32, 0, 1, [])],
  [some (.isub, 33, 0, 0, []), some (.i2l, 34, 0, 0, []), some (.invokestatic 86, 37, 0, 0, []), none, none, some (.ifCond .ne 6, 40, 43, 0, []), none, none, some (.bipush (-12), 42, 0, (-12), []), none, some (.ireturn, 43, 0, 0, []), some (.aload_n 0, 44, 0, 0, []), some (.getfield 69, 47, 0, 0, []), none, none, some (.bipush 40, 49, 0, 40, [])],
  [none, some (.iload_n 1, 50, 0, 0, []), some (.imul, 51, 0, 0, []), some (.iload_n 2, 52, 0, 0, []), some (.iadd, 53, 0, 0, []), some (.aload_n 0, 54, 0, 0, []), some (.getfield 63, 57, 0, 0, []), none, none, some (.iload_n 1, 58, 0, 0, []), some (.iaload, 59, 0, 0, []), some (.ifCond .ne 8, 62, 67, 0, []), none, none, some (.iload_n 3, 63, 0, 0, []), some (.i2b, 64, 0, 0, [])],
  [some (.goto 19, 67, 83, 0, []), none, none, some (.aload_n 0, 68, 0, 0, []), some (.getfield 63, 71, 0, 0, []), none, none, some (.iload_n 1, 72, 0, 0, []), some (.iaload, 73, 0, 0, []), some (.iconst 1, 74, 0, 1, []), some (.if_icmp .ne 8, 77, 82, 0, []), none, none, some (.iload_n 3, 78, 0, 0, []), some (.i2s, 79, 0, 0, []), some (.goto 4, 82, 83, 0, [])],
  [none, none, some (.iload_n 3, 83, 0, 0, []), some (.iastore, 84, 0, 0, []), some (.iconst 1, 85, 0, 1, []), some (.ireturn, 86, 0, 0, [])]]
def m_X6_cell : MT := ((cd_X6_cell, 6, 0, 0, 1), (yX6_cell, cX6_cell, 4, (some .int)))
def cd_X6_copy : List (List (Option Ent)) := [[some (.iload_n 1, 1, 0, 0, []), some (.invokestatic 366, 4, 0, 0, []), none, none, some (.ifCond .eq 10, 7, 14, 0, []), none, none, some (.iload_n 3, 8, 0, 0, []), some (.invokestatic 366, 11, 0, 0, []), none, none, some (.ifCond .ne 6, 14, 17, 0, []), none, none, some (.bipush (-2), 16, 0, (-2), []), none],
  [some (.ireturn, 17, 0, 0, []), some (.aload_n 0, 18, 0, 0, []), some (.getfield 59, 21, 0, 0, []), none, none, some (.iload_n 1, 22, 0, 0, []), some (.baload, 23, 0, 0, []), some (.ifCond .eq 12, 26, 35, 0, []), none, none, some (.aload_n 0, 27, 0, 0, []), some (.getfield 59, 30, 0, 0, []), none, none, some (.iload_n 3, 31, 0, 0, []), some (.baload, 32, 0, 0, [])],
  [some (.ifCond .ne 6, 35, 38, 0, []), none, none, some (.bipush (-11), 37, 0, (-11), []), none, some (.ireturn, 38, 0, 0, []), some (.aload_n 0, 39, 0, 0, []), some (.getfield 63, 42, 0, 0, []), none, none, some (.iload_n 1, 43, 0, 0, []), some (.iaload, 44, 0, 0, []), some (.aload_n 0, 45, 0, 0, []), some (.getfield 63, 48, 0, 0, []), none, none],
  [some (.iload_n 3, 49, 0, 0, []), some (.iaload, 50, 0, 0, []), some (.if_icmp .eq 6, 53, 56, 0, []), none, none, some (.bipush (-13), 55, 0, (-13), []), none, some (.ireturn, 56, 0, 0, []), some (.iload 5, 58, 0, 0, []), none, some (.ifCond .lt 39, 61, 97, 0, []), none, none, some (.iload_n 2, 62, 0, 0, []), some (.ifCond .lt 35, 65, 97, 0, []), none],
  [none, some (.iload 4, 67, 0, 0, []), none, some (.ifCond .lt 30, 70, 97, 0, []), none, none, some (.iload_n 2, 71, 0, 0, []), some (.aload_n 0, 72, 0, 0, []), some (.getfield 66, 75, 0, 0, []), none, none, some (.iload_n 1, 76, 0, 0, []), some (.iaload, 77, 0, 0, []), some (.iload 5, 79, 0, 0, []), none, some (.isub, 80, 0, 0, [])],
  [some (.if_icmp .gt 17, 83, 97, 0, []), none, none, some (.iload 4, 85, 0, 0, []), none, some (.aload_n 0, 86, 0, 0, []), some (.getfield 66, 89, 0, 0, []), none, none, some (.iload_n 3, 90, 0, 0, []), some (.iaload, 91, 0, 0, []), some (.iload 5, 93, 0, 0, []), none, some (.isub, 94, 0, 0, []), some (.if_icmp .le 6, 97, 100, 0, []), none],
  [none, some (.bipush (-12), 99, 0, (-12), []), none, some (.ireturn, 100, 0, 0, []), some (.iload_n 1, 101, 0, 0, []), some (.iload_n 3, 102, 0, 0, []), some (.if_icmp .ne 13, 105, 115, 0, []), none, none, some (.iload_n 2, 106, 0, 0, []), some (.iload 4, 108, 0, 0, []), none, some (.if_icmp .ge 7, 111, 115, 0, []), none, none, some (.iconst 1, 112, 0, 1, [])],
  [some (.goto 4, 115, 116, 0, []), none, none, some (.iconst 0, 116, 0, 0, []), some (.istore 6, 118, 0, 0, []), none, some (.iconst 0, 119, 0, 0, []), some (.istore 7, 121, 0, 0, []), none, some (.iload 7, 123, 0, 0, []), none, some (.iload 5, 125, 0, 0, []), none, some (.if_icmp .ge 57, 128, 182, 0, []), none, none],
  [some (.iload 6, 130, 0, 0, []), none, some (.ifCond .eq 13, 133, 143, 0, []), none, none, some (.iload 5, 135, 0, 0, []), none, some (.iconst 1, 136, 0, 1, []), some (.isub, 137, 0, 0, []), some (.iload 7, 139, 0, 0, []), none, some (.isub, 140, 0, 0, []), some (.goto 5, 143, 145, 0, []), none, none, some (.iload 7, 145, 0, 0, [])],
  [none, some (.istore 8, 147, 0, 0, []), none, some (.aload_n 0, 148, 0, 0, []), some (.getfield 69, 151, 0, 0, []), none, none, some (.bipush 40, 153, 0, 40, []), none, some (.iload_n 3, 154, 0, 0, []), some (.imul, 155, 0, 0, []), some (.iload 4, 157, 0, 0, []), none, some (.iadd, 158, 0, 0, []), some (.iload 8, 160, 0, 0, []), none],
  [some (.iadd, 161, 0, 0, []), some (.aload_n 0, 162, 0, 0, []), some (.getfield 69, 165, 0, 0, []), none, none, some (.bipush 40, 167, 0, 40, []), none, some (.iload_n 1, 168, 0, 0, []), some (.imul, 169, 0, 0, []), some (.iload_n 2, 170, 0, 0, []), some (.iadd, 171, 0, 0, []), some (.iload 8, 173, 0, 0, []), none, some (.iadd, 174, 0, 0, []), some (.iaload, 175, 0, 0, []), some (.iastore, 176, 0, 0, [])],
  [some (.iinc 7 1, 179, 0, 1, []), none, none, some (.goto (-58), 182, 121, 0, []), none, none, some (.iload 5, 184, 0, 0, []), none, some (.ireturn, 185, 0, 0, [])]]
def m_X6_copy : MT := ((cd_X6_copy, 6, 0, 0, 1), (yX6_copy, cX6_copy, 9, (some .int)))
def cd_X6_room : List (List (Option Ent)) := [[some (.iload_n 1, 1, 0, 0, []), some (.invokestatic 366, 4, 0, 0, []), none, none, some (.ifCond .eq 28, 7, 32, 0, []), none, none, some (.iload_n 2, 8, 0, 0, []), some (.i2l, 9, 0, 0, []), some (.lconst 0, 10, 0, 0, []), some (.ldc2_w 275, 13, 0, 0, []), none, none, some (.invokestatic 86, 16, 0, 0, []), none, none],
  [some (.ifCond .eq 16, 19, 32, 0, []), none, none, some (.iload 4, 21, 0, 0, []), none, some (.i2l, 22, 0, 0, []), some (.lconst 0, 23, 0, 0, []), some (.ldc2_w 126, 26, 0, 0, []), none, none, some (.invokestatic 86, 29, 0, 0, []), none, none, some (.ifCond .ne 6, 32, 35, 0, []), none, none],
  [some (.bipush (-2), 34, 0, (-2), []), none, some (.ireturn, 35, 0, 0, []), some (.aload_n 0, 36, 0, 0, []), some (.getfield 59, 39, 0, 0, []), none, none, some (.iload_n 1, 40, 0, 0, []), some (.baload, 41, 0, 0, []), some (.ifCond .eq 16, 44, 57, 0, []), none, none, some (.aload_n 0, 45, 0, 0, []), some (.getfield 63, 48, 0, 0, []), none, none],
  [some (.iload_n 1, 49, 0, 0, []), some (.iaload, 50, 0, 0, []), some (.iload_n 2, 51, 0, 0, []), some (.if_icmp .eq 6, 54, 57, 0, []), none, none, some (.bipush (-13), 56, 0, (-13), []), none, some (.ireturn, 57, 0, 0, []), some (.aload_n 0, 58, 0, 0, []), some (.getfield 59, 61, 0, 0, []), none, none, some (.iload_n 1, 62, 0, 0, []), some (.baload, 63, 0, 0, []), some (.ifCond .ne 6, 66, 69, 0, [])],
  [none, none, some (.bipush (-11), 68, 0, (-11), []), none, some (.ireturn, 69, 0, 0, []), some (.iconst 0, 70, 0, 0, []), some (.istore 5, 72, 0, 0, []), none, some (.iconst 0, 73, 0, 0, []), some (.istore 6, 75, 0, 0, []), none, some (.iload 6, 77, 0, 0, []), none, some (.iload 4, 79, 0, 0, []), none, some (.if_icmp .ge 79, 82, 158, 0, [])],
  [none, none, some (.iload_n 3, 83, 0, 0, []), some (.ifCond .lt 20, 86, 103, 0, []), none, none, some (.iload_n 3, 87, 0, 0, []), some (.aload_n 0, 88, 0, 0, []), some (.getfield 66, 91, 0, 0, []), none, none, some (.iload_n 1, 92, 0, 0, []), some (.iaload, 93, 0, 0, []), some (.iconst 2, 94, 0, 2, []), some (.iload 6, 96, 0, 0, []), none],
  [some (.imul, 97, 0, 0, []), some (.isub, 98, 0, 0, []), some (.iconst 2, 99, 0, 2, []), some (.isub, 100, 0, 0, []), some (.if_icmp .le 6, 103, 106, 0, []), none, none, some (.bipush (-12), 105, 0, (-12), []), none, some (.ireturn, 106, 0, 0, []), some (.bipush 40, 108, 0, 40, []), none, some (.iload_n 1, 109, 0, 0, []), some (.imul, 110, 0, 0, []), some (.iload_n 3, 111, 0, 0, []), some (.iadd, 112, 0, 0, [])],
  [some (.iconst 2, 113, 0, 2, []), some (.iload 6, 115, 0, 0, []), none, some (.imul, 116, 0, 0, []), some (.iadd, 117, 0, 0, []), some (.istore 7, 119, 0, 0, []), none, some (.iload 5, 121, 0, 0, []), none, some (.aload_n 0, 122, 0, 0, []), some (.aload_n 0, 123, 0, 0, []), some (.getfield 69, 126, 0, 0, []), none, none, some (.iload 7, 128, 0, 0, []), none],
  [some (.iaload, 129, 0, 0, []), some (.aload_n 0, 130, 0, 0, []), some (.getfield 69, 133, 0, 0, []), none, none, some (.iload 7, 135, 0, 0, []), none, some (.iconst 1, 136, 0, 1, []), some (.iadd, 137, 0, 0, []), some (.iaload, 138, 0, 0, []), some (.invokevirtual 396, 141, 0, 0, []), none, none, some (.ifCond .lt 7, 144, 148, 0, []), none, none],
  [some (.iconst 1, 145, 0, 1, []), some (.goto 4, 148, 149, 0, []), none, none, some (.iconst 0, 149, 0, 0, []), some (.iadd, 150, 0, 0, []), some (.istore 5, 152, 0, 0, []), none, some (.iinc 6 1, 155, 0, 1, []), none, none, some (.goto (-80), 158, 75, 0, []), none, none, some (.iload 5, 160, 0, 0, []), none],
  [some (.ireturn, 161, 0, 0, [])]]
def m_X6_room : MT := ((cd_X6_room, 6, 0, 0, 1), (yX6_room, cX6_room, 8, (some .int)))
def cd_X6_over : List (List (Option Ent)) := [[some (.iload_n 0, 1, 0, 0, []), some (.ifCond .ne 7, 4, 8, 0, []), none, none, some (.iconst (-1), 5, 0, (-1), []), some (.goto 22, 8, 27, 0, []), none, none, some (.iload_n 0, 9, 0, 0, []), some (.iconst 3, 10, 0, 3, []), some (.if_icmp .ne 7, 13, 17, 0, []), none, none, some (.iconst 1, 14, 0, 1, []), some (.goto 13, 17, 27, 0, []), none],
  [none, some (.iload_n 0, 18, 0, 0, []), some (.iconst 4, 19, 0, 4, []), some (.if_icmp .ne 7, 22, 26, 0, []), none, none, some (.iconst 2, 23, 0, 2, []), some (.goto 4, 26, 27, 0, []), none, none, some (.iconst 0, 27, 0, 0, []), some (.ireturn, 28, 0, 0, [])]]
def m_X6_over : MT := ((cd_X6_over, 6, 0, 0, 1), (yX6_over, cX6_over, 1, (some .int)))
def cd_X6_taken : List (List (Option Ent)) := [[some (.iload_n 2, 1, 0, 0, []), some (.i2l, 2, 0, 0, []), some (.lconst 0, 3, 0, 0, []), some (.ldc2_w 126, 6, 0, 0, []), none, none, some (.invokestatic 86, 9, 0, 0, []), none, none, some (.ifCond .ne 6, 12, 15, 0, []), none, none, some (.bipush (-2), 14, 0, (-2), []), none, some (.ireturn, 15, 0, 0, []), some (.aload_n 0, 16, 0, 0, [])],
  [some (.iload_n 1, 17, 0, 0, []), some (.invokevirtual 90, 20, 0, 0, []), none, none, some (.ifCond .ne 6, 23, 26, 0, []), none, none, some (.bipush (-11), 25, 0, (-11), []), none, some (.ireturn, 26, 0, 0, []), some (.aload_n 0, 27, 0, 0, []), some (.getfield 23, 30, 0, 0, []), none, none, some (.iload_n 1, 31, 0, 0, []), some (.iaload, 32, 0, 0, [])],
  [some (.istore_n 3, 33, 0, 0, []), some (.iload_n 3, 34, 0, 0, []), some (.iconst (-1), 35, 0, (-1), []), some (.if_icmp .eq 16, 38, 51, 0, []), none, none, some (.iload_n 3, 39, 0, 0, []), some (.iload_n 2, 40, 0, 0, []), some (.if_icmp .eq 11, 43, 51, 0, []), none, none, some (.iload_n 3, 44, 0, 0, []), some (.invokestatic 399, 47, 0, 0, []), none, none, some (.istore_n 3, 48, 0, 0, [])],
  [some (.goto (-15), 51, 33, 0, []), none, none, some (.iload_n 3, 52, 0, 0, []), some (.iload_n 2, 53, 0, 0, []), some (.if_icmp .ne 14, 56, 67, 0, []), none, none, some (.aload_n 0, 57, 0, 0, []), some (.getfield 26, 60, 0, 0, []), none, none, some (.iconst 2, 61, 0, 2, []), some (.iload_n 1, 62, 0, 0, []), some (.imul, 63, 0, 0, []), some (.iaload, 64, 0, 0, [])],
  [some (.goto 5, 67, 69, 0, []), none, none, some (.bipush (-13), 69, 0, (-13), []), none, some (.ireturn, 70, 0, 0, [])]]
def m_X6_taken : MT := ((cd_X6_taken, 6, 0, 0, 1), (yX6_taken, cX6_taken, 4, (some .int)))
def cd_L_law : List (List (Option Ent)) := [[some (.new 7, 3, 0, 0, []), none, none, some (.dup, 4, 0, 0, []), some (.invokespecial 9, 7, 0, 0, []), none, none, some (.astore_n 1, 8, 0, 0, []), some (.new 10, 11, 0, 0, []), none, none, some (.dup, 12, 0, 0, []), some (.invokespecial 12, 15, 0, 0, []), none, none, some (.astore_n 2, 16, 0, 0, [])],
  [some (.iconst 0, 17, 0, 0, []), some (.istore_n 3, 18, 0, 0, []), some (.iload_n 3, 19, 0, 0, []), some (.aload_n 0, 20, 0, 0, []), some (.arraylength, 21, 0, 0, []), some (.bipush 6, 23, 0, 6, []), none, some (.isub, 24, 0, 0, []), some (.if_icmp .gt 1004, 27, 1028, 0, []), none, none, some (.aload_n 0, 28, 0, 0, []), some (.iload_n 3, 29, 0, 0, []), some (.iaload, 30, 0, 0, []), some (.bipush 31, 32, 0, 31, []), none],
  [some (.iand, 33, 0, 0, []), some (.tableswitch 989 0 25 #[119, 162, 195, 228, 271, 294, 307, 330, 363, 376, 389, 412, 465, 488, 522, 575, 628, 651, 705, 718, 731, 754, 797, 840, 903, 956], 152, 1022, 0, [(0, 152), (1, 195), (2, 228), (3, 261), (4, 304), (5, 327), (6, 340), (7, 363), (8, 396), (9, 409), (10, 422), (11, 445), (12, 498), (13, 521), (14, 555), (15, 608), (16, 661), (17, 684), (18, 738), (19, 751), (20, 764), (21, 787), (22, 830), (23, 873), (24, 936), (25, 989)]), none, none, none, none, none, none, none, none, none, none, none, none, none, none],
  [none, none, none, none, none, none, none, none, none, none, none, none, none, none, none, none],
  [none, none, none, none, none, none, none, none, none, none, none, none, none, none, none, none],
  [none, none, none, none, none, none, none, none, none, none, none, none, none, none, none, none],
  [none, none, none, none, none, none, none, none, none, none, none, none, none, none, none, none],
  [none, none, none, none, none, none, none, none, none, none, none, none, none, none, none, none],
  [none, none, none, none, none, none, none, none, none, none, none, none, none, none, none, none],
  [none, none, none, none, none, none, none, none, some (.aload_n 1, 153, 0, 0, []), some (.aload_n 0, 154, 0, 0, []), some (.iload_n 3, 155, 0, 0, []), some (.iconst 1, 156, 0, 1, []), some (.iadd, 157, 0, 0, []), some (.iaload, 158, 0, 0, []), some (.aload_n 0, 159, 0, 0, []), some (.iload_n 3, 160, 0, 0, [])],
  [some (.iconst 2, 161, 0, 2, []), some (.iadd, 162, 0, 0, []), some (.iaload, 163, 0, 0, []), some (.aload_n 0, 164, 0, 0, []), some (.iload_n 3, 165, 0, 0, []), some (.iconst 3, 166, 0, 3, []), some (.iadd, 167, 0, 0, []), some (.iaload, 168, 0, 0, []), some (.invokevirtual 13, 171, 0, 0, []), none, none, some (.aload_n 2, 172, 0, 0, []), some (.aload_n 0, 173, 0, 0, []), some (.iload_n 3, 174, 0, 0, []), some (.iconst 1, 175, 0, 1, []), some (.iadd, 176, 0, 0, [])],
  [some (.iaload, 177, 0, 0, []), some (.aload_n 0, 178, 0, 0, []), some (.iload_n 3, 179, 0, 0, []), some (.iconst 2, 180, 0, 2, []), some (.iadd, 181, 0, 0, []), some (.iaload, 182, 0, 0, []), some (.aload_n 0, 183, 0, 0, []), some (.iload_n 3, 184, 0, 0, []), some (.iconst 3, 185, 0, 3, []), some (.iadd, 186, 0, 0, []), some (.iaload, 187, 0, 0, []), some (.invokevirtual 17, 190, 0, 0, []), none, none, some (.if_icmp .eq 832, 193, 1022, 0, []), none],
  [none, some (.iconst 0, 194, 0, 0, []), some (.ireturn, 195, 0, 0, []), some (.aload_n 1, 196, 0, 0, []), some (.aload_n 0, 197, 0, 0, []), some (.iload_n 3, 198, 0, 0, []), some (.iconst 1, 199, 0, 1, []), some (.iadd, 200, 0, 0, []), some (.iaload, 201, 0, 0, []), some (.aload_n 0, 202, 0, 0, []), some (.iload_n 3, 203, 0, 0, []), some (.iconst 2, 204, 0, 2, []), some (.iadd, 205, 0, 0, []), some (.iaload, 206, 0, 0, []), some (.invokevirtual 18, 209, 0, 0, []), none],
  [none, some (.aload_n 2, 210, 0, 0, []), some (.aload_n 0, 211, 0, 0, []), some (.iload_n 3, 212, 0, 0, []), some (.iconst 1, 213, 0, 1, []), some (.iadd, 214, 0, 0, []), some (.iaload, 215, 0, 0, []), some (.aload_n 0, 216, 0, 0, []), some (.iload_n 3, 217, 0, 0, []), some (.iconst 2, 218, 0, 2, []), some (.iadd, 219, 0, 0, []), some (.iaload, 220, 0, 0, []), some (.invokevirtual 22, 223, 0, 0, []), none, none, some (.if_icmp .eq 799, 226, 1022, 0, [])],
  [none, none, some (.iconst 0, 227, 0, 0, []), some (.ireturn, 228, 0, 0, []), some (.aload_n 1, 229, 0, 0, []), some (.aload_n 0, 230, 0, 0, []), some (.iload_n 3, 231, 0, 0, []), some (.iconst 1, 232, 0, 1, []), some (.iadd, 233, 0, 0, []), some (.iaload, 234, 0, 0, []), some (.aload_n 0, 235, 0, 0, []), some (.iload_n 3, 236, 0, 0, []), some (.iconst 2, 237, 0, 2, []), some (.iadd, 238, 0, 0, []), some (.iaload, 239, 0, 0, []), some (.invokevirtual 23, 242, 0, 0, [])],
  [none, none, some (.aload_n 2, 243, 0, 0, []), some (.aload_n 0, 244, 0, 0, []), some (.iload_n 3, 245, 0, 0, []), some (.iconst 1, 246, 0, 1, []), some (.iadd, 247, 0, 0, []), some (.iaload, 248, 0, 0, []), some (.aload_n 0, 249, 0, 0, []), some (.iload_n 3, 250, 0, 0, []), some (.iconst 2, 251, 0, 2, []), some (.iadd, 252, 0, 0, []), some (.iaload, 253, 0, 0, []), some (.invokevirtual 26, 256, 0, 0, []), none, none],
  [some (.if_icmp .eq 766, 259, 1022, 0, []), none, none, some (.iconst 0, 260, 0, 0, []), some (.ireturn, 261, 0, 0, []), some (.aload_n 1, 262, 0, 0, []), some (.aload_n 0, 263, 0, 0, []), some (.iload_n 3, 264, 0, 0, []), some (.iconst 1, 265, 0, 1, []), some (.iadd, 266, 0, 0, []), some (.iaload, 267, 0, 0, []), some (.aload_n 0, 268, 0, 0, []), some (.iload_n 3, 269, 0, 0, []), some (.iconst 2, 270, 0, 2, []), some (.iadd, 271, 0, 0, []), some (.iaload, 272, 0, 0, [])],
  [some (.aload_n 0, 273, 0, 0, []), some (.iload_n 3, 274, 0, 0, []), some (.iconst 3, 275, 0, 3, []), some (.iadd, 276, 0, 0, []), some (.iaload, 277, 0, 0, []), some (.invokevirtual 27, 280, 0, 0, []), none, none, some (.aload_n 2, 281, 0, 0, []), some (.aload_n 0, 282, 0, 0, []), some (.iload_n 3, 283, 0, 0, []), some (.iconst 1, 284, 0, 1, []), some (.iadd, 285, 0, 0, []), some (.iaload, 286, 0, 0, []), some (.aload_n 0, 287, 0, 0, []), some (.iload_n 3, 288, 0, 0, [])],
  [some (.iconst 2, 289, 0, 2, []), some (.iadd, 290, 0, 0, []), some (.iaload, 291, 0, 0, []), some (.aload_n 0, 292, 0, 0, []), some (.iload_n 3, 293, 0, 0, []), some (.iconst 3, 294, 0, 3, []), some (.iadd, 295, 0, 0, []), some (.iaload, 296, 0, 0, []), some (.invokevirtual 30, 299, 0, 0, []), none, none, some (.if_icmp .eq 723, 302, 1022, 0, []), none, none, some (.iconst 0, 303, 0, 0, []), some (.ireturn, 304, 0, 0, [])],
  [some (.aload_n 1, 305, 0, 0, []), some (.aload_n 0, 306, 0, 0, []), some (.iload_n 3, 307, 0, 0, []), some (.iconst 1, 308, 0, 1, []), some (.iadd, 309, 0, 0, []), some (.iaload, 310, 0, 0, []), some (.invokevirtual 31, 313, 0, 0, []), none, none, some (.aload_n 2, 314, 0, 0, []), some (.aload_n 0, 315, 0, 0, []), some (.iload_n 3, 316, 0, 0, []), some (.iconst 1, 317, 0, 1, []), some (.iadd, 318, 0, 0, []), some (.iaload, 319, 0, 0, []), some (.invokevirtual 35, 322, 0, 0, [])],
  [none, none, some (.if_icmp .eq 700, 325, 1022, 0, []), none, none, some (.iconst 0, 326, 0, 0, []), some (.ireturn, 327, 0, 0, []), some (.aload_n 1, 328, 0, 0, []), some (.invokevirtual 36, 331, 0, 0, []), none, none, some (.aload_n 2, 332, 0, 0, []), some (.invokevirtual 40, 335, 0, 0, []), none, none, some (.if_icmp .eq 687, 338, 1022, 0, [])],
  [none, none, some (.iconst 0, 339, 0, 0, []), some (.ireturn, 340, 0, 0, []), some (.aload_n 1, 341, 0, 0, []), some (.aload_n 0, 342, 0, 0, []), some (.iload_n 3, 343, 0, 0, []), some (.iconst 1, 344, 0, 1, []), some (.iadd, 345, 0, 0, []), some (.iaload, 346, 0, 0, []), some (.invokevirtual 41, 349, 0, 0, []), none, none, some (.aload_n 2, 350, 0, 0, []), some (.aload_n 0, 351, 0, 0, []), some (.iload_n 3, 352, 0, 0, [])],
  [some (.iconst 1, 353, 0, 1, []), some (.iadd, 354, 0, 0, []), some (.iaload, 355, 0, 0, []), some (.invokevirtual 44, 358, 0, 0, []), none, none, some (.if_icmp .eq 664, 361, 1022, 0, []), none, none, some (.iconst 0, 362, 0, 0, []), some (.ireturn, 363, 0, 0, []), some (.aload_n 1, 364, 0, 0, []), some (.aload_n 0, 365, 0, 0, []), some (.iload_n 3, 366, 0, 0, []), some (.iconst 1, 367, 0, 1, []), some (.iadd, 368, 0, 0, [])],
  [some (.iaload, 369, 0, 0, []), some (.aload_n 0, 370, 0, 0, []), some (.iload_n 3, 371, 0, 0, []), some (.iconst 2, 372, 0, 2, []), some (.iadd, 373, 0, 0, []), some (.iaload, 374, 0, 0, []), some (.invokevirtual 45, 377, 0, 0, []), none, none, some (.aload_n 2, 378, 0, 0, []), some (.aload_n 0, 379, 0, 0, []), some (.iload_n 3, 380, 0, 0, []), some (.iconst 1, 381, 0, 1, []), some (.iadd, 382, 0, 0, []), some (.iaload, 383, 0, 0, []), some (.aload_n 0, 384, 0, 0, [])],
  [some (.iload_n 3, 385, 0, 0, []), some (.iconst 2, 386, 0, 2, []), some (.iadd, 387, 0, 0, []), some (.iaload, 388, 0, 0, []), some (.invokevirtual 48, 391, 0, 0, []), none, none, some (.if_icmp .eq 631, 394, 1022, 0, []), none, none, some (.iconst 0, 395, 0, 0, []), some (.ireturn, 396, 0, 0, []), some (.aload_n 1, 397, 0, 0, []), some (.invokevirtual 49, 400, 0, 0, []), none, none],
  [some (.aload_n 2, 401, 0, 0, []), some (.invokevirtual 52, 404, 0, 0, []), none, none, some (.if_icmp .eq 618, 407, 1022, 0, []), none, none, some (.iconst 0, 408, 0, 0, []), some (.ireturn, 409, 0, 0, []), some (.aload_n 1, 410, 0, 0, []), some (.invokevirtual 53, 413, 0, 0, []), none, none, some (.aload_n 2, 414, 0, 0, []), some (.invokevirtual 56, 417, 0, 0, []), none],
  [none, some (.if_icmp .eq 605, 420, 1022, 0, []), none, none, some (.iconst 0, 421, 0, 0, []), some (.ireturn, 422, 0, 0, []), some (.aload_n 1, 423, 0, 0, []), some (.aload_n 0, 424, 0, 0, []), some (.iload_n 3, 425, 0, 0, []), some (.iconst 1, 426, 0, 1, []), some (.iadd, 427, 0, 0, []), some (.iaload, 428, 0, 0, []), some (.invokevirtual 57, 431, 0, 0, []), none, none, some (.aload_n 2, 432, 0, 0, [])],
  [some (.aload_n 0, 433, 0, 0, []), some (.iload_n 3, 434, 0, 0, []), some (.iconst 1, 435, 0, 1, []), some (.iadd, 436, 0, 0, []), some (.iaload, 437, 0, 0, []), some (.invokevirtual 60, 440, 0, 0, []), none, none, some (.if_icmp .eq 582, 443, 1022, 0, []), none, none, some (.iconst 0, 444, 0, 0, []), some (.ireturn, 445, 0, 0, []), some (.aload_n 1, 446, 0, 0, []), some (.aload_n 0, 447, 0, 0, []), some (.iload_n 3, 448, 0, 0, [])],
  [some (.iconst 1, 449, 0, 1, []), some (.iadd, 450, 0, 0, []), some (.iaload, 451, 0, 0, []), some (.aload_n 0, 452, 0, 0, []), some (.iload_n 3, 453, 0, 0, []), some (.iconst 2, 454, 0, 2, []), some (.iadd, 455, 0, 0, []), some (.iaload, 456, 0, 0, []), some (.aload_n 0, 457, 0, 0, []), some (.iload_n 3, 458, 0, 0, []), some (.iconst 3, 459, 0, 3, []), some (.iadd, 460, 0, 0, []), some (.iaload, 461, 0, 0, []), some (.aload_n 0, 462, 0, 0, []), some (.iload_n 3, 463, 0, 0, []), some (.iconst 4, 464, 0, 4, [])],
  [some (.iadd, 465, 0, 0, []), some (.iaload, 466, 0, 0, []), some (.invokevirtual 61, 469, 0, 0, []), none, none, some (.aload_n 2, 470, 0, 0, []), some (.aload_n 0, 471, 0, 0, []), some (.iload_n 3, 472, 0, 0, []), some (.iconst 1, 473, 0, 1, []), some (.iadd, 474, 0, 0, []), some (.iaload, 475, 0, 0, []), some (.aload_n 0, 476, 0, 0, []), some (.iload_n 3, 477, 0, 0, []), some (.iconst 2, 478, 0, 2, []), some (.iadd, 479, 0, 0, []), some (.iaload, 480, 0, 0, [])],
  [some (.aload_n 0, 481, 0, 0, []), some (.iload_n 3, 482, 0, 0, []), some (.iconst 3, 483, 0, 3, []), some (.iadd, 484, 0, 0, []), some (.iaload, 485, 0, 0, []), some (.aload_n 0, 486, 0, 0, []), some (.iload_n 3, 487, 0, 0, []), some (.iconst 4, 488, 0, 4, []), some (.iadd, 489, 0, 0, []), some (.iaload, 490, 0, 0, []), some (.invokevirtual 65, 493, 0, 0, []), none, none, some (.if_icmp .eq 529, 496, 1022, 0, []), none, none],
  [some (.iconst 0, 497, 0, 0, []), some (.ireturn, 498, 0, 0, []), some (.aload_n 1, 499, 0, 0, []), some (.aload_n 0, 500, 0, 0, []), some (.iload_n 3, 501, 0, 0, []), some (.iconst 1, 502, 0, 1, []), some (.iadd, 503, 0, 0, []), some (.iaload, 504, 0, 0, []), some (.invokevirtual 66, 507, 0, 0, []), none, none, some (.aload_n 2, 508, 0, 0, []), some (.aload_n 0, 509, 0, 0, []), some (.iload_n 3, 510, 0, 0, []), some (.iconst 1, 511, 0, 1, []), some (.iadd, 512, 0, 0, [])],
  [some (.iaload, 513, 0, 0, []), some (.invokevirtual 69, 516, 0, 0, []), none, none, some (.if_icmp .eq 506, 519, 1022, 0, []), none, none, some (.iconst 0, 520, 0, 0, []), some (.ireturn, 521, 0, 0, []), some (.aload_n 1, 522, 0, 0, []), some (.aload_n 0, 523, 0, 0, []), some (.iload_n 3, 524, 0, 0, []), some (.iconst 1, 525, 0, 1, []), some (.iadd, 526, 0, 0, []), some (.iaload, 527, 0, 0, []), some (.aload_n 0, 528, 0, 0, [])],
  [some (.iload_n 3, 529, 0, 0, []), some (.iconst 2, 530, 0, 2, []), some (.iadd, 531, 0, 0, []), some (.iaload, 532, 0, 0, []), some (.invokevirtual 70, 535, 0, 0, []), none, none, some (.aload_n 2, 536, 0, 0, []), some (.aload_n 0, 537, 0, 0, []), some (.iload_n 3, 538, 0, 0, []), some (.iconst 1, 539, 0, 1, []), some (.iadd, 540, 0, 0, []), some (.iaload, 541, 0, 0, []), some (.aload_n 0, 542, 0, 0, []), some (.iload_n 3, 543, 0, 0, []), some (.iconst 2, 544, 0, 2, [])],
  [some (.iadd, 545, 0, 0, []), some (.iaload, 546, 0, 0, []), some (.invokevirtual 74, 549, 0, 0, []), none, none, some (.lcmp, 550, 0, 0, []), some (.ifCond .eq 472, 553, 1022, 0, []), none, none, some (.iconst 0, 554, 0, 0, []), some (.ireturn, 555, 0, 0, []), some (.aload_n 1, 556, 0, 0, []), some (.aload_n 0, 557, 0, 0, []), some (.iload_n 3, 558, 0, 0, []), some (.iconst 1, 559, 0, 1, []), some (.iadd, 560, 0, 0, [])],
  [some (.iaload, 561, 0, 0, []), some (.aload_n 0, 562, 0, 0, []), some (.iload_n 3, 563, 0, 0, []), some (.iconst 2, 564, 0, 2, []), some (.iadd, 565, 0, 0, []), some (.iaload, 566, 0, 0, []), some (.aload_n 0, 567, 0, 0, []), some (.iload_n 3, 568, 0, 0, []), some (.iconst 3, 569, 0, 3, []), some (.iadd, 570, 0, 0, []), some (.iaload, 571, 0, 0, []), some (.aload_n 0, 572, 0, 0, []), some (.iload_n 3, 573, 0, 0, []), some (.iconst 4, 574, 0, 4, []), some (.iadd, 575, 0, 0, []), some (.iaload, 576, 0, 0, [])],
  [some (.invokevirtual 75, 579, 0, 0, []), none, none, some (.aload_n 2, 580, 0, 0, []), some (.aload_n 0, 581, 0, 0, []), some (.iload_n 3, 582, 0, 0, []), some (.iconst 1, 583, 0, 1, []), some (.iadd, 584, 0, 0, []), some (.iaload, 585, 0, 0, []), some (.aload_n 0, 586, 0, 0, []), some (.iload_n 3, 587, 0, 0, []), some (.iconst 2, 588, 0, 2, []), some (.iadd, 589, 0, 0, []), some (.iaload, 590, 0, 0, []), some (.aload_n 0, 591, 0, 0, []), some (.iload_n 3, 592, 0, 0, [])],
  [some (.iconst 3, 593, 0, 3, []), some (.iadd, 594, 0, 0, []), some (.iaload, 595, 0, 0, []), some (.aload_n 0, 596, 0, 0, []), some (.iload_n 3, 597, 0, 0, []), some (.iconst 4, 598, 0, 4, []), some (.iadd, 599, 0, 0, []), some (.iaload, 600, 0, 0, []), some (.invokevirtual 78, 603, 0, 0, []), none, none, some (.if_icmp .eq 419, 606, 1022, 0, []), none, none, some (.iconst 0, 607, 0, 0, []), some (.ireturn, 608, 0, 0, [])],
  [some (.aload_n 1, 609, 0, 0, []), some (.aload_n 0, 610, 0, 0, []), some (.iload_n 3, 611, 0, 0, []), some (.iconst 1, 612, 0, 1, []), some (.iadd, 613, 0, 0, []), some (.iaload, 614, 0, 0, []), some (.aload_n 0, 615, 0, 0, []), some (.iload_n 3, 616, 0, 0, []), some (.iconst 2, 617, 0, 2, []), some (.iadd, 618, 0, 0, []), some (.iaload, 619, 0, 0, []), some (.aload_n 0, 620, 0, 0, []), some (.iload_n 3, 621, 0, 0, []), some (.iconst 3, 622, 0, 3, []), some (.iadd, 623, 0, 0, []), some (.iaload, 624, 0, 0, [])],
  [some (.aload_n 0, 625, 0, 0, []), some (.iload_n 3, 626, 0, 0, []), some (.iconst 4, 627, 0, 4, []), some (.iadd, 628, 0, 0, []), some (.iaload, 629, 0, 0, []), some (.invokevirtual 79, 632, 0, 0, []), none, none, some (.aload_n 2, 633, 0, 0, []), some (.aload_n 0, 634, 0, 0, []), some (.iload_n 3, 635, 0, 0, []), some (.iconst 1, 636, 0, 1, []), some (.iadd, 637, 0, 0, []), some (.iaload, 638, 0, 0, []), some (.aload_n 0, 639, 0, 0, []), some (.iload_n 3, 640, 0, 0, [])],
  [some (.iconst 2, 641, 0, 2, []), some (.iadd, 642, 0, 0, []), some (.iaload, 643, 0, 0, []), some (.aload_n 0, 644, 0, 0, []), some (.iload_n 3, 645, 0, 0, []), some (.iconst 3, 646, 0, 3, []), some (.iadd, 647, 0, 0, []), some (.iaload, 648, 0, 0, []), some (.aload_n 0, 649, 0, 0, []), some (.iload_n 3, 650, 0, 0, []), some (.iconst 4, 651, 0, 4, []), some (.iadd, 652, 0, 0, []), some (.iaload, 653, 0, 0, []), some (.invokevirtual 82, 656, 0, 0, []), none, none],
  [some (.if_icmp .eq 366, 659, 1022, 0, []), none, none, some (.iconst 0, 660, 0, 0, []), some (.ireturn, 661, 0, 0, []), some (.aload_n 1, 662, 0, 0, []), some (.aload_n 0, 663, 0, 0, []), some (.iload_n 3, 664, 0, 0, []), some (.iconst 1, 665, 0, 1, []), some (.iadd, 666, 0, 0, []), some (.iaload, 667, 0, 0, []), some (.invokevirtual 83, 670, 0, 0, []), none, none, some (.aload_n 2, 671, 0, 0, []), some (.aload_n 0, 672, 0, 0, [])],
  [some (.iload_n 3, 673, 0, 0, []), some (.iconst 1, 674, 0, 1, []), some (.iadd, 675, 0, 0, []), some (.iaload, 676, 0, 0, []), some (.invokevirtual 86, 679, 0, 0, []), none, none, some (.if_icmp .eq 343, 682, 1022, 0, []), none, none, some (.iconst 0, 683, 0, 0, []), some (.ireturn, 684, 0, 0, []), some (.aload_n 1, 685, 0, 0, []), some (.aload_n 0, 686, 0, 0, []), some (.iload_n 3, 687, 0, 0, []), some (.iconst 1, 688, 0, 1, [])],
  [some (.iadd, 689, 0, 0, []), some (.iaload, 690, 0, 0, []), some (.aload_n 0, 691, 0, 0, []), some (.iload_n 3, 692, 0, 0, []), some (.iconst 2, 693, 0, 2, []), some (.iadd, 694, 0, 0, []), some (.iaload, 695, 0, 0, []), some (.aload_n 0, 696, 0, 0, []), some (.iload_n 3, 697, 0, 0, []), some (.iconst 3, 698, 0, 3, []), some (.iadd, 699, 0, 0, []), some (.iaload, 700, 0, 0, []), some (.aload_n 0, 701, 0, 0, []), some (.iload_n 3, 702, 0, 0, []), some (.iconst 4, 703, 0, 4, []), some (.iadd, 704, 0, 0, [])],
  [some (.iaload, 705, 0, 0, []), some (.invokevirtual 87, 708, 0, 0, []), none, none, some (.aload_n 2, 709, 0, 0, []), some (.aload_n 0, 710, 0, 0, []), some (.iload_n 3, 711, 0, 0, []), some (.iconst 1, 712, 0, 1, []), some (.iadd, 713, 0, 0, []), some (.iaload, 714, 0, 0, []), some (.aload_n 0, 715, 0, 0, []), some (.iload_n 3, 716, 0, 0, []), some (.iconst 2, 717, 0, 2, []), some (.iadd, 718, 0, 0, []), some (.iaload, 719, 0, 0, []), some (.aload_n 0, 720, 0, 0, [])],
  [some (.iload_n 3, 721, 0, 0, []), some (.iconst 3, 722, 0, 3, []), some (.iadd, 723, 0, 0, []), some (.iaload, 724, 0, 0, []), some (.aload_n 0, 725, 0, 0, []), some (.iload_n 3, 726, 0, 0, []), some (.iconst 4, 727, 0, 4, []), some (.iadd, 728, 0, 0, []), some (.iaload, 729, 0, 0, []), some (.invokevirtual 91, 732, 0, 0, []), none, none, some (.lcmp, 733, 0, 0, []), some (.ifCond .eq 289, 736, 1022, 0, []), none, none],
  [some (.iconst 0, 737, 0, 0, []), some (.ireturn, 738, 0, 0, []), some (.aload_n 1, 739, 0, 0, []), some (.invokevirtual 92, 742, 0, 0, []), none, none, some (.aload_n 2, 743, 0, 0, []), some (.invokevirtual 95, 746, 0, 0, []), none, none, some (.if_icmp .eq 276, 749, 1022, 0, []), none, none, some (.iconst 0, 750, 0, 0, []), some (.ireturn, 751, 0, 0, []), some (.aload_n 1, 752, 0, 0, [])],
  [some (.invokevirtual 96, 755, 0, 0, []), none, none, some (.aload_n 2, 756, 0, 0, []), some (.invokevirtual 99, 759, 0, 0, []), none, none, some (.if_icmp .eq 263, 762, 1022, 0, []), none, none, some (.iconst 0, 763, 0, 0, []), some (.ireturn, 764, 0, 0, []), some (.aload_n 1, 765, 0, 0, []), some (.aload_n 0, 766, 0, 0, []), some (.iload_n 3, 767, 0, 0, []), some (.iconst 1, 768, 0, 1, [])],
  [some (.iadd, 769, 0, 0, []), some (.iaload, 770, 0, 0, []), some (.invokevirtual 100, 773, 0, 0, []), none, none, some (.aload_n 2, 774, 0, 0, []), some (.aload_n 0, 775, 0, 0, []), some (.iload_n 3, 776, 0, 0, []), some (.iconst 1, 777, 0, 1, []), some (.iadd, 778, 0, 0, []), some (.iaload, 779, 0, 0, []), some (.invokevirtual 103, 782, 0, 0, []), none, none, some (.if_icmp .eq 240, 785, 1022, 0, []), none],
  [none, some (.iconst 0, 786, 0, 0, []), some (.ireturn, 787, 0, 0, []), some (.aload_n 1, 788, 0, 0, []), some (.aload_n 0, 789, 0, 0, []), some (.iload_n 3, 790, 0, 0, []), some (.iconst 1, 791, 0, 1, []), some (.iadd, 792, 0, 0, []), some (.iaload, 793, 0, 0, []), some (.aload_n 0, 794, 0, 0, []), some (.iload_n 3, 795, 0, 0, []), some (.iconst 2, 796, 0, 2, []), some (.iadd, 797, 0, 0, []), some (.iaload, 798, 0, 0, []), some (.aload_n 0, 799, 0, 0, []), some (.iload_n 3, 800, 0, 0, [])],
  [some (.iconst 3, 801, 0, 3, []), some (.iadd, 802, 0, 0, []), some (.iaload, 803, 0, 0, []), some (.invokevirtual 104, 806, 0, 0, []), none, none, some (.aload_n 2, 807, 0, 0, []), some (.aload_n 0, 808, 0, 0, []), some (.iload_n 3, 809, 0, 0, []), some (.iconst 1, 810, 0, 1, []), some (.iadd, 811, 0, 0, []), some (.iaload, 812, 0, 0, []), some (.aload_n 0, 813, 0, 0, []), some (.iload_n 3, 814, 0, 0, []), some (.iconst 2, 815, 0, 2, []), some (.iadd, 816, 0, 0, [])],
  [some (.iaload, 817, 0, 0, []), some (.aload_n 0, 818, 0, 0, []), some (.iload_n 3, 819, 0, 0, []), some (.iconst 3, 820, 0, 3, []), some (.iadd, 821, 0, 0, []), some (.iaload, 822, 0, 0, []), some (.invokevirtual 107, 825, 0, 0, []), none, none, some (.if_icmp .eq 197, 828, 1022, 0, []), none, none, some (.iconst 0, 829, 0, 0, []), some (.ireturn, 830, 0, 0, []), some (.aload_n 1, 831, 0, 0, []), some (.aload_n 0, 832, 0, 0, [])],
  [some (.iload_n 3, 833, 0, 0, []), some (.iconst 1, 834, 0, 1, []), some (.iadd, 835, 0, 0, []), some (.iaload, 836, 0, 0, []), some (.aload_n 0, 837, 0, 0, []), some (.iload_n 3, 838, 0, 0, []), some (.iconst 2, 839, 0, 2, []), some (.iadd, 840, 0, 0, []), some (.iaload, 841, 0, 0, []), some (.aload_n 0, 842, 0, 0, []), some (.iload_n 3, 843, 0, 0, []), some (.iconst 3, 844, 0, 3, []), some (.iadd, 845, 0, 0, []), some (.iaload, 846, 0, 0, []), some (.invokevirtual 108, 849, 0, 0, []), none],
  [none, some (.aload_n 2, 850, 0, 0, []), some (.aload_n 0, 851, 0, 0, []), some (.iload_n 3, 852, 0, 0, []), some (.iconst 1, 853, 0, 1, []), some (.iadd, 854, 0, 0, []), some (.iaload, 855, 0, 0, []), some (.aload_n 0, 856, 0, 0, []), some (.iload_n 3, 857, 0, 0, []), some (.iconst 2, 858, 0, 2, []), some (.iadd, 859, 0, 0, []), some (.iaload, 860, 0, 0, []), some (.aload_n 0, 861, 0, 0, []), some (.iload_n 3, 862, 0, 0, []), some (.iconst 3, 863, 0, 3, []), some (.iadd, 864, 0, 0, [])],
  [some (.iaload, 865, 0, 0, []), some (.invokevirtual 111, 868, 0, 0, []), none, none, some (.if_icmp .eq 154, 871, 1022, 0, []), none, none, some (.iconst 0, 872, 0, 0, []), some (.ireturn, 873, 0, 0, []), some (.aload_n 1, 874, 0, 0, []), some (.aload_n 0, 875, 0, 0, []), some (.iload_n 3, 876, 0, 0, []), some (.iconst 1, 877, 0, 1, []), some (.iadd, 878, 0, 0, []), some (.iaload, 879, 0, 0, []), some (.aload_n 0, 880, 0, 0, [])],
  [some (.iload_n 3, 881, 0, 0, []), some (.iconst 2, 882, 0, 2, []), some (.iadd, 883, 0, 0, []), some (.iaload, 884, 0, 0, []), some (.aload_n 0, 885, 0, 0, []), some (.iload_n 3, 886, 0, 0, []), some (.iconst 3, 887, 0, 3, []), some (.iadd, 888, 0, 0, []), some (.iaload, 889, 0, 0, []), some (.aload_n 0, 890, 0, 0, []), some (.iload_n 3, 891, 0, 0, []), some (.iconst 4, 892, 0, 4, []), some (.iadd, 893, 0, 0, []), some (.iaload, 894, 0, 0, []), some (.aload_n 0, 895, 0, 0, []), some (.iload_n 3, 896, 0, 0, [])],
  [some (.iconst 5, 897, 0, 5, []), some (.iadd, 898, 0, 0, []), some (.iaload, 899, 0, 0, []), some (.invokevirtual 112, 902, 0, 0, []), none, none, some (.aload_n 2, 903, 0, 0, []), some (.aload_n 0, 904, 0, 0, []), some (.iload_n 3, 905, 0, 0, []), some (.iconst 1, 906, 0, 1, []), some (.iadd, 907, 0, 0, []), some (.iaload, 908, 0, 0, []), some (.aload_n 0, 909, 0, 0, []), some (.iload_n 3, 910, 0, 0, []), some (.iconst 2, 911, 0, 2, []), some (.iadd, 912, 0, 0, [])],
  [some (.iaload, 913, 0, 0, []), some (.aload_n 0, 914, 0, 0, []), some (.iload_n 3, 915, 0, 0, []), some (.iconst 3, 916, 0, 3, []), some (.iadd, 917, 0, 0, []), some (.iaload, 918, 0, 0, []), some (.aload_n 0, 919, 0, 0, []), some (.iload_n 3, 920, 0, 0, []), some (.iconst 4, 921, 0, 4, []), some (.iadd, 922, 0, 0, []), some (.iaload, 923, 0, 0, []), some (.aload_n 0, 924, 0, 0, []), some (.iload_n 3, 925, 0, 0, []), some (.iconst 5, 926, 0, 5, []), some (.iadd, 927, 0, 0, []), some (.iaload, 928, 0, 0, [])],
  [some (.invokevirtual 116, 931, 0, 0, []), none, none, some (.if_icmp .eq 91, 934, 1022, 0, []), none, none, some (.iconst 0, 935, 0, 0, []), some (.ireturn, 936, 0, 0, []), some (.aload_n 1, 937, 0, 0, []), some (.aload_n 0, 938, 0, 0, []), some (.iload_n 3, 939, 0, 0, []), some (.iconst 1, 940, 0, 1, []), some (.iadd, 941, 0, 0, []), some (.iaload, 942, 0, 0, []), some (.aload_n 0, 943, 0, 0, []), some (.iload_n 3, 944, 0, 0, [])],
  [some (.iconst 2, 945, 0, 2, []), some (.iadd, 946, 0, 0, []), some (.iaload, 947, 0, 0, []), some (.aload_n 0, 948, 0, 0, []), some (.iload_n 3, 949, 0, 0, []), some (.iconst 3, 950, 0, 3, []), some (.iadd, 951, 0, 0, []), some (.iaload, 952, 0, 0, []), some (.aload_n 0, 953, 0, 0, []), some (.iload_n 3, 954, 0, 0, []), some (.iconst 4, 955, 0, 4, []), some (.iadd, 956, 0, 0, []), some (.iaload, 957, 0, 0, []), some (.invokevirtual 117, 960, 0, 0, []), none, none],
  [some (.aload_n 2, 961, 0, 0, []), some (.aload_n 0, 962, 0, 0, []), some (.iload_n 3, 963, 0, 0, []), some (.iconst 1, 964, 0, 1, []), some (.iadd, 965, 0, 0, []), some (.iaload, 966, 0, 0, []), some (.aload_n 0, 967, 0, 0, []), some (.iload_n 3, 968, 0, 0, []), some (.iconst 2, 969, 0, 2, []), some (.iadd, 970, 0, 0, []), some (.iaload, 971, 0, 0, []), some (.aload_n 0, 972, 0, 0, []), some (.iload_n 3, 973, 0, 0, []), some (.iconst 3, 974, 0, 3, []), some (.iadd, 975, 0, 0, []), some (.iaload, 976, 0, 0, [])],
  [some (.aload_n 0, 977, 0, 0, []), some (.iload_n 3, 978, 0, 0, []), some (.iconst 4, 979, 0, 4, []), some (.iadd, 980, 0, 0, []), some (.iaload, 981, 0, 0, []), some (.invokevirtual 120, 984, 0, 0, []), none, none, some (.if_icmp .eq 38, 987, 1022, 0, []), none, none, some (.iconst 0, 988, 0, 0, []), some (.ireturn, 989, 0, 0, []), some (.aload_n 1, 990, 0, 0, []), some (.aload_n 0, 991, 0, 0, []), some (.iload_n 3, 992, 0, 0, [])],
  [some (.iconst 1, 993, 0, 1, []), some (.iadd, 994, 0, 0, []), some (.iaload, 995, 0, 0, []), some (.aload_n 0, 996, 0, 0, []), some (.iload_n 3, 997, 0, 0, []), some (.iconst 2, 998, 0, 2, []), some (.iadd, 999, 0, 0, []), some (.iaload, 1000, 0, 0, []), some (.invokevirtual 121, 1003, 0, 0, []), none, none, some (.aload_n 2, 1004, 0, 0, []), some (.aload_n 0, 1005, 0, 0, []), some (.iload_n 3, 1006, 0, 0, []), some (.iconst 1, 1007, 0, 1, []), some (.iadd, 1008, 0, 0, [])],
  [some (.iaload, 1009, 0, 0, []), some (.aload_n 0, 1010, 0, 0, []), some (.iload_n 3, 1011, 0, 0, []), some (.iconst 2, 1012, 0, 2, []), some (.iadd, 1013, 0, 0, []), some (.iaload, 1014, 0, 0, []), some (.invokevirtual 124, 1017, 0, 0, []), none, none, some (.if_icmp .eq 5, 1020, 1022, 0, []), none, none, some (.iconst 0, 1021, 0, 0, []), some (.ireturn, 1022, 0, 0, []), some (.iinc 3 6, 1025, 0, 6, []), none],
  [none, some (.goto (-1007), 1028, 18, 0, []), none, none, some (.iconst 1, 1029, 0, 1, []), some (.ireturn, 1030, 0, 0, [])]]
def m_L_law : MT := ((cd_L_law, 7, 600000, 7302250, 4), (yL_law, cL_law, 4, (some .boolean)))
/-- a link: its kind (0 a method of an object, 1 static, 2 a constructor, 3 Object.<init>, 4 min, 5 max, 6 arraycopy, 7 clone, 8 length, 9 charAt, 10 indexOf, 11 static of the nest, 12 a constructor of the nest), the method, how many arguments -/
abbrev LK : Type := Nat × MT × Nat
def lnk_0 : List (Nat × LK) := [(3, (3, m_none, 0)), (50, (6, m_none, 5)), (56, (0, m_X0_owes, 1)), (65, (0, m_X0_owedTo, 1)), (68, (0, m_X2_value, 2)), (75, (0, m_X0_value, 3)), (78, (0, m_X0_owing, 2)), (81, (0, m_X0_will, 2)), (85, (0, m_X0_breath, 1)), (88, (0, m_X0_pays, 2)), (91, (0, m_X0_settle, 4)), (95, (0, m_X0_lessen, 3)), (99, (4, m_none, 2)), (110, (0, m_X0_may, 2)), (113, (0, m_X0_step, 2)), (116, (0, m_X0_danceRound, 0)), (121, (5, m_none, 2)), (124, (0, m_X0_longest, 4)), (134, (0, m_X0_mayAll, 1)), (138, (0, m_X0_paidBy, 1)), (149, (0, m_X0_firstOtherwise, 2)), (72, (11, m_X5_within, 2))]
def lnk_1 : List (Nat × LK) := [(3, (3, m_none, 0)), (34, (0, m_X1_next, 0)), (37, (0, m_X1_pass, 1)), (41, (0, m_X1_either, 0)), (48, (6, m_none, 5)), (56, (7, m_none, 0)), (61, (2, m_X4_init, 2)), (64, (0, m_X1_both, 0)), (67, (0, m_X1_put, 1)), (70, (0, m_X1_denied, 0)), (73, (0, m_X1_compared, 0)), (76, (0, m_X1_opens, 0)), (79, (0, m_X1_sum, 0)), (82, (0, m_X1_term, 0)), (85, (0, m_X1_one, 0)), (94, (1, m_X1_isDigit, 1)), (97, (0, m_X1_nextNumber, 0)), (100, (1, m_X1_isLetter, 1)), (103, (0, m_X1_nextWord, 0)), (108, (10, m_none, 1)), (116, (0, m_X1_spells, 1)), (141, (8, m_none, 0)), (145, (9, m_none, 1))]
def lnk_2 : List (Nat × LK) := [(3, (3, m_none, 0)), (24, (2, m_X4_init, 2))]
def lnk_3 : List (Nat × LK) := [(3, (3, m_none, 0))]
def lnk_4 : List (Nat × LK) := [(1, (3, m_none, 0))]
def lnk_5 : List (Nat × LK) := [(1, (3, m_none, 0)), (9, (2, m_X2_init, 0)), (18, (2, m_X0_init, 1)), (53, (0, m_X5_told, 2)), (73, (0, m_X5_debtPlace, 1)), (80, (0, m_X0_join, 2)), (83, (0, m_X5_isDancer, 1)), (90, (0, m_X0_breath, 1)), (93, (0, m_X0_owes, 1)), (96, (0, m_X0_owedTo, 1)), (99, (0, m_X5_isTwo, 2)), (103, (0, m_X0_owing, 2)), (106, (0, m_X0_pays, 2)), (109, (0, m_X0_will, 2)), (112, (0, m_X0_may, 2)), (115, (0, m_X1_hold, 1)), (124, (0, m_X1_read, 0)), (131, (0, m_X2_keep, 1)), (138, (0, m_X0_step, 2)), (141, (0, m_X0_danceRound, 0)), (145, (0, m_X0_endNight, 0)), (148, (0, m_X5_readRing, 1)), (151, (4, m_none, 2)), (156, (0, m_X0_lessen, 3)), (160, (0, m_X5_think, 0)), (164, (0, m_X0_all, 0)), (167, (0, m_X0_stillOwed, 0)), (170, (0, m_X0_takeFrom, 1)), (174, (0, m_X0_weigh, 0)), (177, (0, m_X0_bestSet, 0)), (180, (0, m_X0_paidBy, 1)), (183, (0, m_X5_sitters, 0)), (186, (0, m_X5_soonest, 0)), (189, (0, m_X0_least, 0)), (192, (0, m_X0_ring, 0)), (194, (0, m_X0_ends, 0)), (197, (0, m_X0_keeps, 0)), (202, (1, m_X5_lowest, 3)), (209, (0, m_X5_clears, 2)), (212, (0, m_X0_mostToMeet, 0)), (218, (0, m_X0_mayAll, 1)), (221, (0, m_X0_danceSet, 2)), (225, (1, m_X5_isSheet, 1)), (232, (0, m_X0_firstOtherwise, 2)), (236, (0, m_X5_kindsTold, 2)), (239, (0, m_X5_numbersTold, 2)), (242, (0, m_X5_roundsTold, 3)), (246, (0, m_X5_donesTold, 3)), (249, (0, m_X5_textsTold, 2)), (252, (0, m_X5_dancersTold, 2)), (255, (0, m_X0_paysAs, 2)), (259, (0, m_X3_become, 2)), (263, (0, m_X3_put, 2)), (266, (0, m_X0_draw, 1)), (274, (1, m_X5_isSort, 1)), (277, (0, m_X3_holds, 2)), (283, (6, m_none, 5)), (289, (0, m_X5_dancer, 2)), (34, (12, m_X1_init, 0)), (41, (12, m_X3_init, 0))]
def lnk_6 : List (Nat × LK) := [(7, (3, m_none, 0)), (72, (1, m_X6_isApart, 1)), (76, (0, m_X6_spell, 9)), (86, (1, m_X6_in, 3)), (90, (0, m_X6_isOne, 1)), (93, (0, m_X6_areTwo, 2)), (99, (0, m_X6_isOf, 2)), (102, (1, m_X6_mostOf, 1)), (106, (0, m_X6_told, 2)), (110, (0, m_X6_lays, 3)), (120, (1, m_X6_placeOf, 1)), (132, (0, m_X6_breathOf, 1)), (135, (0, m_X6_owesOf, 1)), (138, (0, m_X6_owedTo, 1)), (141, (0, m_X6_debtOf, 2)), (158, (0, m_X6_byteAt, 1)), (188, (0, m_X6_isLetter, 2)), (194, (0, m_X6_fail, 0)), (197, (0, m_X6_next, 0)), (200, (0, m_X6_isWord, 8)), (222, (0, m_X6_isSign, 1)), (225, (0, m_X6_opens, 0)), (229, (0, m_X6_atom, 0)), (233, (0, m_X6_either, 0)), (236, (0, m_X6_name, 0)), (239, (0, m_X6_term, 0)), (244, (0, m_X6_not, 0)), (247, (0, m_X6_added, 0)), (252, (0, m_X6_both, 0)), (255, (0, m_X6_part, 1)), (259, (0, m_X6_read, 2)), (262, (1, m_X6_within, 3)), (266, (0, m_X6_says, 3)), (269, (0, m_X6_willOf, 2)), (272, (0, m_X6_hasBreath, 1)), (277, (0, m_X6_paysOf, 2)), (280, (0, m_X6_mayDance, 2)), (283, (0, m_X6_dances, 1)), (287, (0, m_X6_danceBoth, 2)), (293, (0, m_X6_passes, 0)), (297, (0, m_X6_ringOf, 1)), (302, (0, m_X6_laysAside, 0)), (305, (0, m_X6_owedAll, 0)), (308, (0, m_X6_owedSet, 0)), (311, (0, m_X6_laysBack, 0)), (314, (1, m_X6_both_, 1)), (316, (1, m_X6_greater, 1)), (319, (1, m_X6_lesser, 1)), (322, (0, m_X6_isSet, 1)), (325, (0, m_X6_dancesOf, 1)), (328, (0, m_X6_isPaidBy, 1)), (332, (0, m_X6_ringFrom, 4)), (336, (0, m_X6_bestSet, 1)), (339, (0, m_X6_nextRound, 1)), (342, (0, m_X6_soonest, 0)), (345, (0, m_X6_leastOwed, 0)), (348, (0, m_X6_longestRing, 0)), (351, (0, m_X6_ends, 0)), (354, (0, m_X6_keeper, 0)), (357, (1, m_X6_lowest, 3)), (363, (0, m_X6_firstOther, 2)), (366, (1, m_X6_isSheet, 1)), (369, (0, m_X6_likeSet, 2)), (374, (0, m_X6_sheet, 3)), (378, (0, m_X6_endsDrawn, 1)), (396, (0, m_X6_dancer, 2)), (399, (1, m_X6_over, 1))]
def lnk_7 : List (Nat × LK) := [(9, (2, m_X5_init, 0)), (12, (2, m_X6_init, 0)), (13, (0, m_X5_set, 3)), (17, (0, m_X6_set, 3)), (18, (0, m_X5_dancer, 2)), (22, (0, m_X6_dancer, 2)), (23, (0, m_X5_told, 2)), (26, (0, m_X6_told, 2)), (27, (0, m_X5_asks, 3)), (30, (0, m_X6_asks, 3)), (31, (0, m_X5_feed, 1)), (35, (0, m_X6_feed, 1)), (36, (0, m_X5_text, 0)), (40, (0, m_X6_text, 0)), (41, (0, m_X5_force, 1)), (44, (0, m_X6_force, 1)), (45, (0, m_X5_dance, 2)), (48, (0, m_X6_dance, 2)), (49, (0, m_X5_round, 0)), (52, (0, m_X6_round, 0)), (53, (0, m_X5_night, 0)), (56, (0, m_X6_night, 0)), (57, (0, m_X5_strike, 1)), (60, (0, m_X6_strike, 1)), (61, (0, m_X5_run, 4)), (65, (0, m_X6_run, 4)), (66, (0, m_X5_best, 1)), (69, (0, m_X6_best, 1)), (70, (0, m_X5_share, 2)), (74, (0, m_X6_share, 2)), (75, (0, m_X5_tells, 4)), (78, (0, m_X6_tells, 4)), (79, (0, m_X5_film, 4)), (82, (0, m_X6_film, 4)), (83, (0, m_X5_drawn, 1)), (86, (0, m_X6_drawn, 1)), (87, (0, m_X5_chance, 4)), (91, (0, m_X6_chance, 4)), (92, (0, m_X5_image, 0)), (95, (0, m_X6_image, 0)), (96, (0, m_X5_back, 0)), (99, (0, m_X6_back, 0)), (100, (0, m_X5_count, 1)), (103, (0, m_X6_count, 1)), (104, (0, m_X5_sheet, 3)), (107, (0, m_X6_sheet, 3)), (108, (0, m_X5_cell, 3)), (111, (0, m_X6_cell, 3)), (112, (0, m_X5_copy, 5)), (116, (0, m_X6_copy, 5)), (117, (0, m_X5_room, 4)), (120, (0, m_X6_room, 4)), (121, (0, m_X5_taken, 2)), (124, (0, m_X6_taken, 2))]
def lnkT : List (List (Nat × LK)) := [lnk_0, lnk_1, lnk_2, lnk_3, lnk_4, lnk_5, lnk_6, lnk_7]
def lnk (own idx : Nat) : Option LK := match nth lnkT own with
  | none => none
  | some l => lkp l idx
/-- a field: its class, its slot, its type (0 int, 1 long, 2 a reference, 3 boolean), whether it is final -/
def fld_0 : List (Nat × (Nat × Nat × Nat × Bool)) := [(9, (0, 5, 2, true)), (15, (0, 6, 2, true)), (18, (0, 7, 2, true)), (21, (0, 8, 2, true)), (27, (0, 11, 2, true)), (30, (0, 12, 2, true)), (33, (0, 0, 2, true)), (37, (0, 1, 0, false)), (41, (0, 2, 0, false)), (44, (0, 3, 0, false)), (47, (0, 4, 0, false)), (60, (2, 2, 2, true)), (104, (0, 9, 0, false)), (128, (0, 10, 0, false)), (141, (3, 1, 0, false)), (146, (3, 2, 2, true))]
def fld_1 : List (Nat × (Nat × Nat × Nat × Bool)) := [(9, (1, 0, 2, true)), (15, (1, 2, 2, true)), (18, (1, 4, 2, true)), (21, (1, 1, 0, false)), (25, (1, 3, 0, false)), (28, (1, 5, 0, false)), (31, (1, 9, 0, false)), (45, (1, 6, 0, false)), (88, (1, 7, 0, false)), (91, (1, 8, 0, false))]
def fld_2 : List (Nat × (Nat × Nat × Nat × Bool)) := [(11, (2, 0, 2, true)), (17, (2, 2, 2, true)), (21, (2, 3, 2, true)), (27, (2, 1, 0, false)), (31, (4, 1, 2, true)), (34, (4, 0, 2, true))]
def fld_3 : List (Nat × (Nat × Nat × Nat × Bool)) := [(9, (3, 0, 0, false)), (15, (3, 2, 2, true)), (19, (3, 1, 0, false))]
def fld_4 : List (Nat × (Nat × Nat × Nat × Bool)) := [(7, (4, 0, 2, true)), (13, (4, 1, 2, true))]
def fld_5 : List (Nat × (Nat × Nat × Nat × Bool)) := [(10, (5, 0, 2, true)), (21, (5, 1, 2, true)), (25, (5, 2, 2, true)), (28, (5, 3, 2, true)), (35, (5, 4, 2, true)), (42, (5, 5, 2, true)), (46, (5, 7, 2, true)), (57, (0, 2, 0, false)), (61, (0, 3, 0, false)), (64, (0, 6, 2, true)), (67, (0, 7, 2, true)), (70, (0, 8, 2, true)), (77, (0, 1, 0, false)), (87, (0, 5, 2, true)), (118, (1, 1, 0, false)), (121, (2, 1, 0, false)), (128, (1, 8, 0, false)), (135, (0, 4, 0, false)), (206, (0, 9, 0, false)), (228, (3, 0, 0, false)), (231, (3, 1, 0, false)), (270, (5, 6, 3, false)), (280, (3, 2, 2, true))]
def fld_6 : List (Nat × (Nat × Nat × Nat × Bool)) := [(13, (6, 1, 2, true)), (17, (6, 2, 2, true)), (20, (6, 5, 2, true)), (23, (6, 9, 2, true)), (26, (6, 10, 2, true)), (29, (6, 11, 2, true)), (32, (6, 13, 2, true)), (35, (6, 30, 2, true)), (38, (6, 31, 2, true)), (41, (6, 32, 2, true)), (44, (6, 33, 2, true)), (47, (6, 34, 2, true)), (50, (6, 35, 2, true)), (53, (6, 36, 2, true)), (56, (6, 37, 0, false)), (59, (6, 41, 2, true)), (63, (6, 42, 2, true)), (66, (6, 43, 2, true)), (69, (6, 44, 2, true)), (80, (6, 3, 0, false)), (83, (6, 12, 0, false)), (114, (6, 7, 0, false)), (117, (6, 8, 0, false)), (123, (6, 4, 0, false)), (146, (6, 6, 0, false)), (149, (6, 21, 0, false)), (152, (6, 20, 0, false)), (155, (6, 22, 0, false)), (161, (6, 24, 0, false)), (164, (6, 23, 0, false)), (175, (6, 25, 1, false)), (181, (6, 27, 3, false)), (185, (6, 28, 0, false)), (191, (6, 26, 0, false)), (204, (6, 14, 0, false)), (207, (6, 15, 0, false)), (210, (6, 16, 0, false)), (213, (6, 17, 0, false)), (216, (6, 18, 0, false)), (219, (6, 19, 0, false)), (290, (6, 29, 0, false)), (383, (6, 38, 0, false)), (386, (6, 39, 0, false)), (389, (6, 40, 0, false))]
def fld_7 : List (Nat × (Nat × Nat × Nat × Bool)) := []
def fldT : List (List (Nat × (Nat × Nat × Nat × Bool))) := [fld_0, fld_1, fld_2, fld_3, fld_4, fld_5, fld_6, fld_7]
def fld (own idx : Nat) : Option (Nat × Nat × Nat × Bool) := match nth fldT own with
  | none => none
  | some l => lkp l idx
/-- the static arrays, by their parts -/
def sflT : List (List (Nat × Nat)) := [[(24, 61), (107, 62), (131, 63)], [], [], [], [], [(50, 64), (215, 63), (292, 65)], [], []]
def sfl (own idx : Nat) : Option Nat := match nth sflT own with
  | none => none
  | some l => lkp l idx
/-- the classes that are named (8: int[]) -/
def clkT : List (List (Nat × Nat)) := [[], [(54, 4), (57, 8)], [(9, 4)], [], [], [(7, 2), (16, 0), (32, 1), (39, 3)], [], [(7, 5), (10, 6)]]
def clk (own idx : Nat) : Option Nat := match nth clkT own with
  | none => none
  | some l => lkp l idx
def lckT : List (List (Nat × Int64)) := [[], [], [], [], [], [(200, (-4611686018427387904))], [(97, 4), (130, 8), (167, 97), (169, 122), (171, 48), (173, 57), (179, 10), (242, 43), (250, 60), (126, 5), (128, 9), (275, 2), (144, 255), (300, 40), (361, (-4611686018427387904)), (392, 3), (372, 30), (394, (-1)), (381, 61)], []]
def lck (own idx : Nat) : Option Int64 := match nth lckT own with
  | none => none
  | some l => lkp l idx
def ickT : List (List (Nat × Int32)) := [[(120, 1103515245)], [], [], [], [], [], [(296, 54321), (331, 99999), (377, 1103515245)], []]
def ick (own idx : Nat) : Option Int32 := match nth ickT own with
  | none => none
  | some l => lkp l idx
def stk (own idx : Nat) : Option Nat := match nth ([[], [(106, 0), (114, 1), (120, 2), (122, 3), (124, 4), (126, 5), (128, 6), (130, 7), (132, 8), (134, 9), (135, 10), (137, 11), (139, 12)], [], [], [], [], [], []] : List (List (Nat × Nat))) own with
  | none => none
  | some l => lkp l idx
def strT : List (List Int32) := [[40, 41, 59, 43, 45, 42, 60, 61], [112, 97, 121, 115], [119, 105, 108, 108, 115], [98, 114, 101, 97, 116, 104], [111, 114], [97, 110, 100], [110, 111, 116], [100, 101, 98, 116], [111, 119, 101, 100], [110, 117, 109, 98, 101, 114], [114, 111, 117, 110, 100], [100, 111, 110, 101], [110, 105, 103, 104, 116]]
/-- the signs of the text constant g -/
def strG (g : Nat) : List Int32 := match nth strT g with
  | none => []
  | some l => l
end
section
/-! ONE INSTRUCTION OF THE MACHINE AM -/
def nnSet (S : St) (j g k : Nat) : St := (S.1, S.2.1, up3 S.2.2.1 j g k true, S.2.2.2)
def ivSet (S : St) (j g k : Nat) (v : Int32) : St := (up3 S.1 j g k v, S.2)
/-- a new cell: 0 everywhere, nothing set; its length, where that varies -/
def mkC (S : St) (j g n : Nat) : St := (zr3 S.1 j g 0, S.2.1, zr3 S.2.2.1 j g false, (if j = 31 then upN S.2.2.2.1 g n else S.2.2.2.1), S.2.2.2.2 + 1)
/-- a call of a method of the program: the arguments, what it may make, how it goes on -/
def goC (Y : MT) (call : CT) (P : PT) (n : Nat) (L : List (Option AV)) (S : St) (fc fs : Nat) (Z : MT) (q : Option (List AV × List AV)) : Prop := match q with
  | none => False
  | some (as, rest) => cond (Nat.ble (catS rest) 8)
      (cond (Nat.beq Z.1.2.2.1 0 && Nat.beq Z.1.2.2.2.1 0)
        (call Z as S fun v S' => P n L (v.toList ++ rest) S' fc fs)
        (fc + Z.1.2.2.1 ≤ Y.1.2.2.1 ∧ fs + Z.1.2.2.2.1 ≤ Y.1.2.2.2.1 ∧ call Z as S fun v S' => P n L (v.toList ++ rest) S' (fc + Z.1.2.2.1) (fs + Z.1.2.2.2.1)))
      False
/-- the receiver is of the method's class -/
def rcv (Z : MT) (q : Option (List AV × List AV)) : Bool := match q with
  | some (Sum.inr (Sum.inr (some r)) :: _, _) => Nat.beq (clsP r.1) Z.1.2.1
  | _ => false
def chI (S : St) (j g : Nat) (i : Int32) (k : Nat) : Prop := i = nI k ∧ k < aln S.2.2.2.1 j g
def G (Y : MT) (call : CT) (K : KT) (P : PT) (i : Instr) (n t : Nat) (c : Int32) (sw : List (Int32 × Nat)) (L : List (Option AV)) (st : List AV) (S : St) (fc fs : Nat) : Prop :=
  match i with
  | .iconst _ => P n L (aI c :: st) S fc fs
  | .bipush _ => P n L (aI c :: st) S fc fs
  | .sipush _ => P n L (aI c :: st) S fc fs
  | .lconst z => P n L (aL (Int64.ofNat z.val) :: st) S fc fs
  | .aconst_null => P n L (aN :: st) S fc fs
  | .ldc ix => (match stk Y.1.2.1 ix with
    | some g => P n L (aR 70 g :: st) S fc fs
    | none => (match ick Y.1.2.1 ix with
      | some v => P n L (aI v :: st) S fc fs
      | none => False))
  | .ldc_w ix => (match ick Y.1.2.1 ix with
      | some v => P n L (aI v :: st) S fc fs
      | none => False)
  | .ldc2_w ix => (match lck Y.1.2.1 ix with
      | some v => P n L (aL v :: st) S fc fs
      | none => False)
  | .iload k => getI L k fun x => P n L (aI x :: st) S fc fs
  | .iload_n k => getI L k.val fun x => P n L (aI x :: st) S fc fs
  | .lload k => getJ L k fun x => P n L (aL x :: st) S fc fs
  | .lload_n k => getJ L k.val fun x => P n L (aL x :: st) S fc fs
  | .aload k => getA L k fun x => P n L (Sum.inr (Sum.inr x) :: st) S fc fs
  | .aload_n k => getA L k.val fun x => P n L (Sum.inr (Sum.inr x) :: st) S fc fs
  | .istore k => popI st fun x r => P n (putL L k (aI x)) r S fc fs
  | .istore_n k => popI st fun x r => P n (putL L k.val (aI x)) r S fc fs
  | .lstore k => popJ st fun x r => P n (putL L k (aL x)) r S fc fs
  | .lstore_n k => popJ st fun x r => P n (putL L k.val (aL x)) r S fc fs
  | .astore k => popR st fun j g r => P n (putL L k (aR j g)) r S fc fs
  | .astore_n k => (match st with
    | Sum.inr (Sum.inr q) :: r => P n (putL L k.val (Sum.inr (Sum.inr q))) r S fc fs
    | _ => False)
  | .iinc k _ => getI L k fun x => P n (putL L k (aI (x + c))) st S fc fs
  | .iadd => popI st fun y r => popI r fun x r => P n L (aI (x + y) :: r) S fc fs
  | .isub => popI st fun y r => popI r fun x r => P n L (aI (x - y) :: r) S fc fs
  | .imul => popI st fun y r => popI r fun x r => P n L (aI (x * y) :: r) S fc fs
  | .iand => popI st fun y r => popI r fun x r => P n L (aI (x &&& y) :: r) S fc fs
  | .ior => popI st fun y r => popI r fun x r => P n L (aI (x ||| y) :: r) S fc fs
  | .ixor => popI st fun y r => popI r fun x r => P n L (aI (x ^^^ y) :: r) S fc fs
  | .idiv => popI st fun y r => popI r fun x r => ¬ y = 0 ∧ P n L (aI (x / y) :: r) S fc fs
  | .irem => popI st fun y r => popI r fun x r => ¬ y = 0 ∧ P n L (aI (x - x / y * y) :: r) S fc fs
  | .ishl => popI st fun y r => popI r fun x r => P n L (aI (x <<< (y &&& 31)) :: r) S fc fs
  | .ishr => popI st fun y r => popI r fun x r => P n L (aI (x >>> (y &&& 31)) :: r) S fc fs
  | .iushr => popI st fun y r => popI r fun x r => P n L (aI (x.toUInt32 >>> (y.toUInt32 &&& Int32.toUInt32 31)).toInt32 :: r) S fc fs
  | .ineg => popI st fun x r => P n L (aI (-x) :: r) S fc fs
  | .i2l => popI st fun x r => P n L (aL x.toInt64 :: r) S fc fs
  | .l2i => popJ st fun x r => P n L (aI x.toInt32 :: r) S fc fs
  | .i2b => popI st fun x r => P n L (aI x.toInt8.toInt32 :: r) S fc fs
  | .i2s => popI st fun x r => P n L (aI x.toInt16.toInt32 :: r) S fc fs
  | .i2c => popI st fun x r => P n L (aI (x.toUInt32 % 65536).toInt32 :: r) S fc fs
  | .ladd => popJ st fun y r => popJ r fun x r => P n L (aL (x + y) :: r) S fc fs
  | .lsub => popJ st fun y r => popJ r fun x r => P n L (aL (x - y) :: r) S fc fs
  | .lmul => popJ st fun y r => popJ r fun x r => P n L (aL (x * y) :: r) S fc fs
  | .ldiv => popJ st fun y r => popJ r fun x r => ¬ y = 0 ∧ P n L (aL (x / y) :: r) S fc fs
  | .lrem => popJ st fun y r => popJ r fun x r => ¬ y = 0 ∧ P n L (aL (x - x / y * y) :: r) S fc fs
  | .lcmp => popJ st fun y r => popJ r fun x r => P n L (aI (lg_cmp x y) :: r) S fc fs
  | .dup => popS st fun v r => P n L (v :: v :: r) S fc fs
  | .dup2 => popS st fun v r => popS r fun u r => P n L (v :: u :: v :: u :: r) S fc fs
  | .pop => popS st fun _ r => P n L r S fc fs
  | .ifCond .eq _ => popI st fun x r => (x = 0 → P t L r S fc fs) ∧ (¬ x = 0 → P n L r S fc fs)
  | .ifCond .ne _ => popI st fun x r => (¬ x = 0 → P t L r S fc fs) ∧ (x = 0 → P n L r S fc fs)
  | .ifCond .lt _ => popI st fun x r => (x < 0 → P t L r S fc fs) ∧ (¬ x < 0 → P n L r S fc fs)
  | .ifCond .ge _ => popI st fun x r => (0 ≤ x → P t L r S fc fs) ∧ (¬ 0 ≤ x → P n L r S fc fs)
  | .ifCond .gt _ => popI st fun x r => (0 < x → P t L r S fc fs) ∧ (¬ 0 < x → P n L r S fc fs)
  | .ifCond .le _ => popI st fun x r => (x ≤ 0 → P t L r S fc fs) ∧ (¬ x ≤ 0 → P n L r S fc fs)
  | .if_icmp .eq _ => popI st fun y r => popI r fun x r => (x = y → P t L r S fc fs) ∧ (¬ x = y → P n L r S fc fs)
  | .if_icmp .ne _ => popI st fun y r => popI r fun x r => (¬ x = y → P t L r S fc fs) ∧ (x = y → P n L r S fc fs)
  | .if_icmp .lt _ => popI st fun y r => popI r fun x r => (x < y → P t L r S fc fs) ∧ (¬ x < y → P n L r S fc fs)
  | .if_icmp .ge _ => popI st fun y r => popI r fun x r => (y ≤ x → P t L r S fc fs) ∧ (¬ y ≤ x → P n L r S fc fs)
  | .if_icmp .gt _ => popI st fun y r => popI r fun x r => (y < x → P t L r S fc fs) ∧ (¬ y < x → P n L r S fc fs)
  | .if_icmp .le _ => popI st fun y r => popI r fun x r => (x ≤ y → P t L r S fc fs) ∧ (¬ x ≤ y → P n L r S fc fs)
  | .goto _ => P t L st S fc fs
  | .ifnonnull _ => (match st with
    | Sum.inr (Sum.inr none) :: r => P n L r S fc fs
    | Sum.inr (Sum.inr (some _)) :: r => P t L r S fc fs
    | _ => False)
  | .tableswitch _ _ _ _ => popI st fun x r => swP x (fun d => P d L r S fc fs) sw t
  | .lookupswitch _ _ => popI st fun x r => swP x (fun d => P d L r S fc fs) sw t
  | .getfield ix => (match fld Y.1.2.1 ix with
    | none => False
    | some (ci, k, ty, _) => popR st fun j g r => cond (Nat.beq (clsP j) ci) (match ty with
      | 1 => P n L (aL S.2.1 :: r) S fc fs
      | 2 => S.2.2.1 j g k = true ∧ P n L (Sum.inr (Sum.inr (some (frf j g k))) :: r) S fc fs
      | _ => P n L (aI (S.1 j g k) :: r) S fc fs) False)
  | .putfield ix => (match fld Y.1.2.1 ix with
    | none => False
    | some (ci, k, ty, _) => (match ty with
      | 1 => popJ st fun x r => popR r fun j _ r => cond (Nat.beq (clsP j) ci) (P n L r (S.1, x, S.2.2) fc fs) False
      | 2 => popR st fun a b r => popR r fun j g r => cond (Nat.beq (clsP j) ci) (frf j g k = (a, b) ∧ P n L r (nnSet S j g k) fc fs) False
      | 3 => popI st fun x r => popR r fun j g r => cond (Nat.beq (clsP j) ci) ((x = 0 ∨ x = 1) ∧ P n L r (ivSet S j g k x) fc fs) False
      | _ => popI st fun x r => popR r fun j g r => cond (Nat.beq (clsP j) ci) (P n L r (ivSet S j g k x) fc fs) False))
  | .getstatic ix => (match sfl Y.1.2.1 ix with
    | none => False
    | some j => P n L (aR j 0 :: st) S fc fs)
  | .iaload => popI st fun i r => popR r fun j g r => cond (Nat.beq (iak j) 1 || Nat.beq (iak j) 3) (∃ k, chI S j g i k ∧ P n L (aI (S.1 j g k) :: r) S fc fs) False
  | .baload => popI st fun i r => popR r fun j g r => cond (Nat.beq (iak j) 2) (∃ k, chI S j g i k ∧ P n L (aI (S.1 j g k) :: r) S fc fs) False
  | .aaload => popI st fun i r => popR r fun j g r => cond (Nat.ble 1 (rfk j)) (∃ k, chI S j g i k ∧ S.2.2.1 j g k = true ∧ P n L (Sum.inr (Sum.inr (some (erf j k))) :: r) S fc fs) False
  | .iastore => popI st fun x r => popI r fun i r => popR r fun j g r => cond (Nat.beq (iak j) 1) (∃ k, chI S j g i k ∧ P n L r (ivSet S j g k x) fc fs) False
  | .bastore => popI st fun x r => popI r fun i r => popR r fun j g r => cond (Nat.beq (iak j) 2) (∃ k, chI S j g i k ∧ (x = 0 ∨ x = 1) ∧ P n L r (ivSet S j g k x) fc fs) False
  | .aastore => popR st fun a b r => popI r fun i r => popR r fun j g r => cond (Nat.ble 1 (rfk j)) (∃ k, chI S j g i k ∧ erf j k = (a, b) ∧ P n L r (nnSet S j g k) fc fs) False
  | .arraylength => popR st fun j g r => cond (Nat.ble 1 (iak j) || Nat.ble 1 (rfk j)) (P n L (aI (nI (aln S.2.2.2.1 j g)) :: r) S fc fs) False
  | .newarray .int => popI st fun x r => ∃ (j g k : Nat), x = nI k ∧ k ≤ 1000 ∧ idOf S.2.2.2.2 = (j, g) ∧ iak j = 1 ∧ (j = 31 ∨ aln S.2.2.2.1 j g = k) ∧ fc + 1 ≤ Y.1.2.2.1 ∧ fs + k ≤ Y.1.2.2.2.1 ∧ P n L (aR j g :: r) (mkC S j g k) (fc + 1) (fs + k)
  | .newarray .boolean => popI st fun x r => ∃ (j g k : Nat), x = nI k ∧ k ≤ 1000 ∧ idOf S.2.2.2.2 = (j, g) ∧ iak j = 2 ∧ aln S.2.2.2.1 j g = k ∧ fc + 1 ≤ Y.1.2.2.1 ∧ fs + k ≤ Y.1.2.2.2.1 ∧ P n L (aR j g :: r) (mkC S j g k) (fc + 1) (fs + k)
  | .anewarray ix => (match clk Y.1.2.1 ix with
    | none => False
    | some ci => popI st fun x r => ∃ (j g k : Nat), x = nI k ∧ k ≤ 1000 ∧ idOf S.2.2.2.2 = (j, g) ∧ ((rfk j = 1 ∧ ci = 0) ∨ (rfk j = 2 ∧ ci = 3) ∨ (rfk j = 3 ∧ ci = 4)) ∧ aln S.2.2.2.1 j g = k ∧ fc + 1 ≤ Y.1.2.2.1 ∧ fs + k ≤ Y.1.2.2.2.1 ∧ P n L (aR j g :: r) (mkC S j g k) (fc + 1) (fs + k))
  | .new ix => (match clk Y.1.2.1 ix with
    | none => False
    | some ci => (match nth vwCl ci with
      | none => False
      | some q => ∃ (j g : Nat), idOf S.2.2.2.2 = (j, g) ∧ clsP j = ci ∧ fc + 1 ≤ Y.1.2.2.1 ∧ fs + q.2.2 ≤ Y.1.2.2.2.1 ∧ P n L (aR j g :: st) ((mkC S j g 0).1, (if ci = 6 then 0 else S.2.1), (mkC S j g 0).2.2) (fc + 1) (fs + q.2.2)))
  | .checkcast ix => cond (match clk Y.1.2.1 ix with
    | some 8 => true
    | _ => false) (popR st fun j g r => cond (Nat.beq (iak j) 1) (P n L (aR j g :: r) S fc fs) False) False
  | .invokevirtual ix => (match lnk Y.1.2.1 ix with
    | none => False
    | some (kd, Z, na) => (match kd with
      | 0 => cond (rcv Z (popN (na + 1) st [])) (goC Y call P n L S fc fs Z (popN (na + 1) st [])) False
      | 7 => popR st fun j g r => cond (Nat.beq (iak j) 1 && Nat.ble (catS r) 8) (∃ (a b : Nat), idOf S.2.2.2.2 = (a, b) ∧ iak a = 1 ∧ ¬ a = 31 ∧ aln S.2.2.2.1 a b = aln S.2.2.2.1 j g ∧ fc + 1 ≤ Y.1.2.2.1 ∧ fs + aln S.2.2.2.1 j g ≤ Y.1.2.2.2.1 ∧ P n L (aR a b :: r) ((fun x y z => if x = a ∧ y = b then S.1 j g z else S.1 x y z), S.2.1, zr3 S.2.2.1 a b false, S.2.2.2.1, S.2.2.2.2 + 1) (fc + 1) (fs + aln S.2.2.2.1 j g)) False
      | 8 => popR st fun j g r => cond (Nat.beq j 70 && Nat.ble (catS r) 8) (P n L (aI (nI (strG g).length) :: r) S fc fs) False
      | 9 => popI st fun i r => popR r fun j g r => cond (Nat.beq j 70 && Nat.ble (catS r) 8) (∃ k, i = nI k ∧ k < (strG g).length ∧ P n L (aI ((strG g).getD k 0) :: r) S fc fs) False
      | 10 => popI st fun i r => popR r fun j g r => cond (Nat.beq j 70 && Nat.ble (catS r) 8) (∀ v : Int32, ((v = -1 ∧ i ∉ strG g) ∨ ∃ k, v = nI k ∧ (strG g)[k]? = some i) → P n L (aI v :: r) S fc fs) False
      | _ => False))
  | .invokestatic ix => (match lnk Y.1.2.1 ix with
    | none => False
    | some (kd, Z, na) => (match kd with
      | 1 => goC Y call P n L S fc fs Z (popN na st [])
      | 11 => goC Y call P n L S fc fs Z (popN na st [])
      | 4 => popI st fun y r => popI r fun x r => cond (Nat.ble (catS r) 8) (P n L (aI (if x ≤ y then x else y) :: r) S fc fs) False
      | 5 => popI st fun y r => popI r fun x r => cond (Nat.ble (catS r) 8) (P n L (aI (if x < y then y else x) :: r) S fc fs) False
      | 6 => popI st fun z r => popI r fun dp r => popR r fun a b r => popI r fun sp r => popR r fun j g r => cond (Nat.beq (iak a) 1 && Nat.beq (iak j) 1 && Nat.ble (catS r) 8) (∃ (ks kd kn : Nat), sp = nI ks ∧ dp = nI kd ∧ z = nI kn ∧ ks + kn ≤ aln S.2.2.2.1 j g ∧ kd + kn ≤ aln S.2.2.2.1 a b ∧ kn ≤ 1000 ∧ P n L r ((fun x y k => if x = a ∧ y = b ∧ kd ≤ k ∧ k < kd + kn then S.1 j g (ks + (k - kd)) else S.1 x y k), S.2) fc fs) False
      | _ => False))
  | .invokespecial ix => (match lnk Y.1.2.1 ix with
    | none => False
    | some (kd, Z, na) => (match kd with
      | 2 => cond (rcv Z (popN (na + 1) st [])) (goC Y call P n L S fc fs Z (popN (na + 1) st [])) False
      | 12 => cond (rcv Z (popN (na + 1) st [])) (goC Y call P n L S fc fs Z (popN (na + 1) st [])) False
      | 3 => popR st fun _ _ r => cond (Nat.ble (catS r) 8) (P n L r S fc fs) False
      | _ => False))
  | .ireturn => (match st with
    | [Sum.inl x] => (match Y.1.2.2.2.2 with
      | 1 => K (some (aI x)) S
      | 4 => (x = 0 ∨ x = 1) ∧ K (some (aI x)) S
      | _ => False)
    | _ => False)
  | .lreturn => (match st with
    | [Sum.inr (Sum.inl x)] => (match Y.1.2.2.2.2 with
      | 2 => K (some (aL x)) S
      | _ => False)
    | _ => False)
  | .areturn => (match st with
    | [Sum.inr (Sum.inr q)] => (match Y.1.2.2.2.2 with
      | 3 => K (some (Sum.inr (Sum.inr q))) S
      | _ => False)
    | _ => False)
  | .return_ => (match st with
    | [] => (match Y.1.2.2.2.2 with
      | 0 => K none S
      | _ => False)
    | _ => False)
  | _ => False
def F (Y : MT) (call : CT) (K : KT) (P : PT) (pc : Nat) (L : List (Option AV)) (st : List AV) (S : St) (fc fs : Nat) : Prop := match codeAt Y pc with
  | none => False
  | some (i, n, t, c, sw) => G Y call K P i n t c sw L st S fc fs
/-- the least P that the instructions allow -/
def WP (Y : MT) (call : CT) (K : KT) (pc : Nat) (L : List (Option AV)) (st : List AV) (S : St) (fc fs : Nat) : Prop :=
  ∀ P : PT, (∀ pc L st S fc fs, F Y call K P pc L st S fc fs → P pc L st S fc fs) → P pc L st S fc fs
def Call : Nat → CT
  | 0, _, _, _, _ => False
  | d + 1, Y, as, S, K => WP Y (Call d) K 0 (mkL Y.2.2.2.1 as) [] S 0 0
theorem Call.mk {d : Nat} {Y : MT} {as : List AV} {S : St} {K : KT} (h : WP Y (Call d) K 0 (mkL Y.2.2.2.1 as) [] S 0 0) : Call (d + 1) Y as S K := h
theorem Call.of {d k : Nat} {Y : MT} {as : List AV} {S : St} {K : KT} (hd : k + 1 ≤ d) (h : ∀ e, k ≤ e → ∀ P : PT, (∀ pc L st S fc fs, F Y (Call e) K P pc L st S fc fs → P pc L st S fc fs) → P 0 (mkL Y.2.2.2.1 as) [] S 0 0) : Call d Y as S K := by
  cases d with
  | zero => omega
  | succ e => exact h e (by omega)
end
section
/-! WHAT A STATE OF THE MACHINE AM IS IN THE HEAP -/
theorem nth_get {α : Type} : ∀ (l : List α) (n : Nat), nth l n = l[n]?
  | [], n => by simp [nth]
  | a :: l, 0 => by simp [nth]
  | a :: l, n + 1 => by simp [nth, nth_get l n]
/-- how many slots an object has -/
def nFl (ci : Nat) : Nat := match nth vwCl ci with
  | none => 0
  | some q => q.2.2
/-- the type of a slot: 0 int, 1 long, 2 a reference, 3 boolean -/
def tcd (ty : FieldType) : Nat := match ty with
  | .int => 0
  | .long => 1
  | .boolean => 3
  | _ => 2
def ftT : List (Nat → FieldType) := [tyX0, tyX1, tyX2, tyX3, tyX4, tyX5, tyX6]
def fty (ci k : Nat) : Nat := match nth ftT ci with
  | none => 0
  | some f => tcd (f k)
/-- what stands around: the classes' numbers, the arrays' classes (0 int[], 1 Floor[], 2 Sheet[], 3 Text[], 4 boolean[]), where the cells begin, where the static cells lie, what the static arrays hold, how long the script is -/
abbrev Env0 : Type := va_G × (Nat → ClassId) × Nat × (Nat → Nat → Nat) × (Nat → Nat → Int32) × Nat
def adr (E : Env0) (j g : Nat) : Nat := if j < 60 then E.2.2.1 + numP j g else E.2.2.2.1 j g
def cv (E : Env0) (v : AV) : Value := match v with
  | Sum.inl x => .int x
  | Sum.inr (Sum.inl x) => .long x
  | Sum.inr (Sum.inr none) => .null
  | Sum.inr (Sum.inr (some q)) => .ref (adr E q.1 q.2)
def fvl (E : Env0) (S : St) (j g k : Nat) : Value := match fty (clsP j) k with
  | 1 => .long S.2.1
  | 2 => if S.2.2.1 j g k = true then .ref (adr E (frf j g k).1 (frf j g k).2) else .null
  | _ => .int (S.1 j g k)
def el (E : Env0) (S : St) (q : Nat × Nat) : va_E :=
  if clsP q.1 < 7 then .inr (clsP q.1, (List.range (nFl (clsP q.1))).map (fvl E S q.1 q.2))
  else if iak q.1 = 2 then .inl (E.2.1 4, aln S.2.2.2.1 q.1 q.2, .inl (S.1 q.1 q.2))
  else if rfk q.1 = 0 then .inl (E.2.1 0, aln S.2.2.2.1 q.1 q.2, .inl (S.1 q.1 q.2))
  else .inl (E.2.1 (rfk q.1), aln S.2.2.2.1 q.1 q.2, .inr (.inr (.inr (.inr fun k => if S.2.2.1 q.1 q.2 k = true then some (adr E (erf q.1 k).1 (erf q.1 k).2) else none))))
def wld (E : Env0) (S : St) : va_W := (List.range S.2.2.2.2).map fun k => (E.2.2.1 + k, el E S (idOf k))
/-- a cell that is there; a static one -/
def lvP (S : St) (j g : Nat) : Prop := (j < 60 ∧ numP j g < S.2.2.2.2 ∧ idOf (numP j g) = (j, g)) ∨ (60 ≤ j ∧ j < 66 ∧ g = 0) ∨ (j = 70 ∧ g < 13)
def lvA (S : St) (v : AV) : Prop := match v with
  | Sum.inr (Sum.inr (some q)) => lvP S q.1 q.2
  | _ => True
def tysE (E : Env0) : List (ClassId × FieldType) := [(E.2.1 0, .int), (E.2.1 1, .object RX0), (E.2.1 2, .object RX3), (E.2.1 3, .object RX4), (E.2.1 4, .boolean)]
/-- the heap holds the state -/
def Rep (E : Env0) (S : St) (H : Heap) : Prop := H.size = E.2.2.1 + S.2.2.2.2 ∧ va_P E.1 vwCl (wld E S) H ∧ (∀ j, 60 ≤ j → ∀ k, S.1 j 0 k = E.2.2.2.2.1 j k) ∧ S.2.2.2.1 1000 = E.2.2.2.2.2 ∧ (∀ t, S.2.2.2.1 t ≤ 4000)
  ∧ (∀ j g k, lvP S j g → j < 60 → clsP j < 7 → fty (clsP j) k = 2 → k < nFl (clsP j) → S.2.2.1 j g k = true → lvP S (frf j g k).1 (frf j g k).2)
  ∧ (∀ j g k, lvP S j g → j < 60 → 1 ≤ rfk j → k < aln S.2.2.2.1 j g → S.2.2.1 j g k = true → lvP S (erf j k).1 (erf j k).2)
def own8 (n : Nat) : String := match n with
  | 0 => RX0 | 1 => RX1 | 2 => RX2 | 3 => RX3 | 4 => RX4 | 5 => RX5 | 6 => RX6 | _ => RL
/-- the static arrays' classes, fields -/
def stC (j : Nat) : String := match j with
  | 60 => "" | _ => RX5
def stN (j : Nat) : String := match j with
  | 61 => "LESSER" | 62 => "GREATER" | 63 => "SETS" | 64 => "GREATEST" | _ => "UNDER"
def baseA (E : Env0) : Nat → Prop := fun q => E.2.2.1 ≤ q
/-- what a state's tables and old cells say: it stays -/
def Stt (E : Env0) (X : State → Prop) (U : State) : Prop := va_K E.1 vwCl (tysE E) U
  ∧ (∀ j, 61 ≤ j → j ≤ 65 → va_Z RX5 (stN j) "[I" (.ref (E.2.2.2.1 j 0)) (baseA E) U U.heap)
  ∧ (∀ j, 60 ≤ j → j ≤ 65 → va_T .int (E.2.2.2.1 j 0) (aln (fun _ => E.2.2.2.2.2) j 0) (fun k => .int (E.2.2.2.2.1 j k)) (baseA E) U U.heap)
  ∧ va_Nw (.fieldLinkNest RX0 24 RX5 "LESSER" "[I" RX5) U ∧ va_Nw (.fieldLinkNest RX0 107 RX5 "GREATER" "[I" RX5) U ∧ va_Nw (.fieldLinkNest RX0 131 RX5 "SETS" "[I" RX5) U
  ∧ va_Nw (.methodLinkNest RX5 34 yX1_init RX5) U ∧ va_Nw (.methodLinkNest RX5 41 yX3_init RX5) U ∧ va_Nw (.methodLinkNest RX0 72 yX5_within RX5) U
  ∧ va_Nw (.castable "[I" "java/lang/Cloneable") U ∧ va_AO RX0 U ∧ va_AO RX3 U ∧ va_AO RX4 U ∧ E.2.2.1 ≤ U.heap.size ∧ E.2.2.2.2.2 ≤ 4000 ∧ X U
theorem numId (n : Nat) : numP (idOf n).1 (idOf n).2 = n := by
  by_cases h : n < 77
  · have hall : ∀ n, n < 77 → numP (idOf n).1 (idOf n).2 = n := by decide +kernel
    exact hall n h
  · have hn : nth idsT n = none := by
      rw [nth_get]
      exact List.getElem?_eq_none (by have : idsT.length = 77 := by decide +kernel
                                      omega)
    have hi : idOf n = (if (n - 77) % 3 = 0 then 31 else if (n - 77) % 3 = 1 then 30 else 32, (n - 77) / 3 + 1) := by simp [idOf, hn]
    rw [hi]
    dsimp only
    split
    · simp only [numP]
      rw [if_neg (by omega)]
      omega
    · split
      · simp only [numP]
        rw [if_neg (by omega)]
        omega
      · simp only [numP]
        rw [if_neg (by omega)]
        omega
theorem idInj {a b : Nat} (h : idOf a = idOf b) : a = b := by
  have h1 := numId a
  rw [h, numId b] at h1
  exact h1.symm
theorem idLt (n : Nat) : (idOf n).1 < 60 := by
  by_cases h : n < 77
  · have hall : ∀ n, n < 77 → (idOf n).1 < 60 := by decide +kernel
    exact hall n h
  · have hn : nth idsT n = none := by
      rw [nth_get]
      exact List.getElem?_eq_none (by have : idsT.length = 77 := by decide +kernel
                                      omega)
    have hi : idOf n = (if (n - 77) % 3 = 0 then 31 else if (n - 77) % 3 = 1 then 30 else 32, (n - 77) / 3 + 1) := by simp [idOf, hn]
    rw [hi]
    dsimp only
    split
    · decide
    · split <;> decide
theorem id40 (n g : Nat) (h : idOf n = (40, g)) : g = 0 := by
  by_cases hn : n < 77
  · have hall : ∀ n, n < 77 → (idOf n).1 = 40 → (idOf n).2 = 0 := by decide +kernel
    have := hall n hn (by rw [h])
    rw [h] at this
    exact this
  · have hn : nth idsT n = none := by
      rw [nth_get]
      exact List.getElem?_eq_none (by have : idsT.length = 77 := by decide +kernel
                                      omega)
    have hi : idOf n = (if (n - 77) % 3 = 0 then 31 else if (n - 77) % 3 = 1 then 30 else 32, (n - 77) / 3 + 1) := by simp [idOf, hn]
    rw [hi] at h
    have h1 := congrArg Prod.fst h
    dsimp only at h1
    split at h1
    · cases h1
    · split at h1 <;> cases h1
theorem wld_get {E : Env0} {S : St} {j g : Nat} (h : numP j g < S.2.2.2.2) (hi : idOf (numP j g) = (j, g)) : (wld E S)[numP j g]? = some (E.2.2.1 + numP j g, el E S (j, g)) := by
  simp [wld, List.getElem?_map, List.getElem?_range h, hi]
theorem wld_len {E : Env0} {S : St} : (wld E S).length = S.2.2.2.2 := by simp [wld]
theorem wld_D (E : Env0) (S : St) : va_D (baseA E) (wld E S) := by
  have key : ∀ (k : Nat) (q : Nat × va_E), (wld E S)[k]? = some q → q.1 = E.2.2.1 + k := by
    intro k q h
    have hk : k < (wld E S).length := (List.getElem?_eq_some_iff.mp h).1
    rw [wld_len] at hk
    simp only [wld, List.getElem?_map, List.getElem?_range hk, Option.map_some, Option.some.injEq] at h
    rw [← h]
  refine ⟨fun i j p q hi hj hpq => ?_, fun k q hk => ?_⟩
  · have h1 := key i p hi
    have h2 := key j q hj
    omega
  · rw [key k q hk]
    exact Nat.le_add_right _ _
/-- one cell changes -/
theorem wld_set {E : Env0} {S S' : St} {j g : Nat} (h : numP j g < S.2.2.2.2) (hc : S'.2.2.2.2 = S.2.2.2.2) (ho : ∀ k, k ≠ numP j g → k < S.2.2.2.2 → el E S' (idOf k) = el E S (idOf k)) (hi : idOf (numP j g) = (j, g)) : (wld E S).set (numP j g) (E.2.2.1 + numP j g, el E S' (j, g)) = wld E S' := by
  apply List.ext_getElem?
  intro k
  by_cases hk : k = numP j g
  · subst hk
    rw [List.getElem?_set_self (by rw [wld_len]; exact h), wld_get (by rw [hc]; exact h) hi]
  · rw [List.getElem?_set_ne (fun z => hk z.symm)]
    by_cases hl : k < S.2.2.2.2
    · simp [wld, List.getElem?_map, hc, List.getElem?_range hl, ho k hk hl]
    · rw [List.getElem?_eq_none (by rw [wld_len]; omega), List.getElem?_eq_none (by rw [wld_len]; omega)]
/-- one cell comes -/
theorem wld_push {E : Env0} {S S' : St} {q : Nat × Nat} (hq : idOf S.2.2.2.2 = q) (hc : S'.2.2.2.2 = S.2.2.2.2 + 1) (ho : ∀ k, k < S.2.2.2.2 → el E S' (idOf k) = el E S (idOf k)) : wld E S ++ [(E.2.2.1 + S.2.2.2.2, el E S' q)] = wld E S' := by
  have h1 : wld E S' = ((List.range S.2.2.2.2).map fun k => (E.2.2.1 + k, el E S' (idOf k))) ++ [(E.2.2.1 + S.2.2.2.2, el E S' q)] := by
    simp only [wld, hc, List.range_succ, List.map_append, List.map_cons, List.map_nil, hq]
  rw [h1]
  refine congrArg (· ++ _) (List.map_congr_left fun k hk => ?_)
  rw [ho k (List.mem_range.mp hk)]
theorem lvP.up {S S' : St} {j g : Nat} (h : lvP S j g) (hc : S.2.2.2.2 ≤ S'.2.2.2.2) : lvP S' j g := by
  rcases h with ⟨h1, h2, h3⟩ | h
  · exact Or.inl ⟨h1, Nat.lt_of_lt_of_le h2 hc, h3⟩
  · exact Or.inr h
theorem lvA.up {S S' : St} {v : AV} (h : lvA S v) (hc : S.2.2.2.2 ≤ S'.2.2.2.2) : lvA S' v := by
  unfold lvA at h ⊢
  split
  · exact lvP.up h hc
  · trivial
theorem lvP.in {S : St} {j g : Nat} (h : lvP S j g) (hj : j < 60) : numP j g < S.2.2.2.2 ∧ idOf (numP j g) = (j, g) := by
  rcases h with ⟨-, h2, h3⟩ | ⟨h, -⟩ | ⟨h, -⟩
  · exact ⟨h2, h3⟩
  · omega
  · omega
/-- the ints of one cell: the others' cells stay -/
theorem el_iv {E : Env0} {S : St} {j g k : Nat} {v : Int32} {q : Nat × Nat} (h : q ≠ (j, g)) : el E (ivSet S j g k v) q = el E S q := by
  have hne : ¬ (q.1 = j ∧ q.2 = g) := fun z => h (Prod.ext z.1 z.2)
  have h1 : ∀ z, (ivSet S j g k v).1 q.1 q.2 z = S.1 q.1 q.2 z := fun z => by
    simp only [ivSet, up3]
    rw [if_neg (fun y => hne ⟨y.1, y.2.1⟩)]
  have h2 : (ivSet S j g k v).1 q.1 q.2 = S.1 q.1 q.2 := funext h1
  have h3 : fvl E (ivSet S j g k v) q.1 q.2 = fvl E S q.1 q.2 := funext fun z => by
    unfold fvl
    split
    · rfl
    · rfl
    · rw [h1]
  unfold el
  rw [h2, h3]
  rfl
theorem el_nn {E : Env0} {S : St} {j g k : Nat} {q : Nat × Nat} (h : q ≠ (j, g)) : el E (nnSet S j g k) q = el E S q := by
  have hne : ¬ (q.1 = j ∧ q.2 = g) := fun z => h (Prod.ext z.1 z.2)
  have h1 : ∀ z, (nnSet S j g k).2.2.1 q.1 q.2 z = S.2.2.1 q.1 q.2 z := fun z => by
    simp only [nnSet, up3]
    rw [if_neg (fun y => hne ⟨y.1, y.2.1⟩)]
  have h3 : fvl E (nnSet S j g k) q.1 q.2 = fvl E S q.1 q.2 := funext fun z => by
    unfold fvl
    split
    · rfl
    · rw [h1]
    · rfl
  unfold el
  rw [h3]
  simp only [h1]
  rfl
end
section
/-! THE TABLES' WORDS behind every link -/
theorem gi_r {big : List Cond} (ws : List Cond) (ps : List Nat) (hp : ws = ps.filterMap (fun i => big[i]?)) (h : ws.all goodWord = true) : GoodIn big ws := by
  intro w hw
  have h1 := List.all_eq_true.mp h w hw
  rw [hp] at hw
  obtain ⟨i, -, hi⟩ := List.mem_filterMap.mp hw
  have hm : w ∈ big := by first | exact List.mem_of_getElem? hi | exact List.getElem?_mem hi
  exact ⟨hm, good_of_word h1⟩
def wC (Z : MT) : Cond := .code Z.2.1 Z.2.2.1 Z.2.2.2.1 Z.2.2.2.2
def lwords (own idx : Nat) (e : LK) : List Cond := match e.1 with
  | 0 => [.methodLink (own8 own) idx e.2.1.2.1, .instanceMethod e.2.1.2.1, .selects e.2.1.2.1.cls e.2.1.2.1 e.2.1.2.1, .initialized e.2.1.2.1.cls, wC e.2.1]
  | 1 => [.methodLink (own8 own) idx e.2.1.2.1, .static e.2.1.2.1, .initialized e.2.1.2.1.cls, wC e.2.1]
  | 2 => [.methodLink (own8 own) idx e.2.1.2.1, .instanceMethod e.2.1.2.1, .initialized e.2.1.2.1.cls, wC e.2.1]
  | 3 => [.methodLink (own8 own) idx objectInit, .instanceMethod objectInit, .code objectInit ⟨#[0xb1]⟩ 1 none]
  | 4 => [.methodLink (own8 own) idx Lib.Math.min.name, .static Lib.Math.min.name, .initialized "java/lang/Math", .code Lib.Math.min.name Lib.Math.min.code 2 (some .int)]
  | 5 => [.methodLink (own8 own) idx Lib.Math.max.name, .static Lib.Math.max.name, .initialized "java/lang/Math", .code Lib.Math.max.name Lib.Math.max.code 2 (some .int)]
  | 6 => [.methodLink (own8 own) idx arraycopyName, .native arraycopyName, .static arraycopyName, .initialized "java/lang/System"]
  | 7 => [.methodLink (own8 own) idx ⟨"[I", "clone", "()Ljava/lang/Object;"⟩, .sameMethod "[I" "java/lang/Object" "clone" "()Ljava/lang/Object;", .native ⟨"java/lang/Object", "clone", "()Ljava/lang/Object;"⟩, .instanceMethod ⟨"java/lang/Object", "clone", "()Ljava/lang/Object;"⟩, .selects "[I" ⟨"[I", "clone", "()Ljava/lang/Object;"⟩ ⟨"java/lang/Object", "clone", "()Ljava/lang/Object;"⟩]
  | 11 => [.static e.2.1.2.1, .initialized e.2.1.2.1.cls, wC e.2.1]
  | 12 => [.instanceMethod e.2.1.2.1, .initialized e.2.1.2.1.cls, wC e.2.1]
  | _ => []
def enum {α : Type} : List α → Nat → List (Nat × α)
  | [], _ => []
  | a :: l, n => (n, a) :: enum l (n + 1)
theorem enum_nth {α : Type} : ∀ (l : List α) (n i : Nat) (a : α), nth l i = some a → (n + i, a) ∈ enum l n
  | [], _, _, _, h => by simp [nth] at h
  | b :: l, n, 0, a, h => by
    simp only [nth, Option.some.injEq] at h
    subst h
    exact List.mem_cons_self
  | b :: l, n, i + 1, a, h => by
    have h1 := enum_nth l (n + 1) i a h
    have e : n + 1 + i = n + (i + 1) := by omega
    rw [e] at h1
    exact List.mem_cons_of_mem _ h1
theorem lkp_mem {α : Type} : ∀ (l : List (Nat × α)) (i : Nat) (a : α), lkp l i = some a → (i, a) ∈ l
  | [], _, _, h => by simp [lkp] at h
  | b :: l, i, a, h => by
    simp only [lkp] at h
    by_cases hb : Nat.beq b.1 i = true
    · rw [hb] at h
      simp only [cond_true, Option.some.injEq] at h
      have := Nat.eq_of_beq_eq_true hb
      subst this
      subst h
      exact List.mem_cons_self
    · have hb : Nat.beq b.1 i = false := Bool.eq_false_iff.mpr hb
      rw [hb] at h
      exact List.mem_cons_of_mem _ (lkp_mem l i a h)
/-- all that a table of links says -/
def allT {α : Type} (T : List (List (Nat × α))) (f : Nat → Nat → α → List Cond) : List Cond := (enum T 0).flatMap fun q => q.2.flatMap fun e => f q.1 e.1 e.2
theorem allT_in {α : Type} {T : List (List (Nat × α))} {f : Nat → Nat → α → List Cond} {own idx : Nat} {l : List (Nat × α)} {e : α} (h1 : nth T own = some l) (h2 : lkp l idx = some e) {w : Cond} (hw : w ∈ f own idx e) : w ∈ allT T f := by
  refine List.mem_flatMap.mpr ⟨(own, l), ?_, List.mem_flatMap.mpr ⟨(idx, e), lkp_mem l idx e h2, hw⟩⟩
  have := enum_nth T 0 own l h1
  simpa using this
theorem lw_0_3 : GoodIn lw_tbl (lwords 0 3 (3, m_none, 0)) := gi_r _ [149, 104, 105] (by decide +kernel) (by decide +kernel)
theorem lw_0_50 : GoodIn lw_tbl (lwords 0 50 (6, m_none, 5)) := gi_r _ [645, 566, 565, 97] (by decide +kernel) (by decide +kernel)
theorem lw_0_56 : GoodIn lw_tbl (lwords 0 56 (0, m_X0_owes, 1)) := gi_r _ [650, 330, 331, 87, 332] (by decide +kernel) (by decide +kernel)
theorem lw_0_65 : GoodIn lw_tbl (lwords 0 65 (0, m_X0_owedTo, 1)) := gi_r _ [318, 319, 320, 87, 321] (by decide +kernel) (by decide +kernel)
theorem lw_0_68 : GoodIn lw_tbl (lwords 0 68 (0, m_X2_value, 2)) := gi_r _ [322, 323, 324, 85, 325] (by decide +kernel) (by decide +kernel)
theorem lw_0_75 : GoodIn lw_tbl (lwords 0 75 (0, m_X0_value, 3)) := gi_r _ [314, 316, 3, 87, 317] (by decide +kernel) (by decide +kernel)
theorem lw_0_78 : GoodIn lw_tbl (lwords 0 78 (0, m_X0_owing, 2)) := gi_r _ [359, 348, 349, 87, 350] (by decide +kernel) (by decide +kernel)
theorem lw_0_81 : GoodIn lw_tbl (lwords 0 81 (0, m_X0_will, 2)) := gi_r _ [364, 356, 357, 87, 358] (by decide +kernel) (by decide +kernel)
theorem lw_0_85 : GoodIn lw_tbl (lwords 0 85 (0, m_X0_breath, 1)) := gi_r _ [365, 311, 312, 87, 313] (by decide +kernel) (by decide +kernel)
theorem lw_0_88 : GoodIn lw_tbl (lwords 0 88 (0, m_X0_pays, 2)) := gi_r _ [593, 352, 353, 87, 354] (by decide +kernel) (by decide +kernel)
theorem lw_0_91 : GoodIn lw_tbl (lwords 0 91 (0, m_X0_settle, 4)) := gi_r _ [594, 596, 18, 87, 597] (by decide +kernel) (by decide +kernel)
theorem lw_0_95 : GoodIn lw_tbl (lwords 0 95 (0, m_X0_lessen, 3)) := gi_r _ [598, 599, 600, 87, 601] (by decide +kernel) (by decide +kernel)
theorem lw_0_99 : GoodIn lw_tbl (lwords 0 99 (4, m_none, 2)) := gi_r _ [602, 484, 95, 485] (by decide +kernel) (by decide +kernel)
theorem lw_0_110 : GoodIn lw_tbl (lwords 0 110 (0, m_X0_may, 2)) := gi_r _ [613, 361, 362, 87, 363] (by decide +kernel) (by decide +kernel)
theorem lw_0_113 : GoodIn lw_tbl (lwords 0 113 (0, m_X0_step, 2)) := gi_r _ [614, 590, 591, 87, 592] (by decide +kernel) (by decide +kernel)
theorem lw_0_116 : GoodIn lw_tbl (lwords 0 116 (0, m_X0_danceRound, 0)) := gi_r _ [717, 608, 609, 87, 610] (by decide +kernel) (by decide +kernel)
theorem lw_0_121 : GoodIn lw_tbl (lwords 0 121 (5, m_none, 2)) := gi_r _ [694, 481, 95, 482] (by decide +kernel) (by decide +kernel)
theorem lw_0_124 : GoodIn lw_tbl (lwords 0 124 (0, m_X0_longest, 4)) := gi_r _ [709, 711, 24, 87, 712] (by decide +kernel) (by decide +kernel)
theorem lw_0_134 : GoodIn lw_tbl (lwords 0 134 (0, m_X0_mayAll, 1)) := gi_r _ [669, 670, 671, 87, 672] (by decide +kernel) (by decide +kernel)
theorem lw_0_138 : GoodIn lw_tbl (lwords 0 138 (0, m_X0_paidBy, 1)) := gi_r _ [673, 674, 675, 87, 676] (by decide +kernel) (by decide +kernel)
theorem lw_0_149 : GoodIn lw_tbl (lwords 0 149 (0, m_X0_firstOtherwise, 2)) := gi_r _ [749, 738, 739, 87, 740] (by decide +kernel) (by decide +kernel)
theorem lw_0_72 : GoodIn lw_tbl (lwords 0 72 (11, m_X5_within, 2)) := gi_r _ [327, 84, 328] (by decide +kernel) (by decide +kernel)
theorem lwA_0 : ∀ q ∈ lnk_0, GoodIn lw_tbl (lwords 0 q.1 q.2) := List.forall_mem_cons.mpr ⟨lw_0_3, List.forall_mem_cons.mpr ⟨lw_0_50, List.forall_mem_cons.mpr ⟨lw_0_56, List.forall_mem_cons.mpr ⟨lw_0_65, List.forall_mem_cons.mpr ⟨lw_0_68, List.forall_mem_cons.mpr ⟨lw_0_75, List.forall_mem_cons.mpr ⟨lw_0_78, List.forall_mem_cons.mpr ⟨lw_0_81, List.forall_mem_cons.mpr ⟨lw_0_85, List.forall_mem_cons.mpr ⟨lw_0_88, List.forall_mem_cons.mpr ⟨lw_0_91, List.forall_mem_cons.mpr ⟨lw_0_95, List.forall_mem_cons.mpr ⟨lw_0_99, List.forall_mem_cons.mpr ⟨lw_0_110, List.forall_mem_cons.mpr ⟨lw_0_113, List.forall_mem_cons.mpr ⟨lw_0_116, List.forall_mem_cons.mpr ⟨lw_0_121, List.forall_mem_cons.mpr ⟨lw_0_124, List.forall_mem_cons.mpr ⟨lw_0_134, List.forall_mem_cons.mpr ⟨lw_0_138, List.forall_mem_cons.mpr ⟨lw_0_149, List.forall_mem_cons.mpr ⟨lw_0_72, fun _ h => absurd h List.not_mem_nil⟩⟩⟩⟩⟩⟩⟩⟩⟩⟩⟩⟩⟩⟩⟩⟩⟩⟩⟩⟩⟩⟩
theorem lw_1_3 : GoodIn lw_tbl (lwords 1 3 (3, m_none, 0)) := gi_r _ [207, 104, 105] (by decide +kernel) (by decide +kernel)
theorem lw_1_34 : GoodIn lw_tbl (lwords 1 34 (0, m_X1_next, 0)) := gi_r _ [382, 384, 4, 88, 385] (by decide +kernel) (by decide +kernel)
theorem lw_1_37 : GoodIn lw_tbl (lwords 1 37 (0, m_X1_pass, 1)) := gi_r _ [524, 526, 8, 88, 527] (by decide +kernel) (by decide +kernel)
theorem lw_1_41 : GoodIn lw_tbl (lwords 1 41 (0, m_X1_either, 0)) := gi_r _ [528, 530, 9, 88, 531] (by decide +kernel) (by decide +kernel)
theorem lw_1_48 : GoodIn lw_tbl (lwords 1 48 (6, m_none, 5)) := gi_r _ [564, 566, 565, 97] (by decide +kernel) (by decide +kernel)
theorem lw_1_56 : GoodIn lw_tbl (lwords 1 56 (7, m_none, 0)) := gi_r _ [568, 569, 570, 571, 572] (by decide +kernel) (by decide +kernel)
theorem lw_1_61 : GoodIn lw_tbl (lwords 1 61 (2, m_X4_init, 2)) := gi_r _ [575, 116, 86, 117] (by decide +kernel) (by decide +kernel)
theorem lw_1_64 : GoodIn lw_tbl (lwords 1 64 (0, m_X1_both, 0)) := gi_r _ [532, 534, 10, 88, 535] (by decide +kernel) (by decide +kernel)
theorem lw_1_67 : GoodIn lw_tbl (lwords 1 67 (0, m_X1_put, 1)) := gi_r _ [556, 558, 16, 88, 559] (by decide +kernel) (by decide +kernel)
theorem lw_1_70 : GoodIn lw_tbl (lwords 1 70 (0, m_X1_denied, 0)) := gi_r _ [536, 538, 11, 88, 539] (by decide +kernel) (by decide +kernel)
theorem lw_1_73 : GoodIn lw_tbl (lwords 1 73 (0, m_X1_compared, 0)) := gi_r _ [540, 542, 12, 88, 543] (by decide +kernel) (by decide +kernel)
theorem lw_1_76 : GoodIn lw_tbl (lwords 1 76 (0, m_X1_opens, 0)) := gi_r _ [560, 562, 17, 88, 563] (by decide +kernel) (by decide +kernel)
theorem lw_1_79 : GoodIn lw_tbl (lwords 1 79 (0, m_X1_sum, 0)) := gi_r _ [544, 546, 13, 88, 547] (by decide +kernel) (by decide +kernel)
theorem lw_1_82 : GoodIn lw_tbl (lwords 1 82 (0, m_X1_term, 0)) := gi_r _ [548, 550, 14, 88, 551] (by decide +kernel) (by decide +kernel)
theorem lw_1_85 : GoodIn lw_tbl (lwords 1 85 (0, m_X1_one, 0)) := gi_r _ [552, 554, 15, 88, 555] (by decide +kernel) (by decide +kernel)
theorem lw_1_94 : GoodIn lw_tbl (lwords 1 94 (1, m_X1_isDigit, 1)) := gi_r _ [386, 387, 88, 388] (by decide +kernel) (by decide +kernel)
theorem lw_1_97 : GoodIn lw_tbl (lwords 1 97 (0, m_X1_nextNumber, 0)) := gi_r _ [389, 391, 5, 88, 392] (by decide +kernel) (by decide +kernel)
theorem lw_1_100 : GoodIn lw_tbl (lwords 1 100 (1, m_X1_isLetter, 1)) := gi_r _ [393, 394, 88, 395] (by decide +kernel) (by decide +kernel)
theorem lw_1_103 : GoodIn lw_tbl (lwords 1 103 (0, m_X1_nextWord, 0)) := gi_r _ [396, 398, 6, 88, 399] (by decide +kernel) (by decide +kernel)
theorem lw_1_108 : GoodIn lw_tbl (lwords 1 108 (10, m_none, 1)) := gi_r _ [] (by decide +kernel) (by decide +kernel)
theorem lw_1_116 : GoodIn lw_tbl (lwords 1 116 (0, m_X1_spells, 1)) := gi_r _ [401, 403, 7, 88, 404] (by decide +kernel) (by decide +kernel)
theorem lw_1_141 : GoodIn lw_tbl (lwords 1 141 (8, m_none, 0)) := gi_r _ [] (by decide +kernel) (by decide +kernel)
theorem lw_1_145 : GoodIn lw_tbl (lwords 1 145 (9, m_none, 1)) := gi_r _ [] (by decide +kernel) (by decide +kernel)
theorem lwA_1 : ∀ q ∈ lnk_1, GoodIn lw_tbl (lwords 1 q.1 q.2) := List.forall_mem_cons.mpr ⟨lw_1_3, List.forall_mem_cons.mpr ⟨lw_1_34, List.forall_mem_cons.mpr ⟨lw_1_37, List.forall_mem_cons.mpr ⟨lw_1_41, List.forall_mem_cons.mpr ⟨lw_1_48, List.forall_mem_cons.mpr ⟨lw_1_56, List.forall_mem_cons.mpr ⟨lw_1_61, List.forall_mem_cons.mpr ⟨lw_1_64, List.forall_mem_cons.mpr ⟨lw_1_67, List.forall_mem_cons.mpr ⟨lw_1_70, List.forall_mem_cons.mpr ⟨lw_1_73, List.forall_mem_cons.mpr ⟨lw_1_76, List.forall_mem_cons.mpr ⟨lw_1_79, List.forall_mem_cons.mpr ⟨lw_1_82, List.forall_mem_cons.mpr ⟨lw_1_85, List.forall_mem_cons.mpr ⟨lw_1_94, List.forall_mem_cons.mpr ⟨lw_1_97, List.forall_mem_cons.mpr ⟨lw_1_100, List.forall_mem_cons.mpr ⟨lw_1_103, List.forall_mem_cons.mpr ⟨lw_1_108, List.forall_mem_cons.mpr ⟨lw_1_116, List.forall_mem_cons.mpr ⟨lw_1_141, List.forall_mem_cons.mpr ⟨lw_1_145, fun _ h => absurd h List.not_mem_nil⟩⟩⟩⟩⟩⟩⟩⟩⟩⟩⟩⟩⟩⟩⟩⟩⟩⟩⟩⟩⟩⟩⟩
theorem lw_2_3 : GoodIn lw_tbl (lwords 2 3 (3, m_none, 0)) := gi_r _ [111, 104, 105] (by decide +kernel) (by decide +kernel)
theorem lw_2_24 : GoodIn lw_tbl (lwords 2 24 (2, m_X4_init, 2)) := gi_r _ [115, 116, 86, 117] (by decide +kernel) (by decide +kernel)
theorem lwA_2 : ∀ q ∈ lnk_2, GoodIn lw_tbl (lwords 2 q.1 q.2) := List.forall_mem_cons.mpr ⟨lw_2_3, List.forall_mem_cons.mpr ⟨lw_2_24, fun _ h => absurd h List.not_mem_nil⟩⟩
theorem lw_3_3 : GoodIn lw_tbl (lwords 3 3 (3, m_none, 0)) := gi_r _ [247, 104, 105] (by decide +kernel) (by decide +kernel)
theorem lwA_3 : ∀ q ∈ lnk_3, GoodIn lw_tbl (lwords 3 q.1 q.2) := List.forall_mem_cons.mpr ⟨lw_3_3, fun _ h => absurd h List.not_mem_nil⟩
theorem lw_4_1 : GoodIn lw_tbl (lwords 4 1 (3, m_none, 0)) := gi_r _ [118, 104, 105] (by decide +kernel) (by decide +kernel)
theorem lwA_4 : ∀ q ∈ lnk_4, GoodIn lw_tbl (lwords 4 q.1 q.2) := List.forall_mem_cons.mpr ⟨lw_4_1, fun _ h => absurd h List.not_mem_nil⟩
theorem lw_5_1 : GoodIn lw_tbl (lwords 5 1 (3, m_none, 0)) := gi_r _ [103, 104, 105] (by decide +kernel) (by decide +kernel)
theorem lw_5_9 : GoodIn lw_tbl (lwords 5 9 (2, m_X2_init, 0)) := gi_r _ [108, 109, 85, 110] (by decide +kernel) (by decide +kernel)
theorem lw_5_18 : GoodIn lw_tbl (lwords 5 18 (2, m_X0_init, 1)) := gi_r _ [146, 147, 87, 148] (by decide +kernel) (by decide +kernel)
theorem lw_5_53 : GoodIn lw_tbl (lwords 5 53 (0, m_X5_told, 2)) := gi_r _ [294, 295, 296, 84, 297] (by decide +kernel) (by decide +kernel)
theorem lw_5_73 : GoodIn lw_tbl (lwords 5 73 (0, m_X5_debtPlace, 1)) := gi_r _ [298, 300, 0, 84, 301] (by decide +kernel) (by decide +kernel)
theorem lw_5_80 : GoodIn lw_tbl (lwords 5 80 (0, m_X0_join, 2)) := gi_r _ [338, 339, 340, 87, 341] (by decide +kernel) (by decide +kernel)
theorem lw_5_83 : GoodIn lw_tbl (lwords 5 83 (0, m_X5_isDancer, 1)) := gi_r _ [306, 308, 2, 84, 309] (by decide +kernel) (by decide +kernel)
theorem lw_5_90 : GoodIn lw_tbl (lwords 5 90 (0, m_X0_breath, 1)) := gi_r _ [310, 311, 312, 87, 313] (by decide +kernel) (by decide +kernel)
theorem lw_5_93 : GoodIn lw_tbl (lwords 5 93 (0, m_X0_owes, 1)) := gi_r _ [329, 330, 331, 87, 332] (by decide +kernel) (by decide +kernel)
theorem lw_5_96 : GoodIn lw_tbl (lwords 5 96 (0, m_X0_owedTo, 1)) := gi_r _ [333, 319, 320, 87, 321] (by decide +kernel) (by decide +kernel)
theorem lw_5_99 : GoodIn lw_tbl (lwords 5 99 (0, m_X5_isTwo, 2)) := gi_r _ [302, 304, 1, 84, 305] (by decide +kernel) (by decide +kernel)
theorem lw_5_103 : GoodIn lw_tbl (lwords 5 103 (0, m_X0_owing, 2)) := gi_r _ [347, 348, 349, 87, 350] (by decide +kernel) (by decide +kernel)
theorem lw_5_106 : GoodIn lw_tbl (lwords 5 106 (0, m_X0_pays, 2)) := gi_r _ [351, 352, 353, 87, 354] (by decide +kernel) (by decide +kernel)
theorem lw_5_109 : GoodIn lw_tbl (lwords 5 109 (0, m_X0_will, 2)) := gi_r _ [355, 356, 357, 87, 358] (by decide +kernel) (by decide +kernel)
theorem lw_5_112 : GoodIn lw_tbl (lwords 5 112 (0, m_X0_may, 2)) := gi_r _ [360, 361, 362, 87, 363] (by decide +kernel) (by decide +kernel)
theorem lw_5_115 : GoodIn lw_tbl (lwords 5 115 (0, m_X1_hold, 1)) := gi_r _ [370, 371, 372, 88, 373] (by decide +kernel) (by decide +kernel)
theorem lw_5_124 : GoodIn lw_tbl (lwords 5 124 (0, m_X1_read, 0)) := gi_r _ [378, 379, 380, 88, 381] (by decide +kernel) (by decide +kernel)
theorem lw_5_131 : GoodIn lw_tbl (lwords 5 131 (0, m_X2_keep, 1)) := gi_r _ [576, 577, 578, 85, 579] (by decide +kernel) (by decide +kernel)
theorem lw_5_138 : GoodIn lw_tbl (lwords 5 138 (0, m_X0_step, 2)) := gi_r _ [589, 590, 591, 87, 592] (by decide +kernel) (by decide +kernel)
theorem lw_5_141 : GoodIn lw_tbl (lwords 5 141 (0, m_X0_danceRound, 0)) := gi_r _ [607, 608, 609, 87, 610] (by decide +kernel) (by decide +kernel)
theorem lw_5_145 : GoodIn lw_tbl (lwords 5 145 (0, m_X0_endNight, 0)) := gi_r _ [619, 620, 621, 87, 622] (by decide +kernel) (by decide +kernel)
theorem lw_5_148 : GoodIn lw_tbl (lwords 5 148 (0, m_X5_readRing, 1)) := gi_r _ [627, 629, 19, 84, 630] (by decide +kernel) (by decide +kernel)
theorem lw_5_151 : GoodIn lw_tbl (lwords 5 151 (4, m_none, 2)) := gi_r _ [631, 484, 95, 485] (by decide +kernel) (by decide +kernel)
theorem lw_5_156 : GoodIn lw_tbl (lwords 5 156 (0, m_X0_lessen, 3)) := gi_r _ [632, 599, 600, 87, 601] (by decide +kernel) (by decide +kernel)
theorem lw_5_160 : GoodIn lw_tbl (lwords 5 160 (0, m_X5_think, 0)) := gi_r _ [637, 639, 20, 84, 640] (by decide +kernel) (by decide +kernel)
theorem lw_5_164 : GoodIn lw_tbl (lwords 5 164 (0, m_X0_all, 0)) := gi_r _ [646, 647, 648, 87, 649] (by decide +kernel) (by decide +kernel)
theorem lw_5_167 : GoodIn lw_tbl (lwords 5 167 (0, m_X0_stillOwed, 0)) := gi_r _ [651, 652, 653, 87, 654] (by decide +kernel) (by decide +kernel)
theorem lw_5_170 : GoodIn lw_tbl (lwords 5 170 (0, m_X0_takeFrom, 1)) := gi_r _ [641, 642, 643, 87, 644] (by decide +kernel) (by decide +kernel)
theorem lw_5_174 : GoodIn lw_tbl (lwords 5 174 (0, m_X0_weigh, 0)) := gi_r _ [659, 660, 661, 87, 662] (by decide +kernel) (by decide +kernel)
theorem lw_5_177 : GoodIn lw_tbl (lwords 5 177 (0, m_X0_bestSet, 0)) := gi_r _ [663, 664, 665, 87, 666] (by decide +kernel) (by decide +kernel)
theorem lw_5_180 : GoodIn lw_tbl (lwords 5 180 (0, m_X0_paidBy, 1)) := gi_r _ [677, 674, 675, 87, 676] (by decide +kernel) (by decide +kernel)
theorem lw_5_183 : GoodIn lw_tbl (lwords 5 183 (0, m_X5_sitters, 0)) := gi_r _ [678, 680, 21, 84, 681] (by decide +kernel) (by decide +kernel)
theorem lw_5_186 : GoodIn lw_tbl (lwords 5 186 (0, m_X5_soonest, 0)) := gi_r _ [682, 684, 22, 84, 685] (by decide +kernel) (by decide +kernel)
theorem lw_5_189 : GoodIn lw_tbl (lwords 5 189 (0, m_X0_least, 0)) := gi_r _ [701, 702, 703, 87, 704] (by decide +kernel) (by decide +kernel)
theorem lw_5_192 : GoodIn lw_tbl (lwords 5 192 (0, m_X0_ring, 0)) := gi_r _ [705, 706, 707, 87, 708] (by decide +kernel) (by decide +kernel)
theorem lw_5_194 : GoodIn lw_tbl (lwords 5 194 (0, m_X0_ends, 0)) := gi_r _ [713, 714, 715, 87, 716] (by decide +kernel) (by decide +kernel)
theorem lw_5_197 : GoodIn lw_tbl (lwords 5 197 (0, m_X0_keeps, 0)) := gi_r _ [718, 719, 720, 87, 721] (by decide +kernel) (by decide +kernel)
theorem lw_5_202 : GoodIn lw_tbl (lwords 5 202 (1, m_X5_lowest, 3)) := gi_r _ [727, 728, 84, 729] (by decide +kernel) (by decide +kernel)
theorem lw_5_209 : GoodIn lw_tbl (lwords 5 209 (0, m_X5_clears, 2)) := gi_r _ [686, 688, 23, 84, 689] (by decide +kernel) (by decide +kernel)
theorem lw_5_212 : GoodIn lw_tbl (lwords 5 212 (0, m_X0_mostToMeet, 0)) := gi_r _ [690, 691, 692, 87, 693] (by decide +kernel) (by decide +kernel)
theorem lw_5_218 : GoodIn lw_tbl (lwords 5 218 (0, m_X0_mayAll, 1)) := gi_r _ [696, 670, 671, 87, 672] (by decide +kernel) (by decide +kernel)
theorem lw_5_221 : GoodIn lw_tbl (lwords 5 221 (0, m_X0_danceSet, 2)) := gi_r _ [697, 698, 699, 87, 700] (by decide +kernel) (by decide +kernel)
theorem lw_5_225 : GoodIn lw_tbl (lwords 5 225 (1, m_X5_isSheet, 1)) := gi_r _ [734, 735, 84, 736] (by decide +kernel) (by decide +kernel)
theorem lw_5_232 : GoodIn lw_tbl (lwords 5 232 (0, m_X0_firstOtherwise, 2)) := gi_r _ [737, 738, 739, 87, 740] (by decide +kernel) (by decide +kernel)
theorem lw_5_236 : GoodIn lw_tbl (lwords 5 236 (0, m_X5_kindsTold, 2)) := gi_r _ [741, 743, 25, 84, 744] (by decide +kernel) (by decide +kernel)
theorem lw_5_239 : GoodIn lw_tbl (lwords 5 239 (0, m_X5_numbersTold, 2)) := gi_r _ [750, 752, 26, 84, 753] (by decide +kernel) (by decide +kernel)
theorem lw_5_242 : GoodIn lw_tbl (lwords 5 242 (0, m_X5_roundsTold, 3)) := gi_r _ [754, 756, 27, 84, 757] (by decide +kernel) (by decide +kernel)
theorem lw_5_246 : GoodIn lw_tbl (lwords 5 246 (0, m_X5_donesTold, 3)) := gi_r _ [758, 760, 28, 84, 761] (by decide +kernel) (by decide +kernel)
theorem lw_5_249 : GoodIn lw_tbl (lwords 5 249 (0, m_X5_textsTold, 2)) := gi_r _ [762, 764, 29, 84, 765] (by decide +kernel) (by decide +kernel)
theorem lw_5_252 : GoodIn lw_tbl (lwords 5 252 (0, m_X5_dancersTold, 2)) := gi_r _ [766, 768, 30, 84, 769] (by decide +kernel) (by decide +kernel)
theorem lw_5_255 : GoodIn lw_tbl (lwords 5 255 (0, m_X0_paysAs, 2)) := gi_r _ [745, 746, 747, 87, 748] (by decide +kernel) (by decide +kernel)
theorem lw_5_259 : GoodIn lw_tbl (lwords 5 259 (0, m_X3_become, 2)) := gi_r _ [774, 775, 776, 89, 777] (by decide +kernel) (by decide +kernel)
theorem lw_5_263 : GoodIn lw_tbl (lwords 5 263 (0, m_X3_put, 2)) := gi_r _ [778, 779, 780, 89, 781] (by decide +kernel) (by decide +kernel)
theorem lw_5_266 : GoodIn lw_tbl (lwords 5 266 (0, m_X0_draw, 1)) := gi_r _ [786, 787, 788, 87, 789] (by decide +kernel) (by decide +kernel)
theorem lw_5_274 : GoodIn lw_tbl (lwords 5 274 (1, m_X5_isSort, 1)) := gi_r _ [811, 812, 84, 813] (by decide +kernel) (by decide +kernel)
theorem lw_5_277 : GoodIn lw_tbl (lwords 5 277 (0, m_X3_holds, 2)) := gi_r _ [818, 819, 820, 89, 821] (by decide +kernel) (by decide +kernel)
theorem lw_5_283 : GoodIn lw_tbl (lwords 5 283 (6, m_none, 5)) := gi_r _ [826, 566, 565, 97] (by decide +kernel) (by decide +kernel)
theorem lw_5_289 : GoodIn lw_tbl (lwords 5 289 (0, m_X5_dancer, 2)) := gi_r _ [831, 335, 336, 84, 337] (by decide +kernel) (by decide +kernel)
theorem lw_5_34 : GoodIn lw_tbl (lwords 5 34 (12, m_X1_init, 0)) := gi_r _ [205, 88, 206] (by decide +kernel) (by decide +kernel)
theorem lw_5_41 : GoodIn lw_tbl (lwords 5 41 (12, m_X3_init, 0)) := gi_r _ [245, 89, 246] (by decide +kernel) (by decide +kernel)
theorem lwA_5 : ∀ q ∈ lnk_5, GoodIn lw_tbl (lwords 5 q.1 q.2) := List.forall_mem_cons.mpr ⟨lw_5_1, List.forall_mem_cons.mpr ⟨lw_5_9, List.forall_mem_cons.mpr ⟨lw_5_18, List.forall_mem_cons.mpr ⟨lw_5_53, List.forall_mem_cons.mpr ⟨lw_5_73, List.forall_mem_cons.mpr ⟨lw_5_80, List.forall_mem_cons.mpr ⟨lw_5_83, List.forall_mem_cons.mpr ⟨lw_5_90, List.forall_mem_cons.mpr ⟨lw_5_93, List.forall_mem_cons.mpr ⟨lw_5_96, List.forall_mem_cons.mpr ⟨lw_5_99, List.forall_mem_cons.mpr ⟨lw_5_103, List.forall_mem_cons.mpr ⟨lw_5_106, List.forall_mem_cons.mpr ⟨lw_5_109, List.forall_mem_cons.mpr ⟨lw_5_112, List.forall_mem_cons.mpr ⟨lw_5_115, List.forall_mem_cons.mpr ⟨lw_5_124, List.forall_mem_cons.mpr ⟨lw_5_131, List.forall_mem_cons.mpr ⟨lw_5_138, List.forall_mem_cons.mpr ⟨lw_5_141, List.forall_mem_cons.mpr ⟨lw_5_145, List.forall_mem_cons.mpr ⟨lw_5_148, List.forall_mem_cons.mpr ⟨lw_5_151, List.forall_mem_cons.mpr ⟨lw_5_156, List.forall_mem_cons.mpr ⟨lw_5_160, List.forall_mem_cons.mpr ⟨lw_5_164, List.forall_mem_cons.mpr ⟨lw_5_167, List.forall_mem_cons.mpr ⟨lw_5_170, List.forall_mem_cons.mpr ⟨lw_5_174, List.forall_mem_cons.mpr ⟨lw_5_177, List.forall_mem_cons.mpr ⟨lw_5_180, List.forall_mem_cons.mpr ⟨lw_5_183, List.forall_mem_cons.mpr ⟨lw_5_186, List.forall_mem_cons.mpr ⟨lw_5_189, List.forall_mem_cons.mpr ⟨lw_5_192, List.forall_mem_cons.mpr ⟨lw_5_194, List.forall_mem_cons.mpr ⟨lw_5_197, List.forall_mem_cons.mpr ⟨lw_5_202, List.forall_mem_cons.mpr ⟨lw_5_209, List.forall_mem_cons.mpr ⟨lw_5_212, List.forall_mem_cons.mpr ⟨lw_5_218, List.forall_mem_cons.mpr ⟨lw_5_221, List.forall_mem_cons.mpr ⟨lw_5_225, List.forall_mem_cons.mpr ⟨lw_5_232, List.forall_mem_cons.mpr ⟨lw_5_236, List.forall_mem_cons.mpr ⟨lw_5_239, List.forall_mem_cons.mpr ⟨lw_5_242, List.forall_mem_cons.mpr ⟨lw_5_246, List.forall_mem_cons.mpr ⟨lw_5_249, List.forall_mem_cons.mpr ⟨lw_5_252, List.forall_mem_cons.mpr ⟨lw_5_255, List.forall_mem_cons.mpr ⟨lw_5_259, List.forall_mem_cons.mpr ⟨lw_5_263, List.forall_mem_cons.mpr ⟨lw_5_266, List.forall_mem_cons.mpr ⟨lw_5_274, List.forall_mem_cons.mpr ⟨lw_5_277, List.forall_mem_cons.mpr ⟨lw_5_283, List.forall_mem_cons.mpr ⟨lw_5_289, List.forall_mem_cons.mpr ⟨lw_5_34, List.forall_mem_cons.mpr ⟨lw_5_41, fun _ h => absurd h List.not_mem_nil⟩⟩⟩⟩⟩⟩⟩⟩⟩⟩⟩⟩⟩⟩⟩⟩⟩⟩⟩⟩⟩⟩⟩⟩⟩⟩⟩⟩⟩⟩⟩⟩⟩⟩⟩⟩⟩⟩⟩⟩⟩⟩⟩⟩⟩⟩⟩⟩⟩⟩⟩⟩⟩⟩⟩⟩⟩⟩⟩⟩
theorem lw_6_7 : GoodIn lw_tbl (lwords 6 7 (3, m_none, 0)) := gi_r _ [843, 104, 105] (by decide +kernel) (by decide +kernel)
theorem lw_6_72 : GoodIn lw_tbl (lwords 6 72 (1, m_X6_isApart, 1)) := gi_r _ [844, 845, 90, 846] (by decide +kernel) (by decide +kernel)
theorem lw_6_76 : GoodIn lw_tbl (lwords 6 76 (0, m_X6_spell, 9)) := gi_r _ [850, 852, 31, 90, 853] (by decide +kernel) (by decide +kernel)
theorem lw_6_86 : GoodIn lw_tbl (lwords 6 86 (1, m_X6_in, 3)) := gi_r _ [995, 996, 90, 997] (by decide +kernel) (by decide +kernel)
theorem lw_6_90 : GoodIn lw_tbl (lwords 6 90 (0, m_X6_isOne, 1)) := gi_r _ [1006, 1008, 34, 90, 1009] (by decide +kernel) (by decide +kernel)
theorem lw_6_93 : GoodIn lw_tbl (lwords 6 93 (0, m_X6_areTwo, 2)) := gi_r _ [1002, 1004, 33, 90, 1005] (by decide +kernel) (by decide +kernel)
theorem lw_6_99 : GoodIn lw_tbl (lwords 6 99 (0, m_X6_isOf, 2)) := gi_r _ [998, 1000, 32, 90, 1001] (by decide +kernel) (by decide +kernel)
theorem lw_6_102 : GoodIn lw_tbl (lwords 6 102 (1, m_X6_mostOf, 1)) := gi_r _ [1010, 1011, 90, 1012] (by decide +kernel) (by decide +kernel)
theorem lw_6_106 : GoodIn lw_tbl (lwords 6 106 (0, m_X6_told, 2)) := gi_r _ [1013, 1014, 1015, 90, 1016] (by decide +kernel) (by decide +kernel)
theorem lw_6_110 : GoodIn lw_tbl (lwords 6 110 (0, m_X6_lays, 3)) := gi_r _ [1115, 1117, 56, 90, 1118] (by decide +kernel) (by decide +kernel)
theorem lw_6_120 : GoodIn lw_tbl (lwords 6 120 (1, m_X6_placeOf, 1)) := gi_r _ [1018, 1019, 90, 1020] (by decide +kernel) (by decide +kernel)
theorem lw_6_132 : GoodIn lw_tbl (lwords 6 132 (0, m_X6_breathOf, 1)) := gi_r _ [1021, 1023, 35, 90, 1024] (by decide +kernel) (by decide +kernel)
theorem lw_6_135 : GoodIn lw_tbl (lwords 6 135 (0, m_X6_owesOf, 1)) := gi_r _ [1111, 1113, 55, 90, 1114] (by decide +kernel) (by decide +kernel)
theorem lw_6_138 : GoodIn lw_tbl (lwords 6 138 (0, m_X6_owedTo, 1)) := gi_r _ [1029, 1031, 37, 90, 1032] (by decide +kernel) (by decide +kernel)
theorem lw_6_141 : GoodIn lw_tbl (lwords 6 141 (0, m_X6_debtOf, 2)) := gi_r _ [1033, 1035, 38, 90, 1036] (by decide +kernel) (by decide +kernel)
theorem lw_6_158 : GoodIn lw_tbl (lwords 6 158 (0, m_X6_byteAt, 1)) := gi_r _ [1045, 1047, 41, 90, 1048] (by decide +kernel) (by decide +kernel)
theorem lw_6_188 : GoodIn lw_tbl (lwords 6 188 (0, m_X6_isLetter, 2)) := gi_r _ [1058, 1060, 43, 90, 1061] (by decide +kernel) (by decide +kernel)
theorem lw_6_194 : GoodIn lw_tbl (lwords 6 194 (0, m_X6_fail, 0)) := gi_r _ [1066, 1068, 45, 90, 1069] (by decide +kernel) (by decide +kernel)
theorem lw_6_197 : GoodIn lw_tbl (lwords 6 197 (0, m_X6_next, 0)) := gi_r _ [1041, 1043, 40, 90, 1044] (by decide +kernel) (by decide +kernel)
theorem lw_6_200 : GoodIn lw_tbl (lwords 6 200 (0, m_X6_isWord, 8)) := gi_r _ [1054, 1056, 42, 90, 1057] (by decide +kernel) (by decide +kernel)
theorem lw_6_222 : GoodIn lw_tbl (lwords 6 222 (0, m_X6_isSign, 1)) := gi_r _ [1098, 1100, 53, 90, 1101] (by decide +kernel) (by decide +kernel)
theorem lw_6_225 : GoodIn lw_tbl (lwords 6 225 (0, m_X6_opens, 0)) := gi_r _ [1082, 1084, 49, 90, 1085] (by decide +kernel) (by decide +kernel)
theorem lw_6_229 : GoodIn lw_tbl (lwords 6 229 (0, m_X6_atom, 0)) := gi_r _ [1094, 1096, 52, 90, 1097] (by decide +kernel) (by decide +kernel)
theorem lw_6_233 : GoodIn lw_tbl (lwords 6 233 (0, m_X6_either, 0)) := gi_r _ [1070, 1072, 46, 90, 1073] (by decide +kernel) (by decide +kernel)
theorem lw_6_236 : GoodIn lw_tbl (lwords 6 236 (0, m_X6_name, 0)) := gi_r _ [1102, 1104, 54, 90, 1105] (by decide +kernel) (by decide +kernel)
theorem lw_6_239 : GoodIn lw_tbl (lwords 6 239 (0, m_X6_term, 0)) := gi_r _ [1090, 1092, 51, 90, 1093] (by decide +kernel) (by decide +kernel)
theorem lw_6_244 : GoodIn lw_tbl (lwords 6 244 (0, m_X6_not, 0)) := gi_r _ [1078, 1080, 48, 90, 1081] (by decide +kernel) (by decide +kernel)
theorem lw_6_247 : GoodIn lw_tbl (lwords 6 247 (0, m_X6_added, 0)) := gi_r _ [1086, 1088, 50, 90, 1089] (by decide +kernel) (by decide +kernel)
theorem lw_6_252 : GoodIn lw_tbl (lwords 6 252 (0, m_X6_both, 0)) := gi_r _ [1074, 1076, 47, 90, 1077] (by decide +kernel) (by decide +kernel)
theorem lw_6_255 : GoodIn lw_tbl (lwords 6 255 (0, m_X6_part, 1)) := gi_r _ [1062, 1064, 44, 90, 1065] (by decide +kernel) (by decide +kernel)
theorem lw_6_259 : GoodIn lw_tbl (lwords 6 259 (0, m_X6_read, 2)) := gi_r _ [1037, 1039, 39, 90, 1040] (by decide +kernel) (by decide +kernel)
theorem lw_6_262 : GoodIn lw_tbl (lwords 6 262 (1, m_X6_within, 3)) := gi_r _ [1108, 1109, 90, 1110] (by decide +kernel) (by decide +kernel)
theorem lw_6_266 : GoodIn lw_tbl (lwords 6 266 (0, m_X6_says, 3)) := gi_r _ [1025, 1027, 36, 90, 1028] (by decide +kernel) (by decide +kernel)
theorem lw_6_269 : GoodIn lw_tbl (lwords 6 269 (0, m_X6_willOf, 2)) := gi_r _ [1148, 1150, 58, 90, 1151] (by decide +kernel) (by decide +kernel)
theorem lw_6_272 : GoodIn lw_tbl (lwords 6 272 (0, m_X6_hasBreath, 1)) := gi_r _ [1156, 1158, 60, 90, 1159] (by decide +kernel) (by decide +kernel)
theorem lw_6_277 : GoodIn lw_tbl (lwords 6 277 (0, m_X6_paysOf, 2)) := gi_r _ [1144, 1146, 57, 90, 1147] (by decide +kernel) (by decide +kernel)
theorem lw_6_280 : GoodIn lw_tbl (lwords 6 280 (0, m_X6_mayDance, 2)) := gi_r _ [1152, 1154, 59, 90, 1155] (by decide +kernel) (by decide +kernel)
theorem lw_6_283 : GoodIn lw_tbl (lwords 6 283 (0, m_X6_dances, 1)) := gi_r _ [1168, 1170, 62, 90, 1171] (by decide +kernel) (by decide +kernel)
theorem lw_6_287 : GoodIn lw_tbl (lwords 6 287 (0, m_X6_danceBoth, 2)) := gi_r _ [1164, 1166, 61, 90, 1167] (by decide +kernel) (by decide +kernel)
theorem lw_6_293 : GoodIn lw_tbl (lwords 6 293 (0, m_X6_passes, 0)) := gi_r _ [1176, 1178, 63, 90, 1179] (by decide +kernel) (by decide +kernel)
theorem lw_6_297 : GoodIn lw_tbl (lwords 6 297 (0, m_X6_ringOf, 1)) := gi_r _ [1188, 1190, 64, 90, 1191] (by decide +kernel) (by decide +kernel)
theorem lw_6_302 : GoodIn lw_tbl (lwords 6 302 (0, m_X6_laysAside, 0)) := gi_r _ [1198, 1200, 65, 90, 1201] (by decide +kernel) (by decide +kernel)
theorem lw_6_305 : GoodIn lw_tbl (lwords 6 305 (0, m_X6_owedAll, 0)) := gi_r _ [1202, 1204, 66, 90, 1205] (by decide +kernel) (by decide +kernel)
theorem lw_6_308 : GoodIn lw_tbl (lwords 6 308 (0, m_X6_owedSet, 0)) := gi_r _ [1206, 1208, 67, 90, 1209] (by decide +kernel) (by decide +kernel)
theorem lw_6_311 : GoodIn lw_tbl (lwords 6 311 (0, m_X6_laysBack, 0)) := gi_r _ [1210, 1212, 68, 90, 1213] (by decide +kernel) (by decide +kernel)
theorem lw_6_314 : GoodIn lw_tbl (lwords 6 314 (1, m_X6_both_, 1)) := gi_r _ [847, 848, 90, 849] (by decide +kernel) (by decide +kernel)
theorem lw_6_316 : GoodIn lw_tbl (lwords 6 316 (1, m_X6_greater, 1)) := gi_r _ [1226, 1227, 90, 1228] (by decide +kernel) (by decide +kernel)
theorem lw_6_319 : GoodIn lw_tbl (lwords 6 319 (1, m_X6_lesser, 1)) := gi_r _ [1229, 1230, 90, 1231] (by decide +kernel) (by decide +kernel)
theorem lw_6_322 : GoodIn lw_tbl (lwords 6 322 (0, m_X6_isSet, 1)) := gi_r _ [1222, 1224, 70, 90, 1225] (by decide +kernel) (by decide +kernel)
theorem lw_6_325 : GoodIn lw_tbl (lwords 6 325 (0, m_X6_dancesOf, 1)) := gi_r _ [1232, 1234, 71, 90, 1235] (by decide +kernel) (by decide +kernel)
theorem lw_6_328 : GoodIn lw_tbl (lwords 6 328 (0, m_X6_isPaidBy, 1)) := gi_r _ [1244, 1246, 74, 90, 1247] (by decide +kernel) (by decide +kernel)
theorem lw_6_332 : GoodIn lw_tbl (lwords 6 332 (0, m_X6_ringFrom, 4)) := gi_r _ [1257, 1259, 77, 90, 1260] (by decide +kernel) (by decide +kernel)
theorem lw_6_336 : GoodIn lw_tbl (lwords 6 336 (0, m_X6_bestSet, 1)) := gi_r _ [1218, 1220, 69, 90, 1221] (by decide +kernel) (by decide +kernel)
theorem lw_6_339 : GoodIn lw_tbl (lwords 6 339 (0, m_X6_nextRound, 1)) := gi_r _ [1236, 1238, 72, 90, 1239] (by decide +kernel) (by decide +kernel)
theorem lw_6_342 : GoodIn lw_tbl (lwords 6 342 (0, m_X6_soonest, 0)) := gi_r _ [1240, 1242, 73, 90, 1243] (by decide +kernel) (by decide +kernel)
theorem lw_6_345 : GoodIn lw_tbl (lwords 6 345 (0, m_X6_leastOwed, 0)) := gi_r _ [1248, 1250, 75, 90, 1251] (by decide +kernel) (by decide +kernel)
theorem lw_6_348 : GoodIn lw_tbl (lwords 6 348 (0, m_X6_longestRing, 0)) := gi_r _ [1253, 1255, 76, 90, 1256] (by decide +kernel) (by decide +kernel)
theorem lw_6_351 : GoodIn lw_tbl (lwords 6 351 (0, m_X6_ends, 0)) := gi_r _ [1261, 1263, 78, 90, 1264] (by decide +kernel) (by decide +kernel)
theorem lw_6_354 : GoodIn lw_tbl (lwords 6 354 (0, m_X6_keeper, 0)) := gi_r _ [1265, 1267, 79, 90, 1268] (by decide +kernel) (by decide +kernel)
theorem lw_6_357 : GoodIn lw_tbl (lwords 6 357 (1, m_X6_lowest, 3)) := gi_r _ [1273, 1274, 90, 1275] (by decide +kernel) (by decide +kernel)
theorem lw_6_363 : GoodIn lw_tbl (lwords 6 363 (0, m_X6_firstOther, 2)) := gi_r _ [1285, 1287, 80, 90, 1288] (by decide +kernel) (by decide +kernel)
theorem lw_6_366 : GoodIn lw_tbl (lwords 6 366 (1, m_X6_isSheet, 1)) := gi_r _ [1281, 1282, 90, 1283] (by decide +kernel) (by decide +kernel)
theorem lw_6_369 : GoodIn lw_tbl (lwords 6 369 (0, m_X6_likeSet, 2)) := gi_r _ [1289, 1291, 81, 90, 1292] (by decide +kernel) (by decide +kernel)
theorem lw_6_374 : GoodIn lw_tbl (lwords 6 374 (0, m_X6_sheet, 3)) := gi_r _ [1298, 1299, 1300, 90, 1301] (by decide +kernel) (by decide +kernel)
theorem lw_6_378 : GoodIn lw_tbl (lwords 6 378 (0, m_X6_endsDrawn, 1)) := gi_r _ [1307, 1309, 82, 90, 1310] (by decide +kernel) (by decide +kernel)
theorem lw_6_396 : GoodIn lw_tbl (lwords 6 396 (0, m_X6_dancer, 2)) := gi_r _ [1342, 1120, 1121, 90, 1122] (by decide +kernel) (by decide +kernel)
theorem lw_6_399 : GoodIn lw_tbl (lwords 6 399 (1, m_X6_over, 1)) := gi_r _ [1347, 1348, 90, 1349] (by decide +kernel) (by decide +kernel)
theorem lwA_6 : ∀ q ∈ lnk_6, GoodIn lw_tbl (lwords 6 q.1 q.2) := List.forall_mem_cons.mpr ⟨lw_6_7, List.forall_mem_cons.mpr ⟨lw_6_72, List.forall_mem_cons.mpr ⟨lw_6_76, List.forall_mem_cons.mpr ⟨lw_6_86, List.forall_mem_cons.mpr ⟨lw_6_90, List.forall_mem_cons.mpr ⟨lw_6_93, List.forall_mem_cons.mpr ⟨lw_6_99, List.forall_mem_cons.mpr ⟨lw_6_102, List.forall_mem_cons.mpr ⟨lw_6_106, List.forall_mem_cons.mpr ⟨lw_6_110, List.forall_mem_cons.mpr ⟨lw_6_120, List.forall_mem_cons.mpr ⟨lw_6_132, List.forall_mem_cons.mpr ⟨lw_6_135, List.forall_mem_cons.mpr ⟨lw_6_138, List.forall_mem_cons.mpr ⟨lw_6_141, List.forall_mem_cons.mpr ⟨lw_6_158, List.forall_mem_cons.mpr ⟨lw_6_188, List.forall_mem_cons.mpr ⟨lw_6_194, List.forall_mem_cons.mpr ⟨lw_6_197, List.forall_mem_cons.mpr ⟨lw_6_200, List.forall_mem_cons.mpr ⟨lw_6_222, List.forall_mem_cons.mpr ⟨lw_6_225, List.forall_mem_cons.mpr ⟨lw_6_229, List.forall_mem_cons.mpr ⟨lw_6_233, List.forall_mem_cons.mpr ⟨lw_6_236, List.forall_mem_cons.mpr ⟨lw_6_239, List.forall_mem_cons.mpr ⟨lw_6_244, List.forall_mem_cons.mpr ⟨lw_6_247, List.forall_mem_cons.mpr ⟨lw_6_252, List.forall_mem_cons.mpr ⟨lw_6_255, List.forall_mem_cons.mpr ⟨lw_6_259, List.forall_mem_cons.mpr ⟨lw_6_262, List.forall_mem_cons.mpr ⟨lw_6_266, List.forall_mem_cons.mpr ⟨lw_6_269, List.forall_mem_cons.mpr ⟨lw_6_272, List.forall_mem_cons.mpr ⟨lw_6_277, List.forall_mem_cons.mpr ⟨lw_6_280, List.forall_mem_cons.mpr ⟨lw_6_283, List.forall_mem_cons.mpr ⟨lw_6_287, List.forall_mem_cons.mpr ⟨lw_6_293, List.forall_mem_cons.mpr ⟨lw_6_297, List.forall_mem_cons.mpr ⟨lw_6_302, List.forall_mem_cons.mpr ⟨lw_6_305, List.forall_mem_cons.mpr ⟨lw_6_308, List.forall_mem_cons.mpr ⟨lw_6_311, List.forall_mem_cons.mpr ⟨lw_6_314, List.forall_mem_cons.mpr ⟨lw_6_316, List.forall_mem_cons.mpr ⟨lw_6_319, List.forall_mem_cons.mpr ⟨lw_6_322, List.forall_mem_cons.mpr ⟨lw_6_325, List.forall_mem_cons.mpr ⟨lw_6_328, List.forall_mem_cons.mpr ⟨lw_6_332, List.forall_mem_cons.mpr ⟨lw_6_336, List.forall_mem_cons.mpr ⟨lw_6_339, List.forall_mem_cons.mpr ⟨lw_6_342, List.forall_mem_cons.mpr ⟨lw_6_345, List.forall_mem_cons.mpr ⟨lw_6_348, List.forall_mem_cons.mpr ⟨lw_6_351, List.forall_mem_cons.mpr ⟨lw_6_354, List.forall_mem_cons.mpr ⟨lw_6_357, List.forall_mem_cons.mpr ⟨lw_6_363, List.forall_mem_cons.mpr ⟨lw_6_366, List.forall_mem_cons.mpr ⟨lw_6_369, List.forall_mem_cons.mpr ⟨lw_6_374, List.forall_mem_cons.mpr ⟨lw_6_378, List.forall_mem_cons.mpr ⟨lw_6_396, List.forall_mem_cons.mpr ⟨lw_6_399, fun _ h => absurd h List.not_mem_nil⟩⟩⟩⟩⟩⟩⟩⟩⟩⟩⟩⟩⟩⟩⟩⟩⟩⟩⟩⟩⟩⟩⟩⟩⟩⟩⟩⟩⟩⟩⟩⟩⟩⟩⟩⟩⟩⟩⟩⟩⟩⟩⟩⟩⟩⟩⟩⟩⟩⟩⟩⟩⟩⟩⟩⟩⟩⟩⟩⟩⟩⟩⟩⟩⟩⟩⟩
theorem lw_7_9 : GoodIn lw_tbl (lwords 7 9 (2, m_X5_init, 0)) := gi_r _ [100, 101, 84, 102] (by decide +kernel) (by decide +kernel)
theorem lw_7_12 : GoodIn lw_tbl (lwords 7 12 (2, m_X6_init, 0)) := gi_r _ [840, 841, 90, 842] (by decide +kernel) (by decide +kernel)
theorem lw_7_13 : GoodIn lw_tbl (lwords 7 13 (0, m_X5_set, 3)) := gi_r _ [288, 289, 290, 84, 291] (by decide +kernel) (by decide +kernel)
theorem lw_7_17 : GoodIn lw_tbl (lwords 7 17 (0, m_X6_set, 3)) := gi_r _ [990, 991, 992, 90, 993] (by decide +kernel) (by decide +kernel)
theorem lw_7_18 : GoodIn lw_tbl (lwords 7 18 (0, m_X5_dancer, 2)) := gi_r _ [334, 335, 336, 84, 337] (by decide +kernel) (by decide +kernel)
theorem lw_7_22 : GoodIn lw_tbl (lwords 7 22 (0, m_X6_dancer, 2)) := gi_r _ [1119, 1120, 1121, 90, 1122] (by decide +kernel) (by decide +kernel)
theorem lw_7_23 : GoodIn lw_tbl (lwords 7 23 (0, m_X5_told, 2)) := gi_r _ [342, 295, 296, 84, 297] (by decide +kernel) (by decide +kernel)
theorem lw_7_26 : GoodIn lw_tbl (lwords 7 26 (0, m_X6_told, 2)) := gi_r _ [1125, 1014, 1015, 90, 1016] (by decide +kernel) (by decide +kernel)
theorem lw_7_27 : GoodIn lw_tbl (lwords 7 27 (0, m_X5_asks, 3)) := gi_r _ [343, 344, 345, 84, 346] (by decide +kernel) (by decide +kernel)
theorem lw_7_30 : GoodIn lw_tbl (lwords 7 30 (0, m_X6_asks, 3)) := gi_r _ [1139, 1140, 1141, 90, 1142] (by decide +kernel) (by decide +kernel)
theorem lw_7_31 : GoodIn lw_tbl (lwords 7 31 (0, m_X5_feed, 1)) := gi_r _ [366, 367, 368, 84, 369] (by decide +kernel) (by decide +kernel)
theorem lw_7_35 : GoodIn lw_tbl (lwords 7 35 (0, m_X6_feed, 1)) := gi_r _ [1126, 1127, 1128, 90, 1129] (by decide +kernel) (by decide +kernel)
theorem lw_7_36 : GoodIn lw_tbl (lwords 7 36 (0, m_X5_text, 0)) := gi_r _ [374, 375, 376, 84, 377] (by decide +kernel) (by decide +kernel)
theorem lw_7_40 : GoodIn lw_tbl (lwords 7 40 (0, m_X6_text, 0)) := gi_r _ [1131, 1132, 1133, 90, 1134] (by decide +kernel) (by decide +kernel)
theorem lw_7_41 : GoodIn lw_tbl (lwords 7 41 (0, m_X5_force, 1)) := gi_r _ [581, 582, 583, 84, 584] (by decide +kernel) (by decide +kernel)
theorem lw_7_44 : GoodIn lw_tbl (lwords 7 44 (0, m_X6_force, 1)) := gi_r _ [1135, 1136, 1137, 90, 1138] (by decide +kernel) (by decide +kernel)
theorem lw_7_45 : GoodIn lw_tbl (lwords 7 45 (0, m_X5_dance, 2)) := gi_r _ [585, 586, 587, 84, 588] (by decide +kernel) (by decide +kernel)
theorem lw_7_48 : GoodIn lw_tbl (lwords 7 48 (0, m_X6_dance, 2)) := gi_r _ [1160, 1161, 1162, 90, 1163] (by decide +kernel) (by decide +kernel)
theorem lw_7_49 : GoodIn lw_tbl (lwords 7 49 (0, m_X5_round, 0)) := gi_r _ [603, 604, 605, 84, 606] (by decide +kernel) (by decide +kernel)
theorem lw_7_52 : GoodIn lw_tbl (lwords 7 52 (0, m_X6_round, 0)) := gi_r _ [1172, 1173, 1174, 90, 1175] (by decide +kernel) (by decide +kernel)
theorem lw_7_53 : GoodIn lw_tbl (lwords 7 53 (0, m_X5_night, 0)) := gi_r _ [615, 616, 617, 84, 618] (by decide +kernel) (by decide +kernel)
theorem lw_7_56 : GoodIn lw_tbl (lwords 7 56 (0, m_X6_night, 0)) := gi_r _ [1180, 1181, 1182, 90, 1183] (by decide +kernel) (by decide +kernel)
theorem lw_7_57 : GoodIn lw_tbl (lwords 7 57 (0, m_X5_strike, 1)) := gi_r _ [623, 624, 625, 84, 626] (by decide +kernel) (by decide +kernel)
theorem lw_7_60 : GoodIn lw_tbl (lwords 7 60 (0, m_X6_strike, 1)) := gi_r _ [1184, 1185, 1186, 90, 1187] (by decide +kernel) (by decide +kernel)
theorem lw_7_61 : GoodIn lw_tbl (lwords 7 61 (0, m_X5_run, 4)) := gi_r _ [633, 634, 635, 84, 636] (by decide +kernel) (by decide +kernel)
theorem lw_7_65 : GoodIn lw_tbl (lwords 7 65 (0, m_X6_run, 4)) := gi_r _ [1193, 1194, 1195, 90, 1196] (by decide +kernel) (by decide +kernel)
theorem lw_7_66 : GoodIn lw_tbl (lwords 7 66 (0, m_X5_best, 1)) := gi_r _ [655, 656, 657, 84, 658] (by decide +kernel) (by decide +kernel)
theorem lw_7_69 : GoodIn lw_tbl (lwords 7 69 (0, m_X6_best, 1)) := gi_r _ [1214, 1215, 1216, 90, 1217] (by decide +kernel) (by decide +kernel)
theorem lw_7_70 : GoodIn lw_tbl (lwords 7 70 (0, m_X5_share, 2)) := gi_r _ [722, 723, 724, 84, 725] (by decide +kernel) (by decide +kernel)
theorem lw_7_74 : GoodIn lw_tbl (lwords 7 74 (0, m_X6_share, 2)) := gi_r _ [1269, 1270, 1271, 90, 1272] (by decide +kernel) (by decide +kernel)
theorem lw_7_75 : GoodIn lw_tbl (lwords 7 75 (0, m_X5_tells, 4)) := gi_r _ [730, 731, 732, 84, 733] (by decide +kernel) (by decide +kernel)
theorem lw_7_78 : GoodIn lw_tbl (lwords 7 78 (0, m_X6_tells, 4)) := gi_r _ [1277, 1278, 1279, 90, 1280] (by decide +kernel) (by decide +kernel)
theorem lw_7_79 : GoodIn lw_tbl (lwords 7 79 (0, m_X5_film, 4)) := gi_r _ [770, 771, 772, 84, 773] (by decide +kernel) (by decide +kernel)
theorem lw_7_82 : GoodIn lw_tbl (lwords 7 82 (0, m_X6_film, 4)) := gi_r _ [1293, 1294, 1295, 90, 1296] (by decide +kernel) (by decide +kernel)
theorem lw_7_83 : GoodIn lw_tbl (lwords 7 83 (0, m_X5_drawn, 1)) := gi_r _ [782, 783, 784, 84, 785] (by decide +kernel) (by decide +kernel)
theorem lw_7_86 : GoodIn lw_tbl (lwords 7 86 (0, m_X6_drawn, 1)) := gi_r _ [1303, 1304, 1305, 90, 1306] (by decide +kernel) (by decide +kernel)
theorem lw_7_87 : GoodIn lw_tbl (lwords 7 87 (0, m_X5_chance, 4)) := gi_r _ [791, 792, 793, 84, 794] (by decide +kernel) (by decide +kernel)
theorem lw_7_91 : GoodIn lw_tbl (lwords 7 91 (0, m_X6_chance, 4)) := gi_r _ [1312, 1313, 1314, 90, 1315] (by decide +kernel) (by decide +kernel)
theorem lw_7_92 : GoodIn lw_tbl (lwords 7 92 (0, m_X5_image, 0)) := gi_r _ [795, 796, 797, 84, 798] (by decide +kernel) (by decide +kernel)
theorem lw_7_95 : GoodIn lw_tbl (lwords 7 95 (0, m_X6_image, 0)) := gi_r _ [1317, 1318, 1319, 90, 1320] (by decide +kernel) (by decide +kernel)
theorem lw_7_96 : GoodIn lw_tbl (lwords 7 96 (0, m_X5_back, 0)) := gi_r _ [799, 800, 801, 84, 802] (by decide +kernel) (by decide +kernel)
theorem lw_7_99 : GoodIn lw_tbl (lwords 7 99 (0, m_X6_back, 0)) := gi_r _ [1321, 1322, 1323, 90, 1324] (by decide +kernel) (by decide +kernel)
theorem lw_7_100 : GoodIn lw_tbl (lwords 7 100 (0, m_X5_count, 1)) := gi_r _ [803, 804, 805, 84, 806] (by decide +kernel) (by decide +kernel)
theorem lw_7_103 : GoodIn lw_tbl (lwords 7 103 (0, m_X6_count, 1)) := gi_r _ [1325, 1326, 1327, 90, 1328] (by decide +kernel) (by decide +kernel)
theorem lw_7_104 : GoodIn lw_tbl (lwords 7 104 (0, m_X5_sheet, 3)) := gi_r _ [807, 808, 809, 84, 810] (by decide +kernel) (by decide +kernel)
theorem lw_7_107 : GoodIn lw_tbl (lwords 7 107 (0, m_X6_sheet, 3)) := gi_r _ [1329, 1299, 1300, 90, 1301] (by decide +kernel) (by decide +kernel)
theorem lw_7_108 : GoodIn lw_tbl (lwords 7 108 (0, m_X5_cell, 3)) := gi_r _ [814, 815, 816, 84, 817] (by decide +kernel) (by decide +kernel)
theorem lw_7_111 : GoodIn lw_tbl (lwords 7 111 (0, m_X6_cell, 3)) := gi_r _ [1330, 1331, 1332, 90, 1333] (by decide +kernel) (by decide +kernel)
theorem lw_7_112 : GoodIn lw_tbl (lwords 7 112 (0, m_X5_copy, 5)) := gi_r _ [822, 823, 824, 84, 825] (by decide +kernel) (by decide +kernel)
theorem lw_7_116 : GoodIn lw_tbl (lwords 7 116 (0, m_X6_copy, 5)) := gi_r _ [1334, 1335, 1336, 90, 1337] (by decide +kernel) (by decide +kernel)
theorem lw_7_117 : GoodIn lw_tbl (lwords 7 117 (0, m_X5_room, 4)) := gi_r _ [827, 828, 829, 84, 830] (by decide +kernel) (by decide +kernel)
theorem lw_7_120 : GoodIn lw_tbl (lwords 7 120 (0, m_X6_room, 4)) := gi_r _ [1338, 1339, 1340, 90, 1341] (by decide +kernel) (by decide +kernel)
theorem lw_7_121 : GoodIn lw_tbl (lwords 7 121 (0, m_X5_taken, 2)) := gi_r _ [832, 833, 834, 84, 835] (by decide +kernel) (by decide +kernel)
theorem lw_7_124 : GoodIn lw_tbl (lwords 7 124 (0, m_X6_taken, 2)) := gi_r _ [1343, 1344, 1345, 90, 1346] (by decide +kernel) (by decide +kernel)
theorem lwA_7 : ∀ q ∈ lnk_7, GoodIn lw_tbl (lwords 7 q.1 q.2) := List.forall_mem_cons.mpr ⟨lw_7_9, List.forall_mem_cons.mpr ⟨lw_7_12, List.forall_mem_cons.mpr ⟨lw_7_13, List.forall_mem_cons.mpr ⟨lw_7_17, List.forall_mem_cons.mpr ⟨lw_7_18, List.forall_mem_cons.mpr ⟨lw_7_22, List.forall_mem_cons.mpr ⟨lw_7_23, List.forall_mem_cons.mpr ⟨lw_7_26, List.forall_mem_cons.mpr ⟨lw_7_27, List.forall_mem_cons.mpr ⟨lw_7_30, List.forall_mem_cons.mpr ⟨lw_7_31, List.forall_mem_cons.mpr ⟨lw_7_35, List.forall_mem_cons.mpr ⟨lw_7_36, List.forall_mem_cons.mpr ⟨lw_7_40, List.forall_mem_cons.mpr ⟨lw_7_41, List.forall_mem_cons.mpr ⟨lw_7_44, List.forall_mem_cons.mpr ⟨lw_7_45, List.forall_mem_cons.mpr ⟨lw_7_48, List.forall_mem_cons.mpr ⟨lw_7_49, List.forall_mem_cons.mpr ⟨lw_7_52, List.forall_mem_cons.mpr ⟨lw_7_53, List.forall_mem_cons.mpr ⟨lw_7_56, List.forall_mem_cons.mpr ⟨lw_7_57, List.forall_mem_cons.mpr ⟨lw_7_60, List.forall_mem_cons.mpr ⟨lw_7_61, List.forall_mem_cons.mpr ⟨lw_7_65, List.forall_mem_cons.mpr ⟨lw_7_66, List.forall_mem_cons.mpr ⟨lw_7_69, List.forall_mem_cons.mpr ⟨lw_7_70, List.forall_mem_cons.mpr ⟨lw_7_74, List.forall_mem_cons.mpr ⟨lw_7_75, List.forall_mem_cons.mpr ⟨lw_7_78, List.forall_mem_cons.mpr ⟨lw_7_79, List.forall_mem_cons.mpr ⟨lw_7_82, List.forall_mem_cons.mpr ⟨lw_7_83, List.forall_mem_cons.mpr ⟨lw_7_86, List.forall_mem_cons.mpr ⟨lw_7_87, List.forall_mem_cons.mpr ⟨lw_7_91, List.forall_mem_cons.mpr ⟨lw_7_92, List.forall_mem_cons.mpr ⟨lw_7_95, List.forall_mem_cons.mpr ⟨lw_7_96, List.forall_mem_cons.mpr ⟨lw_7_99, List.forall_mem_cons.mpr ⟨lw_7_100, List.forall_mem_cons.mpr ⟨lw_7_103, List.forall_mem_cons.mpr ⟨lw_7_104, List.forall_mem_cons.mpr ⟨lw_7_107, List.forall_mem_cons.mpr ⟨lw_7_108, List.forall_mem_cons.mpr ⟨lw_7_111, List.forall_mem_cons.mpr ⟨lw_7_112, List.forall_mem_cons.mpr ⟨lw_7_116, List.forall_mem_cons.mpr ⟨lw_7_117, List.forall_mem_cons.mpr ⟨lw_7_120, List.forall_mem_cons.mpr ⟨lw_7_121, List.forall_mem_cons.mpr ⟨lw_7_124, fun _ h => absurd h List.not_mem_nil⟩⟩⟩⟩⟩⟩⟩⟩⟩⟩⟩⟩⟩⟩⟩⟩⟩⟩⟩⟩⟩⟩⟩⟩⟩⟩⟩⟩⟩⟩⟩⟩⟩⟩⟩⟩⟩⟩⟩⟩⟩⟩⟩⟩⟩⟩⟩⟩⟩⟩⟩⟩⟩⟩
def fwords (own idx : Nat) (e : Nat × Nat × Nat × Bool) : List Cond := match nth vwCl e.1 with
  | none => []
  | some q => [.fieldLink (own8 own) idx (q.2.1 e.2.1).1 (q.2.1 e.2.1).2.1 (q.2.1 e.2.1).2.2.1]
set_option maxRecDepth 100000 in
theorem fW_ok : GoodIn lw_tbl (allT fldT fwords) := gi_r _ [161, 163, 165, 167, 172, 173, 152, 153, 155, 157, 159, 133, 169, 171, 252, 254, 208, 211, 213, 209, 212, 214, 219, 215, 216, 218, 129, 132, 134, 130, 122, 120, 248, 253, 250, 119, 121, 263, 264, 265, 266, 267, 268, 270, 156, 158, 164, 166, 168, 154, 162, 210, 131, 217, 160, 170, 249, 251, 269, 255, 854, 855, 858, 862, 863, 864, 866, 883, 884, 885, 886, 887, 888, 889, 890, 894, 895, 896, 897, 856, 865, 860, 861, 857, 859, 874, 873, 875, 877, 876, 878, 880, 881, 879, 867, 868, 869, 870, 871, 872, 882, 891, 892, 893] (by decide +kernel) (by decide +kernel)
def cwords (own idx : Nat) (ci : Nat) : List Cond := match nth vwCl ci with
  | none => [.classLink (own8 own) idx "[I"]
  | some q => [.classLink (own8 own) idx q.1, .instantiable q.1 q.2.2, .initialized q.1]
set_option maxRecDepth 100000 in
theorem cW_ok : GoodIn lw_tbl (allT clkT cwords) := gi_r _ [567, 114, 86, 574, 112, 114, 86, 106, 107, 85, 144, 145, 87, 202, 203, 88, 241, 243, 89, 98, 99, 84, 838, 839, 90] (by decide +kernel) (by decide +kernel)
def lcwords (own idx : Nat) (v : Int64) : List Cond := [.constantLong (own8 own) idx v]
set_option maxRecDepth 100000 in
theorem lcW_ok : GoodIn lw_tbl (allT lckT lcwords) := gi_r _ [726, 994, 1017, 1049, 1050, 1051, 1052, 1053, 1106, 1107, 1123, 1124, 1143, 1130, 1197, 1276, 1284, 1297, 1302, 1316] (by decide +kernel) (by decide +kernel)
def icwords (own idx : Nat) (v : Int32) : List Cond := [.constant (own8 own) idx v]
set_option maxRecDepth 100000 in
theorem icW_ok : GoodIn lw_tbl (allT ickT icwords) := gi_r _ [790, 1192, 1252, 1311] (by decide +kernel) (by decide +kernel)
def sfwords (own idx : Nat) (j : Nat) : List Cond := if own = 5 then [.fieldLink RX5 idx RX5 (stN j) "[I"] else []
set_option maxRecDepth 100000 in
theorem sfW_ok : GoodIn lw_tbl (allT sflT sfwords) := gi_r _ [292, 695, 836] (by decide +kernel) (by decide +kernel)
theorem uW_0 : GoodIn lw_tbl wsX00 := gi_r _ [174, 176, 178, 180, 182, 184, 186, 188, 190, 192, 194, 196, 198] (by decide +kernel) (by decide +kernel)
theorem uW_1 : GoodIn lw_tbl wsX10 := gi_r _ [220, 222, 224, 226, 228, 230, 232, 234, 236, 238] (by decide +kernel) (by decide +kernel)
theorem uW_2 : GoodIn lw_tbl wsX20 := gi_r _ [135, 137, 139, 141] (by decide +kernel) (by decide +kernel)
theorem uW_3 : GoodIn lw_tbl wsX30 := gi_r _ [256, 258, 260] (by decide +kernel) (by decide +kernel)
theorem uW_4 : GoodIn lw_tbl wsX40 := gi_r _ [123, 125] (by decide +kernel) (by decide +kernel)
theorem uW_5 : GoodIn lw_tbl wsX50 := gi_r _ [271, 273, 275, 277, 279, 281, 283, 285] (by decide +kernel) (by decide +kernel)
theorem uW_6 : GoodIn lw_tbl wsX60 := gi_r _ [898, 900, 902, 904, 906, 908, 910, 912, 914, 916, 918, 920, 922, 924, 926, 928, 930, 932, 934, 936, 938, 940, 942, 944, 946, 948, 950, 952, 954, 956, 958, 960, 962, 964, 966, 968, 970, 972, 974, 976, 978, 980, 982, 984, 986] (by decide +kernel) (by decide +kernel)
theorem aW_ok : GoodIn lw_tbl [.arrayClass .int, .arrayClass .boolean] := gi_r _ [128, 989] (by decide +kernel) (by decide +kernel)
/-- the words that every method is given: all good ones of the tables -/
def goodB (w : Cond) : Bool := match w with
  | .code .. => true
  | w => goodWord w
def ALLW : List Cond := lw_tbl.filter goodWord
theorem ALLW_good {big : List Cond} (h : ∀ w ∈ ALLW, w ∈ big) : GoodIn big ALLW := fun w hw => ⟨h w hw, good_of_word (List.mem_filter.mp hw).2⟩
theorem ALLW_in {ws : List Cond} (h : GoodIn lw_tbl ws) (hg : ws.all goodWord = true) : ∀ w ∈ ws, w ∈ ALLW := fun w hw => List.mem_filter.mpr ⟨(h w hw).1, List.all_eq_true.mp hg w hw⟩
theorem lwW {own idx : Nat} {e : LK} (h : lnk own idx = some e) : GoodIn lw_tbl (lwords own idx e) := by
  unfold lnk at h
  split at h
  · cases h
  · rename_i l hl
    have hm := lkp_mem l idx e h
    match own, hl with
    | 0, hl => cases hl; exact lwA_0 _ hm
    | 1, hl => cases hl; exact lwA_1 _ hm
    | 2, hl => cases hl; exact lwA_2 _ hm
    | 3, hl => cases hl; exact lwA_3 _ hm
    | 4, hl => cases hl; exact lwA_4 _ hm
    | 5, hl => cases hl; exact lwA_5 _ hm
    | 6, hl => cases hl; exact lwA_6 _ hm
    | 7, hl => cases hl; exact lwA_7 _ hm
    | n + 8, hl => simp [lnkT, nth] at hl
end
section
/-! THE TABLES ARE WHAT THE BYTES SAY -/
def ckI (i : Instr) (pc t : Nat) (c : Int32) (sw : List (Int32 × Nat)) : Bool := match i with
  | .iconst v => decide (Int32.ofInt v = c)
  | .bipush v => decide ((Int8.ofInt v).toInt32 = c)
  | .sipush v => decide ((Int16.ofInt v).toInt32 = c)
  | .iinc _ v => decide (Int32.ofInt v = c)
  | .ifCond _ o => decide ((pc : Int) + o = (t : Int))
  | .if_icmp _ o => decide ((pc : Int) + o = (t : Int))
  | .goto o => decide ((pc : Int) + o = (t : Int))
  | .ifnonnull o => decide ((pc : Int) + o = (t : Int))
  | .tableswitch d lo hi offs => decide ((pc : Int) + d = (t : Int)) && decide (hi - lo + 1 = (sw.length : Int)) && decide (offs.size = sw.length) && decide (0 ≤ lo) && decide (hi < 1000)
      && (List.range sw.length).all fun k => match nth sw k, offs[k]? with
        | some q, some o => decide (q.1 = Int32.ofInt (lo + k)) && decide ((pc : Int) + o = (q.2 : Int))
        | _, _ => false
  | .lookupswitch d ps => decide ((pc : Int) + d = (t : Int)) && (ps.toList.zip (ps.toList.drop 1)).all (fun (a, next) => a.1 < next.1) && decide (ps.toList.length = sw.length)
      && (List.range sw.length).all fun k => match nth sw k, ps.toList[k]? with
        | some q, some o => decide (q.1 = Int32.ofInt o.1) && decide ((pc : Int) + o.2 = (q.2 : Int)) && decide (0 ≤ o.1) && decide (o.1 < 100000)
        | _, _ => false
  | _ => true
/-- how long an instruction is (0: a switch) -/
def lenI (i : Instr) : Nat := match i with
  | .tableswitch _ _ _ _ => 0
  | .lookupswitch _ _ => 0
  | .bipush _ => 2 | .ldc _ => 2 | .iload _ => 2 | .lload _ => 2 | .aload _ => 2 | .istore _ => 2 | .lstore _ => 2 | .astore _ => 2 | .newarray _ => 2
  | .sipush _ => 3 | .ldc_w _ => 3 | .ldc2_w _ => 3 | .iinc _ _ => 3 | .ifCond _ _ => 3 | .if_icmp _ _ => 3 | .goto _ => 3 | .ifnonnull _ => 3 | .getfield _ => 3 | .putfield _ => 3 | .getstatic _ => 3 | .anewarray _ => 3 | .new _ => 3 | .checkcast _ => 3 | .invokevirtual _ => 3 | .invokestatic _ => 3 | .invokespecial _ => 3
  | _ => 1
/-- a store goes to a local that there is -/
def locI (i : Instr) (nL : Nat) : Bool := match i with
  | .istore k => Nat.ble (k + 1) nL
  | .istore_n k => Nat.ble (k.val + 1) nL
  | .astore k => Nat.ble (k + 1) nL
  | .astore_n k => Nat.ble (k.val + 1) nL
  | .lstore k => Nat.ble (k + 2) nL
  | .lstore_n k => Nat.ble (k.val + 2) nL
  | .iinc k _ => Nat.ble (k + 1) nL
  | _ => true
def ckE (Y : MT) (pc : Nat) : Bool := match codeAt Y pc with
  | none => true
  | some (i, n, t, c, sw) => decide (decode Y.2.2.1 pc = .ok (i, n - pc)) && Nat.ble pc n && ckI i pc t c sw && (Nat.beq (lenI i) 0 || Nat.beq n (pc + lenI i)) && locI i Y.2.2.2.1
/-- a method's table -/
def ckM (Y : MT) : Bool := (List.range (16 * Y.1.1.length)).all (ckE Y)
theorem ckM_at {Y : MT} (h : ckM Y = true) {pc : Nat} {i : Instr} {n t : Nat} {c : Int32} {sw : List (Int32 × Nat)} (hc : codeAt Y pc = some (i, n, t, c, sw)) : decode Y.2.2.1 pc = .ok (i, n - pc) ∧ pc ≤ n ∧ ckI i pc t c sw = true ∧ (lenI i = 0 ∨ n = pc + lenI i) ∧ locI i Y.2.2.2.1 = true := by
  have hl : pc < 16 * Y.1.1.length := by
    rcases Nat.lt_or_ge (pc / 16) Y.1.1.length with g | g
    · omega
    · rw [codeAt, nth_get, List.getElem?_eq_none g] at hc
      cases hc
  have h1 := List.all_eq_true.mp h pc (List.mem_range.mpr hl)
  simp only [ckE, hc, Bool.and_eq_true, decide_eq_true_eq] at h1
  refine ⟨h1.1.1.1.1, Nat.le_of_ble_eq_true h1.1.1.1.2, h1.1.1.2, ?_, h1.2⟩
  rcases Bool.or_eq_true _ _ ▸ h1.1.2 with z | z
  · exact Or.inl (Nat.eq_of_beq_eq_true z)
  · exact Or.inr (Nat.eq_of_beq_eq_true z)
/-- a method's place among the others: its class, its type, its name -/
def rkOf (ret : Option FieldType) : Nat := match ret with
  | none => 0
  | some .int => 1
  | some .long => 2
  | some .boolean => 4
  | some (.object _) => 3
  | _ => 9
def ckN (Y : MT) : Bool := decide (Y.2.1.cls = own8 Y.1.2.1) && plainName Y.2.1.cls && decide (Y.2.1.cls ≠ "java/lang/invoke/MethodHandle") && decide (Y.2.1.cls ≠ "java/lang/invoke/VarHandle") && decide (rkOf Y.2.2.2.2 = Y.1.2.2.2.2) && Nat.ble Y.2.2.2.1 40
def ckL (own : Nat) (e : LK) : Bool := match e.1 with
  | 0 => ckN e.2.1 && decide ((parseMethodDescriptor e.2.1.2.1.desc).map (fun d => d.parameters.length) = some e.2.2)
  | 1 => ckN e.2.1 && decide ((parseMethodDescriptor e.2.1.2.1.desc).map (fun d => d.parameters.length) = some e.2.2) && decide (e.2.1.2.1.cls = own8 own)
  | 2 => ckN e.2.1 && decide ((parseMethodDescriptor e.2.1.2.1.desc).map (fun d => d.parameters.length) = some e.2.2) && decide (e.2.1.2.1.name = "<init>") && decide (e.2.1.2.2.2.2 = none)
  | 11 => ckN e.2.1 && decide ((parseMethodDescriptor e.2.1.2.1.desc).map (fun d => d.parameters.length) = some e.2.2) && decide (e.2.1.2.1 = yX5_within) && Nat.beq own 0
  | 12 => ckN e.2.1 && decide ((parseMethodDescriptor e.2.1.2.1.desc).map (fun d => d.parameters.length) = some e.2.2) && decide (e.2.1.2.1.name = "<init>") && decide (e.2.1.2.2.2.2 = none) && Nat.beq own 5
  | _ => true
set_option maxRecDepth 100000 in
theorem ckL_ok : ((enum lnkT 0).all fun q => q.2.all fun e => ckL q.1 e.2) = true := by decide +kernel
/-- the nest's links, by their places -/
theorem ckNest : lkp lnk_0 72 = some (11, m_X5_within, 2) ∧ (lnk_0.all fun e => cond (Nat.beq e.2.1 11) (Nat.beq e.1 72) true) = true ∧ (lnk_5.all fun e => cond (Nat.beq e.2.1 12) ((Nat.beq e.1 34 && decide (e.2.2.1.2.1 = yX1_init)) || (Nat.beq e.1 41 && decide (e.2.2.1.2.1 = yX3_init))) true) = true := by decide +kernel
def ckF (own : Nat) (e : Nat × Nat × Nat × Bool) : Bool := match nth vwCl e.1 with
  | none => false
  | some q => Nat.ble (e.2.1 + 1) q.2.2 && decide (fty e.1 e.2.1 = e.2.2.1) && decide ((q.2.1 e.2.1).2.2.2 = e.2.2.2) && (!e.2.2.2 || decide ((q.2.1 e.2.1).1 = own8 own)) && Nat.ble e.1 6
theorem ckF_ok : ((enum fldT 0).all fun q => q.2.all fun e => ckF q.1 e.2) = true := by decide +kernel
def ckS (own idx j : Nat) : Bool := Nat.ble 61 j && Nat.ble j 65 && ((Nat.beq own 5) || (Nat.beq own 0 && ((Nat.beq idx 24 && Nat.beq j 61) || (Nat.beq idx 107 && Nat.beq j 62) || (Nat.beq idx 131 && Nat.beq j 63))))
theorem ckS_ok : ((enum sflT 0).all fun q => q.2.all fun e => ckS q.1 e.1 e.2) = true := by decide +kernel
theorem enum_all {α : Type} {T : List (List (Nat × α))} {f : Nat → Nat → α → Bool} (h : ((enum T 0).all fun q => q.2.all fun e => f q.1 e.1 e.2) = true) {own idx : Nat} {l : List (Nat × α)} {e : α} (h1 : nth T own = some l) (h2 : lkp l idx = some e) : f own idx e = true := by
  have a := enum_nth T 0 own l h1
  have b := List.all_eq_true.mp h _ a
  have c := List.all_eq_true.mp b (idx, e) (lkp_mem l idx e h2)
  simpa using c

set_option maxRecDepth 100000 in
theorem ck_X0_init : ckM m_X0_init = true := by decide +kernel
set_option maxRecDepth 100000 in
theorem ck_X0_takeFrom : ckM m_X0_takeFrom = true := by decide +kernel
set_option maxRecDepth 100000 in
theorem ck_X0_join : ckM m_X0_join = true := by decide +kernel
set_option maxRecDepth 100000 in
theorem ck_X0_owing : ckM m_X0_owing = true := by decide +kernel
set_option maxRecDepth 100000 in
theorem ck_X0_owes : ckM m_X0_owes = true := by decide +kernel
set_option maxRecDepth 100000 in
theorem ck_X0_owedTo : ckM m_X0_owedTo = true := by decide +kernel
set_option maxRecDepth 100000 in
theorem ck_X0_all : ckM m_X0_all = true := by decide +kernel
set_option maxRecDepth 100000 in
theorem ck_X0_value : ckM m_X0_value = true := by decide +kernel
set_option maxRecDepth 100000 in
theorem ck_X0_pays : ckM m_X0_pays = true := by decide +kernel
set_option maxRecDepth 100000 in
theorem ck_X0_will : ckM m_X0_will = true := by decide +kernel
set_option maxRecDepth 100000 in
theorem ck_X0_breath : ckM m_X0_breath = true := by decide +kernel
set_option maxRecDepth 100000 in
theorem ck_X0_may : ckM m_X0_may = true := by decide +kernel
set_option maxRecDepth 100000 in
theorem ck_X0_step : ckM m_X0_step = true := by decide +kernel
set_option maxRecDepth 100000 in
theorem ck_X0_lessen : ckM m_X0_lessen = true := by decide +kernel
set_option maxRecDepth 100000 in
theorem ck_X0_settle : ckM m_X0_settle = true := by decide +kernel
set_option maxRecDepth 100000 in
theorem ck_X0_danceRound : ckM m_X0_danceRound = true := by decide +kernel
set_option maxRecDepth 100000 in
theorem ck_X0_endNight : ckM m_X0_endNight = true := by decide +kernel
set_option maxRecDepth 100000 in
theorem ck_X0_ends : ckM m_X0_ends = true := by decide +kernel
set_option maxRecDepth 100000 in
theorem ck_X0_draw : ckM m_X0_draw = true := by decide +kernel
set_option maxRecDepth 100000 in
theorem ck_X0_stillOwed : ckM m_X0_stillOwed = true := by decide +kernel
set_option maxRecDepth 100000 in
theorem ck_X0_keeps : ckM m_X0_keeps = true := by decide +kernel
set_option maxRecDepth 100000 in
theorem ck_X0_least : ckM m_X0_least = true := by decide +kernel
set_option maxRecDepth 100000 in
theorem ck_X0_ring : ckM m_X0_ring = true := by decide +kernel
set_option maxRecDepth 100000 in
theorem ck_X0_longest : ckM m_X0_longest = true := by decide +kernel
set_option maxRecDepth 100000 in
theorem ck_X0_mostToMeet : ckM m_X0_mostToMeet = true := by decide +kernel
set_option maxRecDepth 100000 in
theorem ck_X0_weigh : ckM m_X0_weigh = true := by decide +kernel
set_option maxRecDepth 100000 in
theorem ck_X0_mayAll : ckM m_X0_mayAll = true := by decide +kernel
set_option maxRecDepth 100000 in
theorem ck_X0_paidBy : ckM m_X0_paidBy = true := by decide +kernel
set_option maxRecDepth 100000 in
theorem ck_X0_bestSet : ckM m_X0_bestSet = true := by decide +kernel
set_option maxRecDepth 100000 in
theorem ck_X0_danceSet : ckM m_X0_danceSet = true := by decide +kernel
set_option maxRecDepth 100000 in
theorem ck_X0_firstOtherwise : ckM m_X0_firstOtherwise = true := by decide +kernel
set_option maxRecDepth 100000 in
theorem ck_X0_paysAs : ckM m_X0_paysAs = true := by decide +kernel
set_option maxRecDepth 100000 in
theorem ck_X1_init : ckM m_X1_init = true := by decide +kernel
set_option maxRecDepth 100000 in
theorem ck_X1_hold : ckM m_X1_hold = true := by decide +kernel
set_option maxRecDepth 100000 in
theorem ck_X1_read : ckM m_X1_read = true := by decide +kernel
set_option maxRecDepth 100000 in
theorem ck_X1_pass : ckM m_X1_pass = true := by decide +kernel
set_option maxRecDepth 100000 in
theorem ck_X1_put : ckM m_X1_put = true := by decide +kernel
set_option maxRecDepth 100000 in
theorem ck_X1_either : ckM m_X1_either = true := by decide +kernel
set_option maxRecDepth 100000 in
theorem ck_X1_both : ckM m_X1_both = true := by decide +kernel
set_option maxRecDepth 100000 in
theorem ck_X1_denied : ckM m_X1_denied = true := by decide +kernel
set_option maxRecDepth 100000 in
theorem ck_X1_compared : ckM m_X1_compared = true := by decide +kernel
set_option maxRecDepth 100000 in
theorem ck_X1_sum : ckM m_X1_sum = true := by decide +kernel
set_option maxRecDepth 100000 in
theorem ck_X1_term : ckM m_X1_term = true := by decide +kernel
set_option maxRecDepth 100000 in
theorem ck_X1_one : ckM m_X1_one = true := by decide +kernel
set_option maxRecDepth 100000 in
theorem ck_X1_opens : ckM m_X1_opens = true := by decide +kernel
set_option maxRecDepth 100000 in
theorem ck_X1_next : ckM m_X1_next = true := by decide +kernel
set_option maxRecDepth 100000 in
theorem ck_X1_nextNumber : ckM m_X1_nextNumber = true := by decide +kernel
set_option maxRecDepth 100000 in
theorem ck_X1_nextWord : ckM m_X1_nextWord = true := by decide +kernel
set_option maxRecDepth 100000 in
theorem ck_X1_spells : ckM m_X1_spells = true := by decide +kernel
set_option maxRecDepth 100000 in
theorem ck_X1_isDigit : ckM m_X1_isDigit = true := by decide +kernel
set_option maxRecDepth 100000 in
theorem ck_X1_isLetter : ckM m_X1_isLetter = true := by decide +kernel
set_option maxRecDepth 100000 in
theorem ck_X2_init : ckM m_X2_init = true := by decide +kernel
set_option maxRecDepth 100000 in
theorem ck_X2_keep : ckM m_X2_keep = true := by decide +kernel
set_option maxRecDepth 100000 in
theorem ck_X2_value : ckM m_X2_value = true := by decide +kernel
set_option maxRecDepth 100000 in
theorem ck_X3_init : ckM m_X3_init = true := by decide +kernel
set_option maxRecDepth 100000 in
theorem ck_X3_become : ckM m_X3_become = true := by decide +kernel
set_option maxRecDepth 100000 in
theorem ck_X3_holds : ckM m_X3_holds = true := by decide +kernel
set_option maxRecDepth 100000 in
theorem ck_X3_put : ckM m_X3_put = true := by decide +kernel
set_option maxRecDepth 100000 in
theorem ck_X4_init : ckM m_X4_init = true := by decide +kernel
set_option maxRecDepth 100000 in
theorem ck_X5_init : ckM m_X5_init = true := by decide +kernel
set_option maxRecDepth 100000 in
theorem ck_X5_set : ckM m_X5_set = true := by decide +kernel
set_option maxRecDepth 100000 in
theorem ck_X5_dancer : ckM m_X5_dancer = true := by decide +kernel
set_option maxRecDepth 100000 in
theorem ck_X5_told : ckM m_X5_told = true := by decide +kernel
set_option maxRecDepth 100000 in
theorem ck_X5_asks : ckM m_X5_asks = true := by decide +kernel
set_option maxRecDepth 100000 in
theorem ck_X5_isDancer : ckM m_X5_isDancer = true := by decide +kernel
set_option maxRecDepth 100000 in
theorem ck_X5_isTwo : ckM m_X5_isTwo = true := by decide +kernel
set_option maxRecDepth 100000 in
theorem ck_X5_debtPlace : ckM m_X5_debtPlace = true := by decide +kernel
set_option maxRecDepth 100000 in
theorem ck_X5_feed : ckM m_X5_feed = true := by decide +kernel
set_option maxRecDepth 100000 in
theorem ck_X5_text : ckM m_X5_text = true := by decide +kernel
set_option maxRecDepth 100000 in
theorem ck_X5_force : ckM m_X5_force = true := by decide +kernel
set_option maxRecDepth 100000 in
theorem ck_X5_dance : ckM m_X5_dance = true := by decide +kernel
set_option maxRecDepth 100000 in
theorem ck_X5_round : ckM m_X5_round = true := by decide +kernel
set_option maxRecDepth 100000 in
theorem ck_X5_night : ckM m_X5_night = true := by decide +kernel
set_option maxRecDepth 100000 in
theorem ck_X5_strike : ckM m_X5_strike = true := by decide +kernel
set_option maxRecDepth 100000 in
theorem ck_X5_readRing : ckM m_X5_readRing = true := by decide +kernel
set_option maxRecDepth 100000 in
theorem ck_X5_run : ckM m_X5_run = true := by decide +kernel
set_option maxRecDepth 100000 in
theorem ck_X5_think : ckM m_X5_think = true := by decide +kernel
set_option maxRecDepth 100000 in
theorem ck_X5_best : ckM m_X5_best = true := by decide +kernel
set_option maxRecDepth 100000 in
theorem ck_X5_share : ckM m_X5_share = true := by decide +kernel
set_option maxRecDepth 100000 in
theorem ck_X5_sitters : ckM m_X5_sitters = true := by decide +kernel
set_option maxRecDepth 100000 in
theorem ck_X5_soonest : ckM m_X5_soonest = true := by decide +kernel
set_option maxRecDepth 100000 in
theorem ck_X5_clears : ckM m_X5_clears = true := by decide +kernel
set_option maxRecDepth 100000 in
theorem ck_X5_lowest : ckM m_X5_lowest = true := by decide +kernel
set_option maxRecDepth 100000 in
theorem ck_X5_tells : ckM m_X5_tells = true := by decide +kernel
set_option maxRecDepth 100000 in
theorem ck_X5_kindsTold : ckM m_X5_kindsTold = true := by decide +kernel
set_option maxRecDepth 100000 in
theorem ck_X5_numbersTold : ckM m_X5_numbersTold = true := by decide +kernel
set_option maxRecDepth 100000 in
theorem ck_X5_roundsTold : ckM m_X5_roundsTold = true := by decide +kernel
set_option maxRecDepth 100000 in
theorem ck_X5_donesTold : ckM m_X5_donesTold = true := by decide +kernel
set_option maxRecDepth 100000 in
theorem ck_X5_textsTold : ckM m_X5_textsTold = true := by decide +kernel
set_option maxRecDepth 100000 in
theorem ck_X5_dancersTold : ckM m_X5_dancersTold = true := by decide +kernel
set_option maxRecDepth 100000 in
theorem ck_X5_film : ckM m_X5_film = true := by decide +kernel
set_option maxRecDepth 100000 in
theorem ck_X5_drawn : ckM m_X5_drawn = true := by decide +kernel
set_option maxRecDepth 100000 in
theorem ck_X5_chance : ckM m_X5_chance = true := by decide +kernel
set_option maxRecDepth 100000 in
theorem ck_X5_image : ckM m_X5_image = true := by decide +kernel
set_option maxRecDepth 100000 in
theorem ck_X5_back : ckM m_X5_back = true := by decide +kernel
set_option maxRecDepth 100000 in
theorem ck_X5_count : ckM m_X5_count = true := by decide +kernel
set_option maxRecDepth 100000 in
theorem ck_X5_sheet : ckM m_X5_sheet = true := by decide +kernel
set_option maxRecDepth 100000 in
theorem ck_X5_cell : ckM m_X5_cell = true := by decide +kernel
set_option maxRecDepth 100000 in
theorem ck_X5_copy : ckM m_X5_copy = true := by decide +kernel
set_option maxRecDepth 100000 in
theorem ck_X5_room : ckM m_X5_room = true := by decide +kernel
set_option maxRecDepth 100000 in
theorem ck_X5_taken : ckM m_X5_taken = true := by decide +kernel
set_option maxRecDepth 100000 in
theorem ck_X5_isSheet : ckM m_X5_isSheet = true := by decide +kernel
set_option maxRecDepth 100000 in
theorem ck_X5_isSort : ckM m_X5_isSort = true := by decide +kernel
set_option maxRecDepth 100000 in
theorem ck_X5_within : ckM m_X5_within = true := by decide +kernel
set_option maxRecDepth 100000 in
theorem ck_X6_in : ckM m_X6_in = true := by decide +kernel
set_option maxRecDepth 100000 in
theorem ck_X6_within : ckM m_X6_within = true := by decide +kernel
set_option maxRecDepth 100000 in
theorem ck_X6_init : ckM m_X6_init = true := by decide +kernel
set_option maxRecDepth 100000 in
theorem ck_X6_spell : ckM m_X6_spell = true := by decide +kernel
set_option maxRecDepth 100000 in
theorem ck_X6_isOne : ckM m_X6_isOne = true := by decide +kernel
set_option maxRecDepth 100000 in
theorem ck_X6_areTwo : ckM m_X6_areTwo = true := by decide +kernel
set_option maxRecDepth 100000 in
theorem ck_X6_isOf : ckM m_X6_isOf = true := by decide +kernel
set_option maxRecDepth 100000 in
theorem ck_X6_placeOf : ckM m_X6_placeOf = true := by decide +kernel
set_option maxRecDepth 100000 in
theorem ck_X6_mostOf : ckM m_X6_mostOf = true := by decide +kernel
set_option maxRecDepth 100000 in
theorem ck_X6_set : ckM m_X6_set = true := by decide +kernel
set_option maxRecDepth 100000 in
theorem ck_X6_lays : ckM m_X6_lays = true := by decide +kernel
set_option maxRecDepth 100000 in
theorem ck_X6_dancer : ckM m_X6_dancer = true := by decide +kernel
set_option maxRecDepth 100000 in
theorem ck_X6_told : ckM m_X6_told = true := by decide +kernel
set_option maxRecDepth 100000 in
theorem ck_X6_debtOf : ckM m_X6_debtOf = true := by decide +kernel
set_option maxRecDepth 100000 in
theorem ck_X6_owesOf : ckM m_X6_owesOf = true := by decide +kernel
set_option maxRecDepth 100000 in
theorem ck_X6_owedTo : ckM m_X6_owedTo = true := by decide +kernel
set_option maxRecDepth 100000 in
theorem ck_X6_owedAll : ckM m_X6_owedAll = true := by decide +kernel
set_option maxRecDepth 100000 in
theorem ck_X6_feed : ckM m_X6_feed = true := by decide +kernel
set_option maxRecDepth 100000 in
theorem ck_X6_byteAt : ckM m_X6_byteAt = true := by decide +kernel
set_option maxRecDepth 100000 in
theorem ck_X6_next : ckM m_X6_next = true := by decide +kernel
set_option maxRecDepth 100000 in
theorem ck_X6_fail : ckM m_X6_fail = true := by decide +kernel
set_option maxRecDepth 100000 in
theorem ck_X6_isLetter : ckM m_X6_isLetter = true := by decide +kernel
set_option maxRecDepth 100000 in
theorem ck_X6_isWord : ckM m_X6_isWord = true := by decide +kernel
set_option maxRecDepth 100000 in
theorem ck_X6_isSign : ckM m_X6_isSign = true := by decide +kernel
set_option maxRecDepth 100000 in
theorem ck_X6_opens : ckM m_X6_opens = true := by decide +kernel
set_option maxRecDepth 100000 in
theorem ck_X6_name : ckM m_X6_name = true := by decide +kernel
set_option maxRecDepth 100000 in
theorem ck_X6_atom : ckM m_X6_atom = true := by decide +kernel
set_option maxRecDepth 100000 in
theorem ck_X6_term : ckM m_X6_term = true := by decide +kernel
set_option maxRecDepth 100000 in
theorem ck_X6_added : ckM m_X6_added = true := by decide +kernel
set_option maxRecDepth 100000 in
theorem ck_X6_not : ckM m_X6_not = true := by decide +kernel
set_option maxRecDepth 100000 in
theorem ck_X6_both : ckM m_X6_both = true := by decide +kernel
set_option maxRecDepth 100000 in
theorem ck_X6_either : ckM m_X6_either = true := by decide +kernel
set_option maxRecDepth 100000 in
theorem ck_X6_part : ckM m_X6_part = true := by decide +kernel
set_option maxRecDepth 100000 in
theorem ck_X6_read : ckM m_X6_read = true := by decide +kernel
set_option maxRecDepth 100000 in
theorem ck_X6_text : ckM m_X6_text = true := by decide +kernel
set_option maxRecDepth 100000 in
theorem ck_X6_force : ckM m_X6_force = true := by decide +kernel
set_option maxRecDepth 100000 in
theorem ck_X6_says : ckM m_X6_says = true := by decide +kernel
set_option maxRecDepth 100000 in
theorem ck_X6_paysOf : ckM m_X6_paysOf = true := by decide +kernel
set_option maxRecDepth 100000 in
theorem ck_X6_willOf : ckM m_X6_willOf = true := by decide +kernel
set_option maxRecDepth 100000 in
theorem ck_X6_breathOf : ckM m_X6_breathOf = true := by decide +kernel
set_option maxRecDepth 100000 in
theorem ck_X6_hasBreath : ckM m_X6_hasBreath = true := by decide +kernel
set_option maxRecDepth 100000 in
theorem ck_X6_mayDance : ckM m_X6_mayDance = true := by decide +kernel
set_option maxRecDepth 100000 in
theorem ck_X6_asks : ckM m_X6_asks = true := by decide +kernel
set_option maxRecDepth 100000 in
theorem ck_X6_dances : ckM m_X6_dances = true := by decide +kernel
set_option maxRecDepth 100000 in
theorem ck_X6_danceBoth : ckM m_X6_danceBoth = true := by decide +kernel
set_option maxRecDepth 100000 in
theorem ck_X6_dance : ckM m_X6_dance = true := by decide +kernel
set_option maxRecDepth 100000 in
theorem ck_X6_passes : ckM m_X6_passes = true := by decide +kernel
set_option maxRecDepth 100000 in
theorem ck_X6_round : ckM m_X6_round = true := by decide +kernel
set_option maxRecDepth 100000 in
theorem ck_X6_night : ckM m_X6_night = true := by decide +kernel
set_option maxRecDepth 100000 in
theorem ck_X6_ringOf : ckM m_X6_ringOf = true := by decide +kernel
set_option maxRecDepth 100000 in
theorem ck_X6_strike : ckM m_X6_strike = true := by decide +kernel
set_option maxRecDepth 100000 in
theorem ck_X6_laysAside : ckM m_X6_laysAside = true := by decide +kernel
set_option maxRecDepth 100000 in
theorem ck_X6_laysBack : ckM m_X6_laysBack = true := by decide +kernel
set_option maxRecDepth 100000 in
theorem ck_X6_owedSet : ckM m_X6_owedSet = true := by decide +kernel
set_option maxRecDepth 100000 in
theorem ck_X6_run : ckM m_X6_run = true := by decide +kernel
set_option maxRecDepth 100000 in
theorem ck_X6_both_ : ckM m_X6_both_ = true := by decide +kernel
set_option maxRecDepth 100000 in
theorem ck_X6_lesser : ckM m_X6_lesser = true := by decide +kernel
set_option maxRecDepth 100000 in
theorem ck_X6_greater : ckM m_X6_greater = true := by decide +kernel
set_option maxRecDepth 100000 in
theorem ck_X6_isApart : ckM m_X6_isApart = true := by decide +kernel
set_option maxRecDepth 100000 in
theorem ck_X6_isSet : ckM m_X6_isSet = true := by decide +kernel
set_option maxRecDepth 100000 in
theorem ck_X6_dancesOf : ckM m_X6_dancesOf = true := by decide +kernel
set_option maxRecDepth 100000 in
theorem ck_X6_bestSet : ckM m_X6_bestSet = true := by decide +kernel
set_option maxRecDepth 100000 in
theorem ck_X6_nextRound : ckM m_X6_nextRound = true := by decide +kernel
set_option maxRecDepth 100000 in
theorem ck_X6_isPaidBy : ckM m_X6_isPaidBy = true := by decide +kernel
set_option maxRecDepth 100000 in
theorem ck_X6_soonest : ckM m_X6_soonest = true := by decide +kernel
set_option maxRecDepth 100000 in
theorem ck_X6_leastOwed : ckM m_X6_leastOwed = true := by decide +kernel
set_option maxRecDepth 100000 in
theorem ck_X6_ringFrom : ckM m_X6_ringFrom = true := by decide +kernel
set_option maxRecDepth 100000 in
theorem ck_X6_longestRing : ckM m_X6_longestRing = true := by decide +kernel
set_option maxRecDepth 100000 in
theorem ck_X6_ends : ckM m_X6_ends = true := by decide +kernel
set_option maxRecDepth 100000 in
theorem ck_X6_keeper : ckM m_X6_keeper = true := by decide +kernel
set_option maxRecDepth 100000 in
theorem ck_X6_best : ckM m_X6_best = true := by decide +kernel
set_option maxRecDepth 100000 in
theorem ck_X6_lowest : ckM m_X6_lowest = true := by decide +kernel
set_option maxRecDepth 100000 in
theorem ck_X6_share : ckM m_X6_share = true := by decide +kernel
set_option maxRecDepth 100000 in
theorem ck_X6_firstOther : ckM m_X6_firstOther = true := by decide +kernel
set_option maxRecDepth 100000 in
theorem ck_X6_likeSet : ckM m_X6_likeSet = true := by decide +kernel
set_option maxRecDepth 100000 in
theorem ck_X6_tells : ckM m_X6_tells = true := by decide +kernel
set_option maxRecDepth 100000 in
theorem ck_X6_film : ckM m_X6_film = true := by decide +kernel
set_option maxRecDepth 100000 in
theorem ck_X6_endsDrawn : ckM m_X6_endsDrawn = true := by decide +kernel
set_option maxRecDepth 100000 in
theorem ck_X6_drawn : ckM m_X6_drawn = true := by decide +kernel
set_option maxRecDepth 100000 in
theorem ck_X6_chance : ckM m_X6_chance = true := by decide +kernel
set_option maxRecDepth 100000 in
theorem ck_X6_image : ckM m_X6_image = true := by decide +kernel
set_option maxRecDepth 100000 in
theorem ck_X6_back : ckM m_X6_back = true := by decide +kernel
set_option maxRecDepth 100000 in
theorem ck_X6_count : ckM m_X6_count = true := by decide +kernel
set_option maxRecDepth 100000 in
theorem ck_X6_isSheet : ckM m_X6_isSheet = true := by decide +kernel
set_option maxRecDepth 100000 in
theorem ck_X6_sheet : ckM m_X6_sheet = true := by decide +kernel
set_option maxRecDepth 100000 in
theorem ck_X6_cell : ckM m_X6_cell = true := by decide +kernel
set_option maxRecDepth 100000 in
theorem ck_X6_copy : ckM m_X6_copy = true := by decide +kernel
set_option maxRecDepth 100000 in
theorem ck_X6_room : ckM m_X6_room = true := by decide +kernel
set_option maxRecDepth 100000 in
theorem ck_X6_over : ckM m_X6_over = true := by decide +kernel
set_option maxRecDepth 100000 in
theorem ck_X6_taken : ckM m_X6_taken = true := by decide +kernel
set_option maxRecDepth 100000 in
theorem ck_L_law : ckM m_L_law = true := by decide +kernel
end
