section
-- ===== PART A: goes FIRST, ahead of the names: the tables' words, and 'selects' of the private methods out of them =====
/-- a private method of a class that the tables say can be made, by its rows of tables_1 -/
def lw_okq (q : MethodName × Nat) : Prop := (q.1.cls ≠ "java/lang/invoke/MethodHandle" ∧ q.1.cls ≠ "java/lang/invoke/VarHandle") ∧ Cond.instantiable q.1.cls q.2 ∈ tables_1 ∧ Cond.privateMethod q.1 ∈ tables_1 ∧ Cond.instanceMethod q.1 ∈ tables_1
theorem lw_p0 : lw_okq (⟨"DanceStillOwed", "debtPlace", "(I)I"⟩, 8) := ⟨⟨by decide +kernel, by decide +kernel⟩, List.mem_of_getElem? (i := 16) (by decide +kernel), List.mem_of_getElem? (i := 216) (by decide +kernel), List.mem_of_getElem? (i := 217) (by decide +kernel)⟩
theorem lw_p1 : lw_okq (⟨"DanceStillOwed", "isTwo", "(II)Z"⟩, 8) := ⟨⟨by decide +kernel, by decide +kernel⟩, List.mem_of_getElem? (i := 16) (by decide +kernel), List.mem_of_getElem? (i := 220) (by decide +kernel), List.mem_of_getElem? (i := 221) (by decide +kernel)⟩
theorem lw_p2 : lw_okq (⟨"DanceStillOwed", "isDancer", "(I)Z"⟩, 8) := ⟨⟨by decide +kernel, by decide +kernel⟩, List.mem_of_getElem? (i := 16) (by decide +kernel), List.mem_of_getElem? (i := 224) (by decide +kernel), List.mem_of_getElem? (i := 225) (by decide +kernel)⟩
theorem lw_p3 : lw_okq (⟨"DanceStillOwed$Floor", "value", "(III)I"⟩, 13) := ⟨⟨by decide +kernel, by decide +kernel⟩, List.mem_of_getElem? (i := 62) (by decide +kernel), List.mem_of_getElem? (i := 232) (by decide +kernel), List.mem_of_getElem? (i := 233) (by decide +kernel)⟩
theorem lw_p4 : lw_okq (⟨"DanceStillOwed$Reader", "next", "()V"⟩, 10) := ⟨⟨by decide +kernel, by decide +kernel⟩, List.mem_of_getElem? (i := 120) (by decide +kernel), List.mem_of_getElem? (i := 300) (by decide +kernel), List.mem_of_getElem? (i := 301) (by decide +kernel)⟩
theorem lw_p5 : lw_okq (⟨"DanceStillOwed$Reader", "nextNumber", "()V"⟩, 10) := ⟨⟨by decide +kernel, by decide +kernel⟩, List.mem_of_getElem? (i := 120) (by decide +kernel), List.mem_of_getElem? (i := 307) (by decide +kernel), List.mem_of_getElem? (i := 308) (by decide +kernel)⟩
theorem lw_p6 : lw_okq (⟨"DanceStillOwed$Reader", "nextWord", "()V"⟩, 10) := ⟨⟨by decide +kernel, by decide +kernel⟩, List.mem_of_getElem? (i := 120) (by decide +kernel), List.mem_of_getElem? (i := 314) (by decide +kernel), List.mem_of_getElem? (i := 315) (by decide +kernel)⟩
theorem lw_p7 : lw_okq (⟨"DanceStillOwed$Reader", "spells", "(Ljava/lang/String;)Z"⟩, 10) := ⟨⟨by decide +kernel, by decide +kernel⟩, List.mem_of_getElem? (i := 120) (by decide +kernel), List.mem_of_getElem? (i := 319) (by decide +kernel), List.mem_of_getElem? (i := 320) (by decide +kernel)⟩
theorem lw_p8 : lw_okq (⟨"DanceStillOwed$Reader", "pass", "(I)Z"⟩, 10) := ⟨⟨by decide +kernel, by decide +kernel⟩, List.mem_of_getElem? (i := 120) (by decide +kernel), List.mem_of_getElem? (i := 442) (by decide +kernel), List.mem_of_getElem? (i := 443) (by decide +kernel)⟩
theorem lw_p9 : lw_okq (⟨"DanceStillOwed$Reader", "either", "()Z"⟩, 10) := ⟨⟨by decide +kernel, by decide +kernel⟩, List.mem_of_getElem? (i := 120) (by decide +kernel), List.mem_of_getElem? (i := 446) (by decide +kernel), List.mem_of_getElem? (i := 447) (by decide +kernel)⟩
theorem lw_p10 : lw_okq (⟨"DanceStillOwed$Reader", "both", "()Z"⟩, 10) := ⟨⟨by decide +kernel, by decide +kernel⟩, List.mem_of_getElem? (i := 120) (by decide +kernel), List.mem_of_getElem? (i := 450) (by decide +kernel), List.mem_of_getElem? (i := 451) (by decide +kernel)⟩
theorem lw_p11 : lw_okq (⟨"DanceStillOwed$Reader", "denied", "()Z"⟩, 10) := ⟨⟨by decide +kernel, by decide +kernel⟩, List.mem_of_getElem? (i := 120) (by decide +kernel), List.mem_of_getElem? (i := 454) (by decide +kernel), List.mem_of_getElem? (i := 455) (by decide +kernel)⟩
theorem lw_p12 : lw_okq (⟨"DanceStillOwed$Reader", "compared", "()Z"⟩, 10) := ⟨⟨by decide +kernel, by decide +kernel⟩, List.mem_of_getElem? (i := 120) (by decide +kernel), List.mem_of_getElem? (i := 458) (by decide +kernel), List.mem_of_getElem? (i := 459) (by decide +kernel)⟩
theorem lw_p13 : lw_okq (⟨"DanceStillOwed$Reader", "sum", "()Z"⟩, 10) := ⟨⟨by decide +kernel, by decide +kernel⟩, List.mem_of_getElem? (i := 120) (by decide +kernel), List.mem_of_getElem? (i := 462) (by decide +kernel), List.mem_of_getElem? (i := 463) (by decide +kernel)⟩
theorem lw_p14 : lw_okq (⟨"DanceStillOwed$Reader", "term", "()Z"⟩, 10) := ⟨⟨by decide +kernel, by decide +kernel⟩, List.mem_of_getElem? (i := 120) (by decide +kernel), List.mem_of_getElem? (i := 466) (by decide +kernel), List.mem_of_getElem? (i := 467) (by decide +kernel)⟩
theorem lw_p15 : lw_okq (⟨"DanceStillOwed$Reader", "one", "()Z"⟩, 10) := ⟨⟨by decide +kernel, by decide +kernel⟩, List.mem_of_getElem? (i := 120) (by decide +kernel), List.mem_of_getElem? (i := 470) (by decide +kernel), List.mem_of_getElem? (i := 471) (by decide +kernel)⟩
def lw_privs_1 : List (MethodName × Nat) := [(⟨"DanceStillOwed", "debtPlace", "(I)I"⟩, 8), (⟨"DanceStillOwed", "isTwo", "(II)Z"⟩, 8), (⟨"DanceStillOwed", "isDancer", "(I)Z"⟩, 8), (⟨"DanceStillOwed$Floor", "value", "(III)I"⟩, 13), (⟨"DanceStillOwed$Reader", "next", "()V"⟩, 10), (⟨"DanceStillOwed$Reader", "nextNumber", "()V"⟩, 10), (⟨"DanceStillOwed$Reader", "nextWord", "()V"⟩, 10), (⟨"DanceStillOwed$Reader", "spells", "(Ljava/lang/String;)Z"⟩, 10), (⟨"DanceStillOwed$Reader", "pass", "(I)Z"⟩, 10), (⟨"DanceStillOwed$Reader", "either", "()Z"⟩, 10), (⟨"DanceStillOwed$Reader", "both", "()Z"⟩, 10), (⟨"DanceStillOwed$Reader", "denied", "()Z"⟩, 10), (⟨"DanceStillOwed$Reader", "compared", "()Z"⟩, 10), (⟨"DanceStillOwed$Reader", "sum", "()Z"⟩, 10), (⟨"DanceStillOwed$Reader", "term", "()Z"⟩, 10), (⟨"DanceStillOwed$Reader", "one", "()Z"⟩, 10)]
theorem lw_r1 : ∀ q ∈ lw_privs_1, lw_okq q := List.forall_mem_cons.mpr ⟨lw_p0, List.forall_mem_cons.mpr ⟨lw_p1, List.forall_mem_cons.mpr ⟨lw_p2, List.forall_mem_cons.mpr ⟨lw_p3, List.forall_mem_cons.mpr ⟨lw_p4, List.forall_mem_cons.mpr ⟨lw_p5, List.forall_mem_cons.mpr ⟨lw_p6, List.forall_mem_cons.mpr ⟨lw_p7, List.forall_mem_cons.mpr ⟨lw_p8, List.forall_mem_cons.mpr ⟨lw_p9, List.forall_mem_cons.mpr ⟨lw_p10, List.forall_mem_cons.mpr ⟨lw_p11, List.forall_mem_cons.mpr ⟨lw_p12, List.forall_mem_cons.mpr ⟨lw_p13, List.forall_mem_cons.mpr ⟨lw_p14, List.forall_mem_cons.mpr ⟨lw_p15, fun _ h => absurd h List.not_mem_nil⟩⟩⟩⟩⟩⟩⟩⟩⟩⟩⟩⟩⟩⟩⟩⟩
theorem lw_p16 : lw_okq (⟨"DanceStillOwed$Reader", "put", "(I)Z"⟩, 10) := ⟨⟨by decide +kernel, by decide +kernel⟩, List.mem_of_getElem? (i := 120) (by decide +kernel), List.mem_of_getElem? (i := 474) (by decide +kernel), List.mem_of_getElem? (i := 475) (by decide +kernel)⟩
theorem lw_p17 : lw_okq (⟨"DanceStillOwed$Reader", "opens", "()Z"⟩, 10) := ⟨⟨by decide +kernel, by decide +kernel⟩, List.mem_of_getElem? (i := 120) (by decide +kernel), List.mem_of_getElem? (i := 478) (by decide +kernel), List.mem_of_getElem? (i := 479) (by decide +kernel)⟩
theorem lw_p18 : lw_okq (⟨"DanceStillOwed$Floor", "settle", "(IIII)V"⟩, 13) := ⟨⟨by decide +kernel, by decide +kernel⟩, List.mem_of_getElem? (i := 62) (by decide +kernel), List.mem_of_getElem? (i := 512) (by decide +kernel), List.mem_of_getElem? (i := 513) (by decide +kernel)⟩
theorem lw_p19 : lw_okq (⟨"DanceStillOwed", "readRing", "(I)I"⟩, 8) := ⟨⟨by decide +kernel, by decide +kernel⟩, List.mem_of_getElem? (i := 16) (by decide +kernel), List.mem_of_getElem? (i := 545) (by decide +kernel), List.mem_of_getElem? (i := 546) (by decide +kernel)⟩
theorem lw_p20 : lw_okq (⟨"DanceStillOwed", "think", "()LDanceStillOwed$Floor;"⟩, 8) := ⟨⟨by decide +kernel, by decide +kernel⟩, List.mem_of_getElem? (i := 16) (by decide +kernel), List.mem_of_getElem? (i := 555) (by decide +kernel), List.mem_of_getElem? (i := 556) (by decide +kernel)⟩
theorem lw_p21 : lw_okq (⟨"DanceStillOwed", "sitters", "()I"⟩, 8) := ⟨⟨by decide +kernel, by decide +kernel⟩, List.mem_of_getElem? (i := 16) (by decide +kernel), List.mem_of_getElem? (i := 596) (by decide +kernel), List.mem_of_getElem? (i := 597) (by decide +kernel)⟩
theorem lw_p22 : lw_okq (⟨"DanceStillOwed", "soonest", "()I"⟩, 8) := ⟨⟨by decide +kernel, by decide +kernel⟩, List.mem_of_getElem? (i := 16) (by decide +kernel), List.mem_of_getElem? (i := 600) (by decide +kernel), List.mem_of_getElem? (i := 601) (by decide +kernel)⟩
theorem lw_p23 : lw_okq (⟨"DanceStillOwed", "clears", "(II)Z"⟩, 8) := ⟨⟨by decide +kernel, by decide +kernel⟩, List.mem_of_getElem? (i := 16) (by decide +kernel), List.mem_of_getElem? (i := 604) (by decide +kernel), List.mem_of_getElem? (i := 605) (by decide +kernel)⟩
theorem lw_p24 : lw_okq (⟨"DanceStillOwed$Floor", "longest", "(IIII)I"⟩, 13) := ⟨⟨by decide +kernel, by decide +kernel⟩, List.mem_of_getElem? (i := 62) (by decide +kernel), List.mem_of_getElem? (i := 627) (by decide +kernel), List.mem_of_getElem? (i := 628) (by decide +kernel)⟩
theorem lw_p25 : lw_okq (⟨"DanceStillOwed", "kindsTold", "(LDanceStillOwed$Sheet;I)I"⟩, 8) := ⟨⟨by decide +kernel, by decide +kernel⟩, List.mem_of_getElem? (i := 16) (by decide +kernel), List.mem_of_getElem? (i := 659) (by decide +kernel), List.mem_of_getElem? (i := 660) (by decide +kernel)⟩
theorem lw_p26 : lw_okq (⟨"DanceStillOwed", "numbersTold", "(LDanceStillOwed$Sheet;I)I"⟩, 8) := ⟨⟨by decide +kernel, by decide +kernel⟩, List.mem_of_getElem? (i := 16) (by decide +kernel), List.mem_of_getElem? (i := 668) (by decide +kernel), List.mem_of_getElem? (i := 669) (by decide +kernel)⟩
theorem lw_p27 : lw_okq (⟨"DanceStillOwed", "roundsTold", "(LDanceStillOwed$Sheet;IZ)I"⟩, 8) := ⟨⟨by decide +kernel, by decide +kernel⟩, List.mem_of_getElem? (i := 16) (by decide +kernel), List.mem_of_getElem? (i := 672) (by decide +kernel), List.mem_of_getElem? (i := 673) (by decide +kernel)⟩
theorem lw_p28 : lw_okq (⟨"DanceStillOwed", "donesTold", "(LDanceStillOwed$Sheet;IZ)I"⟩, 8) := ⟨⟨by decide +kernel, by decide +kernel⟩, List.mem_of_getElem? (i := 16) (by decide +kernel), List.mem_of_getElem? (i := 676) (by decide +kernel), List.mem_of_getElem? (i := 677) (by decide +kernel)⟩
theorem lw_p29 : lw_okq (⟨"DanceStillOwed", "textsTold", "(LDanceStillOwed$Sheet;I)I"⟩, 8) := ⟨⟨by decide +kernel, by decide +kernel⟩, List.mem_of_getElem? (i := 16) (by decide +kernel), List.mem_of_getElem? (i := 680) (by decide +kernel), List.mem_of_getElem? (i := 681) (by decide +kernel)⟩
theorem lw_p30 : lw_okq (⟨"DanceStillOwed", "dancersTold", "(LDanceStillOwed$Sheet;I)I"⟩, 8) := ⟨⟨by decide +kernel, by decide +kernel⟩, List.mem_of_getElem? (i := 16) (by decide +kernel), List.mem_of_getElem? (i := 684) (by decide +kernel), List.mem_of_getElem? (i := 685) (by decide +kernel)⟩
theorem lw_p31 : lw_okq (⟨"DanceStillOwedModel", "spell", "(IIIIIIIII)V"⟩, 45) := ⟨⟨by decide +kernel, by decide +kernel⟩, List.mem_of_getElem? (i := 756) (by decide +kernel), List.mem_of_getElem? (i := 768) (by decide +kernel), List.mem_of_getElem? (i := 769) (by decide +kernel)⟩
def lw_privs_2 : List (MethodName × Nat) := [(⟨"DanceStillOwed$Reader", "put", "(I)Z"⟩, 10), (⟨"DanceStillOwed$Reader", "opens", "()Z"⟩, 10), (⟨"DanceStillOwed$Floor", "settle", "(IIII)V"⟩, 13), (⟨"DanceStillOwed", "readRing", "(I)I"⟩, 8), (⟨"DanceStillOwed", "think", "()LDanceStillOwed$Floor;"⟩, 8), (⟨"DanceStillOwed", "sitters", "()I"⟩, 8), (⟨"DanceStillOwed", "soonest", "()I"⟩, 8), (⟨"DanceStillOwed", "clears", "(II)Z"⟩, 8), (⟨"DanceStillOwed$Floor", "longest", "(IIII)I"⟩, 13), (⟨"DanceStillOwed", "kindsTold", "(LDanceStillOwed$Sheet;I)I"⟩, 8), (⟨"DanceStillOwed", "numbersTold", "(LDanceStillOwed$Sheet;I)I"⟩, 8), (⟨"DanceStillOwed", "roundsTold", "(LDanceStillOwed$Sheet;IZ)I"⟩, 8), (⟨"DanceStillOwed", "donesTold", "(LDanceStillOwed$Sheet;IZ)I"⟩, 8), (⟨"DanceStillOwed", "textsTold", "(LDanceStillOwed$Sheet;I)I"⟩, 8), (⟨"DanceStillOwed", "dancersTold", "(LDanceStillOwed$Sheet;I)I"⟩, 8), (⟨"DanceStillOwedModel", "spell", "(IIIIIIIII)V"⟩, 45)]
theorem lw_r2 : ∀ q ∈ lw_privs_2, lw_okq q := List.forall_mem_cons.mpr ⟨lw_p16, List.forall_mem_cons.mpr ⟨lw_p17, List.forall_mem_cons.mpr ⟨lw_p18, List.forall_mem_cons.mpr ⟨lw_p19, List.forall_mem_cons.mpr ⟨lw_p20, List.forall_mem_cons.mpr ⟨lw_p21, List.forall_mem_cons.mpr ⟨lw_p22, List.forall_mem_cons.mpr ⟨lw_p23, List.forall_mem_cons.mpr ⟨lw_p24, List.forall_mem_cons.mpr ⟨lw_p25, List.forall_mem_cons.mpr ⟨lw_p26, List.forall_mem_cons.mpr ⟨lw_p27, List.forall_mem_cons.mpr ⟨lw_p28, List.forall_mem_cons.mpr ⟨lw_p29, List.forall_mem_cons.mpr ⟨lw_p30, List.forall_mem_cons.mpr ⟨lw_p31, fun _ h => absurd h List.not_mem_nil⟩⟩⟩⟩⟩⟩⟩⟩⟩⟩⟩⟩⟩⟩⟩⟩
theorem lw_p32 : lw_okq (⟨"DanceStillOwedModel", "isOf", "(II)Z"⟩, 45) := ⟨⟨by decide +kernel, by decide +kernel⟩, List.mem_of_getElem? (i := 756) (by decide +kernel), List.mem_of_getElem? (i := 916) (by decide +kernel), List.mem_of_getElem? (i := 917) (by decide +kernel)⟩
theorem lw_p33 : lw_okq (⟨"DanceStillOwedModel", "areTwo", "(II)Z"⟩, 45) := ⟨⟨by decide +kernel, by decide +kernel⟩, List.mem_of_getElem? (i := 756) (by decide +kernel), List.mem_of_getElem? (i := 920) (by decide +kernel), List.mem_of_getElem? (i := 921) (by decide +kernel)⟩
theorem lw_p34 : lw_okq (⟨"DanceStillOwedModel", "isOne", "(I)Z"⟩, 45) := ⟨⟨by decide +kernel, by decide +kernel⟩, List.mem_of_getElem? (i := 756) (by decide +kernel), List.mem_of_getElem? (i := 924) (by decide +kernel), List.mem_of_getElem? (i := 925) (by decide +kernel)⟩
theorem lw_p35 : lw_okq (⟨"DanceStillOwedModel", "breathOf", "(I)I"⟩, 45) := ⟨⟨by decide +kernel, by decide +kernel⟩, List.mem_of_getElem? (i := 756) (by decide +kernel), List.mem_of_getElem? (i := 939) (by decide +kernel), List.mem_of_getElem? (i := 940) (by decide +kernel)⟩
theorem lw_p36 : lw_okq (⟨"DanceStillOwedModel", "says", "(III)I"⟩, 45) := ⟨⟨by decide +kernel, by decide +kernel⟩, List.mem_of_getElem? (i := 756) (by decide +kernel), List.mem_of_getElem? (i := 943) (by decide +kernel), List.mem_of_getElem? (i := 944) (by decide +kernel)⟩
theorem lw_p37 : lw_okq (⟨"DanceStillOwedModel", "owedTo", "(I)I"⟩, 45) := ⟨⟨by decide +kernel, by decide +kernel⟩, List.mem_of_getElem? (i := 756) (by decide +kernel), List.mem_of_getElem? (i := 947) (by decide +kernel), List.mem_of_getElem? (i := 948) (by decide +kernel)⟩
theorem lw_p38 : lw_okq (⟨"DanceStillOwedModel", "debtOf", "(II)I"⟩, 45) := ⟨⟨by decide +kernel, by decide +kernel⟩, List.mem_of_getElem? (i := 756) (by decide +kernel), List.mem_of_getElem? (i := 951) (by decide +kernel), List.mem_of_getElem? (i := 952) (by decide +kernel)⟩
theorem lw_p39 : lw_okq (⟨"DanceStillOwedModel", "read", "(II)I"⟩, 45) := ⟨⟨by decide +kernel, by decide +kernel⟩, List.mem_of_getElem? (i := 756) (by decide +kernel), List.mem_of_getElem? (i := 955) (by decide +kernel), List.mem_of_getElem? (i := 956) (by decide +kernel)⟩
theorem lw_p40 : lw_okq (⟨"DanceStillOwedModel", "next", "()V"⟩, 45) := ⟨⟨by decide +kernel, by decide +kernel⟩, List.mem_of_getElem? (i := 756) (by decide +kernel), List.mem_of_getElem? (i := 959) (by decide +kernel), List.mem_of_getElem? (i := 960) (by decide +kernel)⟩
theorem lw_p41 : lw_okq (⟨"DanceStillOwedModel", "byteAt", "(I)I"⟩, 45) := ⟨⟨by decide +kernel, by decide +kernel⟩, List.mem_of_getElem? (i := 756) (by decide +kernel), List.mem_of_getElem? (i := 963) (by decide +kernel), List.mem_of_getElem? (i := 964) (by decide +kernel)⟩
theorem lw_p42 : lw_okq (⟨"DanceStillOwedModel", "isWord", "(IIIIIIII)Z"⟩, 45) := ⟨⟨by decide +kernel, by decide +kernel⟩, List.mem_of_getElem? (i := 756) (by decide +kernel), List.mem_of_getElem? (i := 972) (by decide +kernel), List.mem_of_getElem? (i := 973) (by decide +kernel)⟩
theorem lw_p43 : lw_okq (⟨"DanceStillOwedModel", "isLetter", "(II)Z"⟩, 45) := ⟨⟨by decide +kernel, by decide +kernel⟩, List.mem_of_getElem? (i := 756) (by decide +kernel), List.mem_of_getElem? (i := 976) (by decide +kernel), List.mem_of_getElem? (i := 977) (by decide +kernel)⟩
theorem lw_p44 : lw_okq (⟨"DanceStillOwedModel", "part", "(Z)I"⟩, 45) := ⟨⟨by decide +kernel, by decide +kernel⟩, List.mem_of_getElem? (i := 756) (by decide +kernel), List.mem_of_getElem? (i := 980) (by decide +kernel), List.mem_of_getElem? (i := 981) (by decide +kernel)⟩
theorem lw_p45 : lw_okq (⟨"DanceStillOwedModel", "fail", "()V"⟩, 45) := ⟨⟨by decide +kernel, by decide +kernel⟩, List.mem_of_getElem? (i := 756) (by decide +kernel), List.mem_of_getElem? (i := 984) (by decide +kernel), List.mem_of_getElem? (i := 985) (by decide +kernel)⟩
theorem lw_p46 : lw_okq (⟨"DanceStillOwedModel", "either", "()I"⟩, 45) := ⟨⟨by decide +kernel, by decide +kernel⟩, List.mem_of_getElem? (i := 756) (by decide +kernel), List.mem_of_getElem? (i := 988) (by decide +kernel), List.mem_of_getElem? (i := 989) (by decide +kernel)⟩
theorem lw_p47 : lw_okq (⟨"DanceStillOwedModel", "both", "()I"⟩, 45) := ⟨⟨by decide +kernel, by decide +kernel⟩, List.mem_of_getElem? (i := 756) (by decide +kernel), List.mem_of_getElem? (i := 992) (by decide +kernel), List.mem_of_getElem? (i := 993) (by decide +kernel)⟩
def lw_privs_3 : List (MethodName × Nat) := [(⟨"DanceStillOwedModel", "isOf", "(II)Z"⟩, 45), (⟨"DanceStillOwedModel", "areTwo", "(II)Z"⟩, 45), (⟨"DanceStillOwedModel", "isOne", "(I)Z"⟩, 45), (⟨"DanceStillOwedModel", "breathOf", "(I)I"⟩, 45), (⟨"DanceStillOwedModel", "says", "(III)I"⟩, 45), (⟨"DanceStillOwedModel", "owedTo", "(I)I"⟩, 45), (⟨"DanceStillOwedModel", "debtOf", "(II)I"⟩, 45), (⟨"DanceStillOwedModel", "read", "(II)I"⟩, 45), (⟨"DanceStillOwedModel", "next", "()V"⟩, 45), (⟨"DanceStillOwedModel", "byteAt", "(I)I"⟩, 45), (⟨"DanceStillOwedModel", "isWord", "(IIIIIIII)Z"⟩, 45), (⟨"DanceStillOwedModel", "isLetter", "(II)Z"⟩, 45), (⟨"DanceStillOwedModel", "part", "(Z)I"⟩, 45), (⟨"DanceStillOwedModel", "fail", "()V"⟩, 45), (⟨"DanceStillOwedModel", "either", "()I"⟩, 45), (⟨"DanceStillOwedModel", "both", "()I"⟩, 45)]
theorem lw_r3 : ∀ q ∈ lw_privs_3, lw_okq q := List.forall_mem_cons.mpr ⟨lw_p32, List.forall_mem_cons.mpr ⟨lw_p33, List.forall_mem_cons.mpr ⟨lw_p34, List.forall_mem_cons.mpr ⟨lw_p35, List.forall_mem_cons.mpr ⟨lw_p36, List.forall_mem_cons.mpr ⟨lw_p37, List.forall_mem_cons.mpr ⟨lw_p38, List.forall_mem_cons.mpr ⟨lw_p39, List.forall_mem_cons.mpr ⟨lw_p40, List.forall_mem_cons.mpr ⟨lw_p41, List.forall_mem_cons.mpr ⟨lw_p42, List.forall_mem_cons.mpr ⟨lw_p43, List.forall_mem_cons.mpr ⟨lw_p44, List.forall_mem_cons.mpr ⟨lw_p45, List.forall_mem_cons.mpr ⟨lw_p46, List.forall_mem_cons.mpr ⟨lw_p47, fun _ h => absurd h List.not_mem_nil⟩⟩⟩⟩⟩⟩⟩⟩⟩⟩⟩⟩⟩⟩⟩⟩
theorem lw_p48 : lw_okq (⟨"DanceStillOwedModel", "not", "()I"⟩, 45) := ⟨⟨by decide +kernel, by decide +kernel⟩, List.mem_of_getElem? (i := 756) (by decide +kernel), List.mem_of_getElem? (i := 996) (by decide +kernel), List.mem_of_getElem? (i := 997) (by decide +kernel)⟩
theorem lw_p49 : lw_okq (⟨"DanceStillOwedModel", "opens", "()Z"⟩, 45) := ⟨⟨by decide +kernel, by decide +kernel⟩, List.mem_of_getElem? (i := 756) (by decide +kernel), List.mem_of_getElem? (i := 1000) (by decide +kernel), List.mem_of_getElem? (i := 1001) (by decide +kernel)⟩
theorem lw_p50 : lw_okq (⟨"DanceStillOwedModel", "added", "()I"⟩, 45) := ⟨⟨by decide +kernel, by decide +kernel⟩, List.mem_of_getElem? (i := 756) (by decide +kernel), List.mem_of_getElem? (i := 1004) (by decide +kernel), List.mem_of_getElem? (i := 1005) (by decide +kernel)⟩
theorem lw_p51 : lw_okq (⟨"DanceStillOwedModel", "term", "()I"⟩, 45) := ⟨⟨by decide +kernel, by decide +kernel⟩, List.mem_of_getElem? (i := 756) (by decide +kernel), List.mem_of_getElem? (i := 1008) (by decide +kernel), List.mem_of_getElem? (i := 1009) (by decide +kernel)⟩
theorem lw_p52 : lw_okq (⟨"DanceStillOwedModel", "atom", "()I"⟩, 45) := ⟨⟨by decide +kernel, by decide +kernel⟩, List.mem_of_getElem? (i := 756) (by decide +kernel), List.mem_of_getElem? (i := 1012) (by decide +kernel), List.mem_of_getElem? (i := 1013) (by decide +kernel)⟩
theorem lw_p53 : lw_okq (⟨"DanceStillOwedModel", "isSign", "(I)Z"⟩, 45) := ⟨⟨by decide +kernel, by decide +kernel⟩, List.mem_of_getElem? (i := 756) (by decide +kernel), List.mem_of_getElem? (i := 1016) (by decide +kernel), List.mem_of_getElem? (i := 1017) (by decide +kernel)⟩
theorem lw_p54 : lw_okq (⟨"DanceStillOwedModel", "name", "()I"⟩, 45) := ⟨⟨by decide +kernel, by decide +kernel⟩, List.mem_of_getElem? (i := 756) (by decide +kernel), List.mem_of_getElem? (i := 1020) (by decide +kernel), List.mem_of_getElem? (i := 1021) (by decide +kernel)⟩
theorem lw_p55 : lw_okq (⟨"DanceStillOwedModel", "owesOf", "(I)I"⟩, 45) := ⟨⟨by decide +kernel, by decide +kernel⟩, List.mem_of_getElem? (i := 756) (by decide +kernel), List.mem_of_getElem? (i := 1029) (by decide +kernel), List.mem_of_getElem? (i := 1030) (by decide +kernel)⟩
theorem lw_p56 : lw_okq (⟨"DanceStillOwedModel", "lays", "(III)V"⟩, 45) := ⟨⟨by decide +kernel, by decide +kernel⟩, List.mem_of_getElem? (i := 756) (by decide +kernel), List.mem_of_getElem? (i := 1033) (by decide +kernel), List.mem_of_getElem? (i := 1034) (by decide +kernel)⟩
theorem lw_p57 : lw_okq (⟨"DanceStillOwedModel", "paysOf", "(II)I"⟩, 45) := ⟨⟨by decide +kernel, by decide +kernel⟩, List.mem_of_getElem? (i := 756) (by decide +kernel), List.mem_of_getElem? (i := 1062) (by decide +kernel), List.mem_of_getElem? (i := 1063) (by decide +kernel)⟩
theorem lw_p58 : lw_okq (⟨"DanceStillOwedModel", "willOf", "(II)Z"⟩, 45) := ⟨⟨by decide +kernel, by decide +kernel⟩, List.mem_of_getElem? (i := 756) (by decide +kernel), List.mem_of_getElem? (i := 1066) (by decide +kernel), List.mem_of_getElem? (i := 1067) (by decide +kernel)⟩
theorem lw_p59 : lw_okq (⟨"DanceStillOwedModel", "mayDance", "(II)Z"⟩, 45) := ⟨⟨by decide +kernel, by decide +kernel⟩, List.mem_of_getElem? (i := 756) (by decide +kernel), List.mem_of_getElem? (i := 1070) (by decide +kernel), List.mem_of_getElem? (i := 1071) (by decide +kernel)⟩
theorem lw_p60 : lw_okq (⟨"DanceStillOwedModel", "hasBreath", "(I)Z"⟩, 45) := ⟨⟨by decide +kernel, by decide +kernel⟩, List.mem_of_getElem? (i := 756) (by decide +kernel), List.mem_of_getElem? (i := 1074) (by decide +kernel), List.mem_of_getElem? (i := 1075) (by decide +kernel)⟩
theorem lw_p61 : lw_okq (⟨"DanceStillOwedModel", "danceBoth", "(II)I"⟩, 45) := ⟨⟨by decide +kernel, by decide +kernel⟩, List.mem_of_getElem? (i := 756) (by decide +kernel), List.mem_of_getElem? (i := 1082) (by decide +kernel), List.mem_of_getElem? (i := 1083) (by decide +kernel)⟩
theorem lw_p62 : lw_okq (⟨"DanceStillOwedModel", "dances", "(I)V"⟩, 45) := ⟨⟨by decide +kernel, by decide +kernel⟩, List.mem_of_getElem? (i := 756) (by decide +kernel), List.mem_of_getElem? (i := 1086) (by decide +kernel), List.mem_of_getElem? (i := 1087) (by decide +kernel)⟩
theorem lw_p63 : lw_okq (⟨"DanceStillOwedModel", "passes", "()I"⟩, 45) := ⟨⟨by decide +kernel, by decide +kernel⟩, List.mem_of_getElem? (i := 756) (by decide +kernel), List.mem_of_getElem? (i := 1094) (by decide +kernel), List.mem_of_getElem? (i := 1095) (by decide +kernel)⟩
def lw_privs_4 : List (MethodName × Nat) := [(⟨"DanceStillOwedModel", "not", "()I"⟩, 45), (⟨"DanceStillOwedModel", "opens", "()Z"⟩, 45), (⟨"DanceStillOwedModel", "added", "()I"⟩, 45), (⟨"DanceStillOwedModel", "term", "()I"⟩, 45), (⟨"DanceStillOwedModel", "atom", "()I"⟩, 45), (⟨"DanceStillOwedModel", "isSign", "(I)Z"⟩, 45), (⟨"DanceStillOwedModel", "name", "()I"⟩, 45), (⟨"DanceStillOwedModel", "owesOf", "(I)I"⟩, 45), (⟨"DanceStillOwedModel", "lays", "(III)V"⟩, 45), (⟨"DanceStillOwedModel", "paysOf", "(II)I"⟩, 45), (⟨"DanceStillOwedModel", "willOf", "(II)Z"⟩, 45), (⟨"DanceStillOwedModel", "mayDance", "(II)Z"⟩, 45), (⟨"DanceStillOwedModel", "hasBreath", "(I)Z"⟩, 45), (⟨"DanceStillOwedModel", "danceBoth", "(II)I"⟩, 45), (⟨"DanceStillOwedModel", "dances", "(I)V"⟩, 45), (⟨"DanceStillOwedModel", "passes", "()I"⟩, 45)]
theorem lw_r4 : ∀ q ∈ lw_privs_4, lw_okq q := List.forall_mem_cons.mpr ⟨lw_p48, List.forall_mem_cons.mpr ⟨lw_p49, List.forall_mem_cons.mpr ⟨lw_p50, List.forall_mem_cons.mpr ⟨lw_p51, List.forall_mem_cons.mpr ⟨lw_p52, List.forall_mem_cons.mpr ⟨lw_p53, List.forall_mem_cons.mpr ⟨lw_p54, List.forall_mem_cons.mpr ⟨lw_p55, List.forall_mem_cons.mpr ⟨lw_p56, List.forall_mem_cons.mpr ⟨lw_p57, List.forall_mem_cons.mpr ⟨lw_p58, List.forall_mem_cons.mpr ⟨lw_p59, List.forall_mem_cons.mpr ⟨lw_p60, List.forall_mem_cons.mpr ⟨lw_p61, List.forall_mem_cons.mpr ⟨lw_p62, List.forall_mem_cons.mpr ⟨lw_p63, fun _ h => absurd h List.not_mem_nil⟩⟩⟩⟩⟩⟩⟩⟩⟩⟩⟩⟩⟩⟩⟩⟩
theorem lw_p64 : lw_okq (⟨"DanceStillOwedModel", "ringOf", "(I)I"⟩, 45) := ⟨⟨by decide +kernel, by decide +kernel⟩, List.mem_of_getElem? (i := 756) (by decide +kernel), List.mem_of_getElem? (i := 1106) (by decide +kernel), List.mem_of_getElem? (i := 1107) (by decide +kernel)⟩
theorem lw_p65 : lw_okq (⟨"DanceStillOwedModel", "laysAside", "()V"⟩, 45) := ⟨⟨by decide +kernel, by decide +kernel⟩, List.mem_of_getElem? (i := 756) (by decide +kernel), List.mem_of_getElem? (i := 1116) (by decide +kernel), List.mem_of_getElem? (i := 1117) (by decide +kernel)⟩
theorem lw_p66 : lw_okq (⟨"DanceStillOwedModel", "owedAll", "()I"⟩, 45) := ⟨⟨by decide +kernel, by decide +kernel⟩, List.mem_of_getElem? (i := 756) (by decide +kernel), List.mem_of_getElem? (i := 1120) (by decide +kernel), List.mem_of_getElem? (i := 1121) (by decide +kernel)⟩
theorem lw_p67 : lw_okq (⟨"DanceStillOwedModel", "owedSet", "()I"⟩, 45) := ⟨⟨by decide +kernel, by decide +kernel⟩, List.mem_of_getElem? (i := 756) (by decide +kernel), List.mem_of_getElem? (i := 1124) (by decide +kernel), List.mem_of_getElem? (i := 1125) (by decide +kernel)⟩
theorem lw_p68 : lw_okq (⟨"DanceStillOwedModel", "laysBack", "()V"⟩, 45) := ⟨⟨by decide +kernel, by decide +kernel⟩, List.mem_of_getElem? (i := 756) (by decide +kernel), List.mem_of_getElem? (i := 1128) (by decide +kernel), List.mem_of_getElem? (i := 1129) (by decide +kernel)⟩
theorem lw_p69 : lw_okq (⟨"DanceStillOwedModel", "bestSet", "(I)I"⟩, 45) := ⟨⟨by decide +kernel, by decide +kernel⟩, List.mem_of_getElem? (i := 756) (by decide +kernel), List.mem_of_getElem? (i := 1136) (by decide +kernel), List.mem_of_getElem? (i := 1137) (by decide +kernel)⟩
theorem lw_p70 : lw_okq (⟨"DanceStillOwedModel", "isSet", "(I)Z"⟩, 45) := ⟨⟨by decide +kernel, by decide +kernel⟩, List.mem_of_getElem? (i := 756) (by decide +kernel), List.mem_of_getElem? (i := 1140) (by decide +kernel), List.mem_of_getElem? (i := 1141) (by decide +kernel)⟩
theorem lw_p71 : lw_okq (⟨"DanceStillOwedModel", "dancesOf", "(I)I"⟩, 45) := ⟨⟨by decide +kernel, by decide +kernel⟩, List.mem_of_getElem? (i := 756) (by decide +kernel), List.mem_of_getElem? (i := 1150) (by decide +kernel), List.mem_of_getElem? (i := 1151) (by decide +kernel)⟩
theorem lw_p72 : lw_okq (⟨"DanceStillOwedModel", "nextRound", "(I)I"⟩, 45) := ⟨⟨by decide +kernel, by decide +kernel⟩, List.mem_of_getElem? (i := 756) (by decide +kernel), List.mem_of_getElem? (i := 1154) (by decide +kernel), List.mem_of_getElem? (i := 1155) (by decide +kernel)⟩
theorem lw_p73 : lw_okq (⟨"DanceStillOwedModel", "soonest", "()I"⟩, 45) := ⟨⟨by decide +kernel, by decide +kernel⟩, List.mem_of_getElem? (i := 756) (by decide +kernel), List.mem_of_getElem? (i := 1158) (by decide +kernel), List.mem_of_getElem? (i := 1159) (by decide +kernel)⟩
theorem lw_p74 : lw_okq (⟨"DanceStillOwedModel", "isPaidBy", "(I)Z"⟩, 45) := ⟨⟨by decide +kernel, by decide +kernel⟩, List.mem_of_getElem? (i := 756) (by decide +kernel), List.mem_of_getElem? (i := 1162) (by decide +kernel), List.mem_of_getElem? (i := 1163) (by decide +kernel)⟩
theorem lw_p75 : lw_okq (⟨"DanceStillOwedModel", "leastOwed", "()I"⟩, 45) := ⟨⟨by decide +kernel, by decide +kernel⟩, List.mem_of_getElem? (i := 756) (by decide +kernel), List.mem_of_getElem? (i := 1166) (by decide +kernel), List.mem_of_getElem? (i := 1167) (by decide +kernel)⟩
theorem lw_p76 : lw_okq (⟨"DanceStillOwedModel", "longestRing", "()I"⟩, 45) := ⟨⟨by decide +kernel, by decide +kernel⟩, List.mem_of_getElem? (i := 756) (by decide +kernel), List.mem_of_getElem? (i := 1171) (by decide +kernel), List.mem_of_getElem? (i := 1172) (by decide +kernel)⟩
theorem lw_p77 : lw_okq (⟨"DanceStillOwedModel", "ringFrom", "(IIII)I"⟩, 45) := ⟨⟨by decide +kernel, by decide +kernel⟩, List.mem_of_getElem? (i := 756) (by decide +kernel), List.mem_of_getElem? (i := 1175) (by decide +kernel), List.mem_of_getElem? (i := 1176) (by decide +kernel)⟩
theorem lw_p78 : lw_okq (⟨"DanceStillOwedModel", "ends", "()I"⟩, 45) := ⟨⟨by decide +kernel, by decide +kernel⟩, List.mem_of_getElem? (i := 756) (by decide +kernel), List.mem_of_getElem? (i := 1179) (by decide +kernel), List.mem_of_getElem? (i := 1180) (by decide +kernel)⟩
theorem lw_p79 : lw_okq (⟨"DanceStillOwedModel", "keeper", "()I"⟩, 45) := ⟨⟨by decide +kernel, by decide +kernel⟩, List.mem_of_getElem? (i := 756) (by decide +kernel), List.mem_of_getElem? (i := 1183) (by decide +kernel), List.mem_of_getElem? (i := 1184) (by decide +kernel)⟩
def lw_privs_5 : List (MethodName × Nat) := [(⟨"DanceStillOwedModel", "ringOf", "(I)I"⟩, 45), (⟨"DanceStillOwedModel", "laysAside", "()V"⟩, 45), (⟨"DanceStillOwedModel", "owedAll", "()I"⟩, 45), (⟨"DanceStillOwedModel", "owedSet", "()I"⟩, 45), (⟨"DanceStillOwedModel", "laysBack", "()V"⟩, 45), (⟨"DanceStillOwedModel", "bestSet", "(I)I"⟩, 45), (⟨"DanceStillOwedModel", "isSet", "(I)Z"⟩, 45), (⟨"DanceStillOwedModel", "dancesOf", "(I)I"⟩, 45), (⟨"DanceStillOwedModel", "nextRound", "(I)I"⟩, 45), (⟨"DanceStillOwedModel", "soonest", "()I"⟩, 45), (⟨"DanceStillOwedModel", "isPaidBy", "(I)Z"⟩, 45), (⟨"DanceStillOwedModel", "leastOwed", "()I"⟩, 45), (⟨"DanceStillOwedModel", "longestRing", "()I"⟩, 45), (⟨"DanceStillOwedModel", "ringFrom", "(IIII)I"⟩, 45), (⟨"DanceStillOwedModel", "ends", "()I"⟩, 45), (⟨"DanceStillOwedModel", "keeper", "()I"⟩, 45)]
theorem lw_r5 : ∀ q ∈ lw_privs_5, lw_okq q := List.forall_mem_cons.mpr ⟨lw_p64, List.forall_mem_cons.mpr ⟨lw_p65, List.forall_mem_cons.mpr ⟨lw_p66, List.forall_mem_cons.mpr ⟨lw_p67, List.forall_mem_cons.mpr ⟨lw_p68, List.forall_mem_cons.mpr ⟨lw_p69, List.forall_mem_cons.mpr ⟨lw_p70, List.forall_mem_cons.mpr ⟨lw_p71, List.forall_mem_cons.mpr ⟨lw_p72, List.forall_mem_cons.mpr ⟨lw_p73, List.forall_mem_cons.mpr ⟨lw_p74, List.forall_mem_cons.mpr ⟨lw_p75, List.forall_mem_cons.mpr ⟨lw_p76, List.forall_mem_cons.mpr ⟨lw_p77, List.forall_mem_cons.mpr ⟨lw_p78, List.forall_mem_cons.mpr ⟨lw_p79, fun _ h => absurd h List.not_mem_nil⟩⟩⟩⟩⟩⟩⟩⟩⟩⟩⟩⟩⟩⟩⟩⟩
theorem lw_p80 : lw_okq (⟨"DanceStillOwedModel", "firstOther", "(II)I"⟩, 45) := ⟨⟨by decide +kernel, by decide +kernel⟩, List.mem_of_getElem? (i := 756) (by decide +kernel), List.mem_of_getElem? (i := 1203) (by decide +kernel), List.mem_of_getElem? (i := 1204) (by decide +kernel)⟩
theorem lw_p81 : lw_okq (⟨"DanceStillOwedModel", "likeSet", "(II)I"⟩, 45) := ⟨⟨by decide +kernel, by decide +kernel⟩, List.mem_of_getElem? (i := 756) (by decide +kernel), List.mem_of_getElem? (i := 1207) (by decide +kernel), List.mem_of_getElem? (i := 1208) (by decide +kernel)⟩
theorem lw_p82 : lw_okq (⟨"DanceStillOwedModel", "endsDrawn", "(I)I"⟩, 45) := ⟨⟨by decide +kernel, by decide +kernel⟩, List.mem_of_getElem? (i := 756) (by decide +kernel), List.mem_of_getElem? (i := 1225) (by decide +kernel), List.mem_of_getElem? (i := 1226) (by decide +kernel)⟩
def lw_privs_6 : List (MethodName × Nat) := [(⟨"DanceStillOwedModel", "firstOther", "(II)I"⟩, 45), (⟨"DanceStillOwedModel", "likeSet", "(II)I"⟩, 45), (⟨"DanceStillOwedModel", "endsDrawn", "(I)I"⟩, 45)]
theorem lw_r6 : ∀ q ∈ lw_privs_6, lw_okq q := List.forall_mem_cons.mpr ⟨lw_p80, List.forall_mem_cons.mpr ⟨lw_p81, List.forall_mem_cons.mpr ⟨lw_p82, fun _ h => absurd h List.not_mem_nil⟩⟩⟩
def lw_privs : List (MethodName × Nat) := lw_privs_1 ++ (lw_privs_2 ++ (lw_privs_3 ++ (lw_privs_4 ++ (lw_privs_5 ++ (lw_privs_6)))))
def lw_tbl : List Cond := k2_sels lw_privs ++ tables_1
theorem lw_privs_ok : ∀ q ∈ lw_privs, lw_okq q := by
  show ∀ q ∈ lw_privs_1 ++ (lw_privs_2 ++ (lw_privs_3 ++ (lw_privs_4 ++ (lw_privs_5 ++ (lw_privs_6))))), lw_okq q
  exact List.forall_mem_append.mpr ⟨lw_r1, List.forall_mem_append.mpr ⟨lw_r2, List.forall_mem_append.mpr ⟨lw_r3, List.forall_mem_append.mpr ⟨lw_r4, List.forall_mem_append.mpr ⟨lw_r5, lw_r6⟩⟩⟩⟩⟩
-- ===== end of PART A; then your names; then what follows =====
theorem goodIn_r {big : List Cond} (ws : List Cond) (ps : List Nat) (hp : ws = ps.filterMap (fun i => big[i]?)) (h : ws.all goodWord = true) : GoodIn big ws := by
  intro w hw
  have h1 := List.all_eq_true.mp h w hw
  rw [hp] at hw
  obtain ⟨i, -, hi⟩ := List.mem_filterMap.mp hw
  have hm : w ∈ big := by first | exact List.mem_of_getElem? hi | exact List.getElem?_mem hi
  exact ⟨hm, good_of_word h1⟩
theorem goodIn_app {big a b : List Cond} (ha : GoodIn big a) (hb : GoodIn big b) : GoodIn big (a ++ b) := fun w h => (List.mem_append.mp h).elim (ha w) (hb w)
theorem goodIn_ca {big a b : List Cond} {c : Cond} (ha : GoodIn big (c :: a)) (hb : GoodIn big b) : GoodIn big (c :: (a ++ b)) := fun w h => (List.mem_cons.mp h).elim (fun e => ha w (List.mem_cons.mpr (Or.inl e))) (fun h => (List.mem_append.mp h).elim (fun h => ha w (List.mem_cons.mpr (Or.inr h))) (hb w))
theorem goodIn_sub {big ws : List Cond} (hm : ∀ w ∈ ws, w ∈ big) (h : ws.all goodWord = true) : GoodIn big ws := fun w hw => ⟨hm w hw, good_of_word (List.all_eq_true.mp h w hw)⟩
def RX0 : String := "DanceStillOwed$Floor"
def TX0 : u_T := fun k => match k with
  | 0 => ("DanceStillOwed$Floor", "rules", "LDanceStillOwed$Rules;", true)
  | 1 => ("DanceStillOwed$Floor", "dancers", "I", false)
  | 2 => ("DanceStillOwed$Floor", "round", "I", false)
  | 3 => ("DanceStillOwed$Floor", "night", "I", false)
  | 4 => ("DanceStillOwed$Floor", "rule", "I", false)
  | 5 => ("DanceStillOwed$Floor", "kind", "[I", true)
  | 6 => ("DanceStillOwed$Floor", "number", "[I", true)
  | 7 => ("DanceStillOwed$Floor", "done", "[I", true)
  | 8 => ("DanceStillOwed$Floor", "debt", "[I", true)
  | 9 => ("DanceStillOwed$Floor", "danced", "I", false)
  | 10 => ("DanceStillOwed$Floor", "mayDance", "I", false)
  | 11 => ("DanceStillOwed$Floor", "paidByLesser", "[I", true)
  | _ => ("DanceStillOwed$Floor", "paidByGreater", "[I", true)
def tyX0 : Nat → FieldType := fun k => match k with
  | 0 => .object "DanceStillOwed$Rules"
  | 1 => .int
  | 2 => .int
  | 3 => .int
  | 4 => .int
  | 5 => .array .int
  | 6 => .array .int
  | 7 => .array .int
  | 8 => .array .int
  | 9 => .int
  | 10 => .int
  | 11 => .array .int
  | _ => .array .int
abbrev wsX00 : List Cond := u_ws RX0 TX0 13
theorem nmX0 : ∀ a, a < 13 → ∀ b, b < 13 → a ≠ b → (TX0 a).2.1 ≠ (TX0 b).2.1 := by decide +kernel
theorem tyX0_ok : ∀ k, k < 13 → parseFieldDescriptor (TX0 k).2.2.1 = some (tyX0 k) := by decide +kernel
abbrev cX0_init : ByteArray := prog_2_method_1_code
def yX0_init : MethodName := ⟨RX0, "<init>", "(LDanceStillOwed$Rules;)V"⟩
abbrev cX0_takeFrom : ByteArray := prog_2_method_2_code
def yX0_takeFrom : MethodName := ⟨RX0, "takeFrom", "(LDanceStillOwed$Floor;)V"⟩
abbrev cX0_join : ByteArray := prog_2_method_3_code
def yX0_join : MethodName := ⟨RX0, "join", "(II)I"⟩
abbrev cX0_owing : ByteArray := prog_2_method_4_code
def yX0_owing : MethodName := ⟨RX0, "owing", "(II)I"⟩
abbrev cX0_owes : ByteArray := prog_2_method_5_code
def yX0_owes : MethodName := ⟨RX0, "owes", "(I)I"⟩
abbrev cX0_owedTo : ByteArray := prog_2_method_6_code
def yX0_owedTo : MethodName := ⟨RX0, "owedTo", "(I)I"⟩
abbrev cX0_all : ByteArray := prog_2_method_7_code
def yX0_all : MethodName := ⟨RX0, "all", "()I"⟩
abbrev cX0_value : ByteArray := prog_2_method_8_code
def yX0_value : MethodName := ⟨RX0, "value", "(III)I"⟩
abbrev cX0_pays : ByteArray := prog_2_method_9_code
def yX0_pays : MethodName := ⟨RX0, "pays", "(II)I"⟩
abbrev cX0_will : ByteArray := prog_2_method_10_code
def yX0_will : MethodName := ⟨RX0, "will", "(II)Z"⟩
abbrev cX0_breath : ByteArray := prog_2_method_11_code
def yX0_breath : MethodName := ⟨RX0, "breath", "(I)I"⟩
abbrev cX0_may : ByteArray := prog_2_method_12_code
def yX0_may : MethodName := ⟨RX0, "may", "(II)Z"⟩
abbrev cX0_step : ByteArray := prog_2_method_13_code
def yX0_step : MethodName := ⟨RX0, "step", "(II)I"⟩
abbrev cX0_lessen : ByteArray := prog_2_method_14_code
def yX0_lessen : MethodName := ⟨RX0, "lessen", "(III)V"⟩
abbrev cX0_settle : ByteArray := prog_2_method_15_code
def yX0_settle : MethodName := ⟨RX0, "settle", "(IIII)V"⟩
abbrev cX0_danceRound : ByteArray := prog_2_method_16_code
def yX0_danceRound : MethodName := ⟨RX0, "danceRound", "()I"⟩
abbrev cX0_endNight : ByteArray := prog_2_method_17_code
def yX0_endNight : MethodName := ⟨RX0, "endNight", "()I"⟩
abbrev cX0_ends : ByteArray := prog_2_method_18_code
def yX0_ends : MethodName := ⟨RX0, "ends", "()I"⟩
abbrev cX0_draw : ByteArray := prog_2_method_19_code
def yX0_draw : MethodName := ⟨RX0, "draw", "(I)V"⟩
abbrev cX0_stillOwed : ByteArray := prog_2_method_20_code
def yX0_stillOwed : MethodName := ⟨RX0, "stillOwed", "()I"⟩
abbrev cX0_keeps : ByteArray := prog_2_method_21_code
def yX0_keeps : MethodName := ⟨RX0, "keeps", "()I"⟩
abbrev cX0_least : ByteArray := prog_2_method_22_code
def yX0_least : MethodName := ⟨RX0, "least", "()I"⟩
abbrev cX0_ring : ByteArray := prog_2_method_23_code
def yX0_ring : MethodName := ⟨RX0, "ring", "()I"⟩
abbrev cX0_longest : ByteArray := prog_2_method_24_code
def yX0_longest : MethodName := ⟨RX0, "longest", "(IIII)I"⟩
abbrev cX0_mostToMeet : ByteArray := prog_2_method_25_code
def yX0_mostToMeet : MethodName := ⟨RX0, "mostToMeet", "()I"⟩
abbrev cX0_weigh : ByteArray := prog_2_method_26_code
def yX0_weigh : MethodName := ⟨RX0, "weigh", "()V"⟩
abbrev cX0_mayAll : ByteArray := prog_2_method_27_code
def yX0_mayAll : MethodName := ⟨RX0, "mayAll", "(I)Z"⟩
abbrev cX0_paidBy : ByteArray := prog_2_method_28_code
def yX0_paidBy : MethodName := ⟨RX0, "paidBy", "(I)I"⟩
abbrev cX0_bestSet : ByteArray := prog_2_method_29_code
def yX0_bestSet : MethodName := ⟨RX0, "bestSet", "()I"⟩
abbrev cX0_danceSet : ByteArray := prog_2_method_30_code
def yX0_danceSet : MethodName := ⟨RX0, "danceSet", "(ILDanceStillOwed$Floor;)V"⟩
abbrev cX0_firstOtherwise : ByteArray := prog_2_method_31_code
def yX0_firstOtherwise : MethodName := ⟨RX0, "firstOtherwise", "(LDanceStillOwed$Sheet;I)I"⟩
abbrev cX0_paysAs : ByteArray := prog_2_method_32_code
def yX0_paysAs : MethodName := ⟨RX0, "paysAs", "(LDanceStillOwed$Sheet;I)Z"⟩
def RX1 : String := "DanceStillOwed$Reader"
def TX1 : u_T := fun k => match k with
  | 0 => ("DanceStillOwed$Reader", "tape", "[I", true)
  | 1 => ("DanceStillOwed$Reader", "size", "I", false)
  | 2 => ("DanceStillOwed$Reader", "code", "[I", true)
  | 3 => ("DanceStillOwed$Reader", "used", "I", false)
  | 4 => ("DanceStillOwed$Reader", "ends", "[I", true)
  | 5 => ("DanceStillOwed$Reader", "at", "I", false)
  | 6 => ("DanceStillOwed$Reader", "token", "I", false)
  | 7 => ("DanceStillOwed$Reader", "number", "I", false)
  | 8 => ("DanceStillOwed$Reader", "begin", "I", false)
  | _ => ("DanceStillOwed$Reader", "open", "I", false)
def tyX1 : Nat → FieldType := fun k => match k with
  | 0 => .array .int
  | 1 => .int
  | 2 => .array .int
  | 3 => .int
  | 4 => .array .int
  | 5 => .int
  | 6 => .int
  | 7 => .int
  | 8 => .int
  | _ => .int
abbrev wsX10 : List Cond := u_ws RX1 TX1 10
theorem nmX1 : ∀ a, a < 10 → ∀ b, b < 10 → a ≠ b → (TX1 a).2.1 ≠ (TX1 b).2.1 := by decide +kernel
theorem tyX1_ok : ∀ k, k < 10 → parseFieldDescriptor (TX1 k).2.2.1 = some (tyX1 k) := by decide +kernel
abbrev cX1_init : ByteArray := prog_3_method_1_code
def yX1_init : MethodName := ⟨RX1, "<init>", "()V"⟩
abbrev cX1_hold : ByteArray := prog_3_method_2_code
def yX1_hold : MethodName := ⟨RX1, "hold", "(I)Z"⟩
abbrev cX1_read : ByteArray := prog_3_method_3_code
def yX1_read : MethodName := ⟨RX1, "read", "()LDanceStillOwed$Text;"⟩
abbrev cX1_pass : ByteArray := prog_3_method_4_code
def yX1_pass : MethodName := ⟨RX1, "pass", "(I)Z"⟩
abbrev cX1_put : ByteArray := prog_3_method_5_code
def yX1_put : MethodName := ⟨RX1, "put", "(I)Z"⟩
abbrev cX1_either : ByteArray := prog_3_method_6_code
def yX1_either : MethodName := ⟨RX1, "either", "()Z"⟩
abbrev cX1_both : ByteArray := prog_3_method_7_code
def yX1_both : MethodName := ⟨RX1, "both", "()Z"⟩
abbrev cX1_denied : ByteArray := prog_3_method_8_code
def yX1_denied : MethodName := ⟨RX1, "denied", "()Z"⟩
abbrev cX1_compared : ByteArray := prog_3_method_9_code
def yX1_compared : MethodName := ⟨RX1, "compared", "()Z"⟩
abbrev cX1_sum : ByteArray := prog_3_method_10_code
def yX1_sum : MethodName := ⟨RX1, "sum", "()Z"⟩
abbrev cX1_term : ByteArray := prog_3_method_11_code
def yX1_term : MethodName := ⟨RX1, "term", "()Z"⟩
abbrev cX1_one : ByteArray := prog_3_method_12_code
def yX1_one : MethodName := ⟨RX1, "one", "()Z"⟩
abbrev cX1_opens : ByteArray := prog_3_method_13_code
def yX1_opens : MethodName := ⟨RX1, "opens", "()Z"⟩
abbrev cX1_next : ByteArray := prog_3_method_14_code
def yX1_next : MethodName := ⟨RX1, "next", "()V"⟩
abbrev cX1_nextNumber : ByteArray := prog_3_method_15_code
def yX1_nextNumber : MethodName := ⟨RX1, "nextNumber", "()V"⟩
abbrev cX1_nextWord : ByteArray := prog_3_method_16_code
def yX1_nextWord : MethodName := ⟨RX1, "nextWord", "()V"⟩
abbrev cX1_spells : ByteArray := prog_3_method_17_code
def yX1_spells : MethodName := ⟨RX1, "spells", "(Ljava/lang/String;)Z"⟩
abbrev cX1_isDigit : ByteArray := prog_3_method_18_code
def yX1_isDigit : MethodName := ⟨RX1, "isDigit", "(I)Z"⟩
abbrev cX1_isLetter : ByteArray := prog_3_method_19_code
def yX1_isLetter : MethodName := ⟨RX1, "isLetter", "(I)Z"⟩
def RX2 : String := "DanceStillOwed$Rules"
def TX2 : u_T := fun k => match k with
  | 0 => ("DanceStillOwed$Rules", "texts", "[LDanceStillOwed$Text;", true)
  | 1 => ("DanceStillOwed$Rules", "count", "I", false)
  | 2 => ("DanceStillOwed$Rules", "names", "[I", true)
  | _ => ("DanceStillOwed$Rules", "stack", "[I", true)
def tyX2 : Nat → FieldType := fun k => match k with
  | 0 => .array (.object "DanceStillOwed$Text")
  | 1 => .int
  | 2 => .array .int
  | _ => .array .int
abbrev wsX20 : List Cond := u_ws RX2 TX2 4
theorem nmX2 : ∀ a, a < 4 → ∀ b, b < 4 → a ≠ b → (TX2 a).2.1 ≠ (TX2 b).2.1 := by decide +kernel
theorem tyX2_ok : ∀ k, k < 4 → parseFieldDescriptor (TX2 k).2.2.1 = some (tyX2 k) := by decide +kernel
abbrev cX2_init : ByteArray := prog_4_method_1_code
def yX2_init : MethodName := ⟨RX2, "<init>", "()V"⟩
abbrev cX2_keep : ByteArray := prog_4_method_2_code
def yX2_keep : MethodName := ⟨RX2, "keep", "(LDanceStillOwed$Text;)I"⟩
abbrev cX2_value : ByteArray := prog_4_method_3_code
def yX2_value : MethodName := ⟨RX2, "value", "(II)I"⟩
def RX3 : String := "DanceStillOwed$Sheet"
def TX3 : u_T := fun k => match k with
  | 0 => ("DanceStillOwed$Sheet", "sort", "I", false)
  | 1 => ("DanceStillOwed$Sheet", "size", "I", false)
  | _ => ("DanceStillOwed$Sheet", "row", "[I", true)
def tyX3 : Nat → FieldType := fun k => match k with
  | 0 => .int
  | 1 => .int
  | _ => .array .int
abbrev wsX30 : List Cond := u_ws RX3 TX3 3
theorem nmX3 : ∀ a, a < 3 → ∀ b, b < 3 → a ≠ b → (TX3 a).2.1 ≠ (TX3 b).2.1 := by decide +kernel
theorem tyX3_ok : ∀ k, k < 3 → parseFieldDescriptor (TX3 k).2.2.1 = some (tyX3 k) := by decide +kernel
abbrev cX3_init : ByteArray := prog_5_method_1_code
def yX3_init : MethodName := ⟨RX3, "<init>", "()V"⟩
abbrev cX3_become : ByteArray := prog_5_method_2_code
def yX3_become : MethodName := ⟨RX3, "become", "(II)V"⟩
abbrev cX3_holds : ByteArray := prog_5_method_3_code
def yX3_holds : MethodName := ⟨RX3, "holds", "(II)Z"⟩
abbrev cX3_put : ByteArray := prog_5_method_4_code
def yX3_put : MethodName := ⟨RX3, "put", "(II)V"⟩
def RX4 : String := "DanceStillOwed$Text"
def TX4 : u_T := fun k => match k with
  | 0 => ("DanceStillOwed$Text", "code", "[I", true)
  | _ => ("DanceStillOwed$Text", "ends", "[I", true)
def tyX4 : Nat → FieldType := fun k => match k with
  | 0 => .array .int
  | _ => .array .int
abbrev wsX40 : List Cond := u_ws RX4 TX4 2
theorem nmX4 : ∀ a, a < 2 → ∀ b, b < 2 → a ≠ b → (TX4 a).2.1 ≠ (TX4 b).2.1 := by decide +kernel
theorem tyX4_ok : ∀ k, k < 2 → parseFieldDescriptor (TX4 k).2.2.1 = some (tyX4 k) := by decide +kernel
abbrev cX4_init : ByteArray := prog_6_method_1_code
def yX4_init : MethodName := ⟨RX4, "<init>", "([I[I)V"⟩
def RX5 : String := "DanceStillOwed"
def TX5 : u_T := fun k => match k with
  | 0 => ("DanceStillOwed", "rules", "LDanceStillOwed$Rules;", true)
  | 1 => ("DanceStillOwed", "now", "LDanceStillOwed$Floor;", true)
  | 2 => ("DanceStillOwed", "kept", "LDanceStillOwed$Floor;", true)
  | 3 => ("DanceStillOwed", "thoughts", "[LDanceStillOwed$Floor;", true)
  | 4 => ("DanceStillOwed", "reader", "LDanceStillOwed$Reader;", true)
  | 5 => ("DanceStillOwed", "sheets", "[LDanceStillOwed$Sheet;", true)
  | 6 => ("DanceStillOwed", "imageKept", "Z", false)
  | _ => ("DanceStillOwed", "ring", "[I", true)
def tyX5 : Nat → FieldType := fun k => match k with
  | 0 => .object "DanceStillOwed$Rules"
  | 1 => .object "DanceStillOwed$Floor"
  | 2 => .object "DanceStillOwed$Floor"
  | 3 => .array (.object "DanceStillOwed$Floor")
  | 4 => .object "DanceStillOwed$Reader"
  | 5 => .array (.object "DanceStillOwed$Sheet")
  | 6 => .boolean
  | _ => .array .int
abbrev wsX50 : List Cond := u_ws RX5 TX5 8
theorem nmX5 : ∀ a, a < 8 → ∀ b, b < 8 → a ≠ b → (TX5 a).2.1 ≠ (TX5 b).2.1 := by decide +kernel
theorem tyX5_ok : ∀ k, k < 8 → parseFieldDescriptor (TX5 k).2.2.1 = some (tyX5 k) := by decide +kernel
abbrev cX5_init : ByteArray := prog_1_method_1_code
def yX5_init : MethodName := ⟨RX5, "<init>", "()V"⟩
abbrev cX5_set : ByteArray := prog_1_method_2_code
def yX5_set : MethodName := ⟨RX5, "set", "(III)I"⟩
abbrev cX5_dancer : ByteArray := prog_1_method_3_code
def yX5_dancer : MethodName := ⟨RX5, "dancer", "(II)I"⟩
abbrev cX5_told : ByteArray := prog_1_method_4_code
def yX5_told : MethodName := ⟨RX5, "told", "(II)I"⟩
abbrev cX5_asks : ByteArray := prog_1_method_5_code
def yX5_asks : MethodName := ⟨RX5, "asks", "(III)I"⟩
abbrev cX5_isDancer : ByteArray := prog_1_method_6_code
def yX5_isDancer : MethodName := ⟨RX5, "isDancer", "(I)Z"⟩
abbrev cX5_isTwo : ByteArray := prog_1_method_7_code
def yX5_isTwo : MethodName := ⟨RX5, "isTwo", "(II)Z"⟩
abbrev cX5_debtPlace : ByteArray := prog_1_method_8_code
def yX5_debtPlace : MethodName := ⟨RX5, "debtPlace", "(I)I"⟩
abbrev cX5_feed : ByteArray := prog_1_method_9_code
def yX5_feed : MethodName := ⟨RX5, "feed", "(I)I"⟩
abbrev cX5_text : ByteArray := prog_1_method_10_code
def yX5_text : MethodName := ⟨RX5, "text", "()I"⟩
abbrev cX5_force : ByteArray := prog_1_method_11_code
def yX5_force : MethodName := ⟨RX5, "force", "(I)I"⟩
abbrev cX5_dance : ByteArray := prog_1_method_12_code
def yX5_dance : MethodName := ⟨RX5, "dance", "(II)I"⟩
abbrev cX5_round : ByteArray := prog_1_method_13_code
def yX5_round : MethodName := ⟨RX5, "round", "()I"⟩
abbrev cX5_night : ByteArray := prog_1_method_14_code
def yX5_night : MethodName := ⟨RX5, "night", "()I"⟩
abbrev cX5_strike : ByteArray := prog_1_method_15_code
def yX5_strike : MethodName := ⟨RX5, "strike", "(I)I"⟩
abbrev cX5_readRing : ByteArray := prog_1_method_16_code
def yX5_readRing : MethodName := ⟨RX5, "readRing", "(I)I"⟩
abbrev cX5_run : ByteArray := prog_1_method_17_code
def yX5_run : MethodName := ⟨RX5, "run", "(IIII)I"⟩
abbrev cX5_think : ByteArray := prog_1_method_18_code
def yX5_think : MethodName := ⟨RX5, "think", "()LDanceStillOwed$Floor;"⟩
abbrev cX5_best : ByteArray := prog_1_method_19_code
def yX5_best : MethodName := ⟨RX5, "best", "(I)I"⟩
abbrev cX5_share : ByteArray := prog_1_method_20_code
def yX5_share : MethodName := ⟨RX5, "share", "(II)J"⟩
abbrev cX5_sitters : ByteArray := prog_1_method_21_code
def yX5_sitters : MethodName := ⟨RX5, "sitters", "()I"⟩
abbrev cX5_soonest : ByteArray := prog_1_method_22_code
def yX5_soonest : MethodName := ⟨RX5, "soonest", "()I"⟩
abbrev cX5_clears : ByteArray := prog_1_method_23_code
def yX5_clears : MethodName := ⟨RX5, "clears", "(II)Z"⟩
abbrev cX5_lowest : ByteArray := prog_1_method_24_code
def yX5_lowest : MethodName := ⟨RX5, "lowest", "(III)J"⟩
abbrev cX5_tells : ByteArray := prog_1_method_25_code
def yX5_tells : MethodName := ⟨RX5, "tells", "(IIII)I"⟩
abbrev cX5_kindsTold : ByteArray := prog_1_method_26_code
def yX5_kindsTold : MethodName := ⟨RX5, "kindsTold", "(LDanceStillOwed$Sheet;I)I"⟩
abbrev cX5_numbersTold : ByteArray := prog_1_method_27_code
def yX5_numbersTold : MethodName := ⟨RX5, "numbersTold", "(LDanceStillOwed$Sheet;I)I"⟩
abbrev cX5_roundsTold : ByteArray := prog_1_method_28_code
def yX5_roundsTold : MethodName := ⟨RX5, "roundsTold", "(LDanceStillOwed$Sheet;IZ)I"⟩
abbrev cX5_donesTold : ByteArray := prog_1_method_29_code
def yX5_donesTold : MethodName := ⟨RX5, "donesTold", "(LDanceStillOwed$Sheet;IZ)I"⟩
abbrev cX5_textsTold : ByteArray := prog_1_method_30_code
def yX5_textsTold : MethodName := ⟨RX5, "textsTold", "(LDanceStillOwed$Sheet;I)I"⟩
abbrev cX5_dancersTold : ByteArray := prog_1_method_31_code
def yX5_dancersTold : MethodName := ⟨RX5, "dancersTold", "(LDanceStillOwed$Sheet;I)I"⟩
abbrev cX5_film : ByteArray := prog_1_method_32_code
def yX5_film : MethodName := ⟨RX5, "film", "(IIII)I"⟩
abbrev cX5_drawn : ByteArray := prog_1_method_33_code
def yX5_drawn : MethodName := ⟨RX5, "drawn", "(I)I"⟩
abbrev cX5_chance : ByteArray := prog_1_method_34_code
def yX5_chance : MethodName := ⟨RX5, "chance", "(IIII)J"⟩
abbrev cX5_image : ByteArray := prog_1_method_35_code
def yX5_image : MethodName := ⟨RX5, "image", "()I"⟩
abbrev cX5_back : ByteArray := prog_1_method_36_code
def yX5_back : MethodName := ⟨RX5, "back", "()I"⟩
abbrev cX5_count : ByteArray := prog_1_method_37_code
def yX5_count : MethodName := ⟨RX5, "count", "(I)I"⟩
abbrev cX5_sheet : ByteArray := prog_1_method_38_code
def yX5_sheet : MethodName := ⟨RX5, "sheet", "(III)I"⟩
abbrev cX5_cell : ByteArray := prog_1_method_39_code
def yX5_cell : MethodName := ⟨RX5, "cell", "(III)I"⟩
abbrev cX5_copy : ByteArray := prog_1_method_40_code
def yX5_copy : MethodName := ⟨RX5, "copy", "(IIIII)I"⟩
abbrev cX5_room : ByteArray := prog_1_method_41_code
def yX5_room : MethodName := ⟨RX5, "room", "(IIII)I"⟩
abbrev cX5_taken : ByteArray := prog_1_method_42_code
def yX5_taken : MethodName := ⟨RX5, "taken", "(II)I"⟩
abbrev cX5_isSheet : ByteArray := prog_1_method_43_code
def yX5_isSheet : MethodName := ⟨RX5, "isSheet", "(I)Z"⟩
abbrev cX5_isSort : ByteArray := prog_1_method_44_code
def yX5_isSort : MethodName := ⟨RX5, "isSort", "(I)Z"⟩
abbrev cX5_within : ByteArray := prog_1_method_45_code
def yX5_within : MethodName := ⟨RX5, "within", "(II)I"⟩
def RX6 : String := "DanceStillOwedModel"
def TX6 : u_T := fun k => match k with
  | 0 => ("DanceStillOwedModel", "thrown", "I", false)
  | 1 => ("DanceStillOwedModel", "texts", "[I", true)
  | 2 => ("DanceStillOwedModel", "textSize", "[I", true)
  | 3 => ("DanceStillOwedModel", "textCount", "I", false)
  | 4 => ("DanceStillOwedModel", "rule", "I", false)
  | 5 => ("DanceStillOwedModel", "tape", "[I", true)
  | 6 => ("DanceStillOwedModel", "taped", "I", false)
  | 7 => ("DanceStillOwedModel", "roundNow", "I", false)
  | 8 => ("DanceStillOwedModel", "nightNow", "I", false)
  | 9 => ("DanceStillOwedModel", "kinds", "[I", true)
  | 10 => ("DanceStillOwedModel", "rows", "[I", true)
  | 11 => ("DanceStillOwedModel", "debts", "[I", true)
  | 12 => ("DanceStillOwedModel", "many", "I", false)
  | 13 => ("DanceStillOwedModel", "matches", "[I", true)
  | 14 => ("DanceStillOwedModel", "ofDebt", "I", false)
  | 15 => ("DanceStillOwedModel", "ofOwed", "I", false)
  | 16 => ("DanceStillOwedModel", "ofNumber", "I", false)
  | 17 => ("DanceStillOwedModel", "ofRound", "I", false)
  | 18 => ("DanceStillOwedModel", "ofDone", "I", false)
  | 19 => ("DanceStillOwedModel", "ofNight", "I", false)
  | 20 => ("DanceStillOwedModel", "from", "I", false)
  | 21 => ("DanceStillOwedModel", "size", "I", false)
  | 22 => ("DanceStillOwedModel", "here", "I", false)
  | 23 => ("DanceStillOwedModel", "token", "I", false)
  | 24 => ("DanceStillOwedModel", "tokenAt", "I", false)
  | 25 => ("DanceStillOwedModel", "tokenWorth", "J", false)
  | 26 => ("DanceStillOwedModel", "open", "I", false)
  | 27 => ("DanceStillOwedModel", "bad", "Z", false)
  | 28 => ("DanceStillOwedModel", "fault", "I", false)
  | 29 => ("DanceStillOwedModel", "dancedSet", "I", false)
  | 30 => ("DanceStillOwedModel", "ring1", "[I", true)
  | 31 => ("DanceStillOwedModel", "was", "[I", true)
  | 32 => ("DanceStillOwedModel", "debtsThen", "[I", true)
  | 33 => ("DanceStillOwedModel", "rowsThen", "[I", true)
  | 34 => ("DanceStillOwedModel", "debtsWas", "[I", true)
  | 35 => ("DanceStillOwedModel", "debtsKept", "[I", true)
  | 36 => ("DanceStillOwedModel", "rowsKept", "[I", true)
  | 37 => ("DanceStillOwedModel", "manyKept", "I", false)
  | 38 => ("DanceStillOwedModel", "roundKept", "I", false)
  | 39 => ("DanceStillOwedModel", "nightKept", "I", false)
  | 40 => ("DanceStillOwedModel", "ruleKept", "I", false)
  | 41 => ("DanceStillOwedModel", "isThere", "[Z", true)
  | 42 => ("DanceStillOwedModel", "sorts", "[I", true)
  | 43 => ("DanceStillOwedModel", "sheetSize", "[I", true)
  | _ => ("DanceStillOwedModel", "items", "[I", true)
def tyX6 : Nat → FieldType := fun k => match k with
  | 0 => .int
  | 1 => .array .int
  | 2 => .array .int
  | 3 => .int
  | 4 => .int
  | 5 => .array .int
  | 6 => .int
  | 7 => .int
  | 8 => .int
  | 9 => .array .int
  | 10 => .array .int
  | 11 => .array .int
  | 12 => .int
  | 13 => .array .int
  | 14 => .int
  | 15 => .int
  | 16 => .int
  | 17 => .int
  | 18 => .int
  | 19 => .int
  | 20 => .int
  | 21 => .int
  | 22 => .int
  | 23 => .int
  | 24 => .int
  | 25 => .long
  | 26 => .int
  | 27 => .boolean
  | 28 => .int
  | 29 => .int
  | 30 => .array .int
  | 31 => .array .int
  | 32 => .array .int
  | 33 => .array .int
  | 34 => .array .int
  | 35 => .array .int
  | 36 => .array .int
  | 37 => .int
  | 38 => .int
  | 39 => .int
  | 40 => .int
  | 41 => .array .boolean
  | 42 => .array .int
  | 43 => .array .int
  | _ => .array .int
abbrev wsX60 : List Cond := u_ws RX6 TX6 45
theorem nmX6 : ∀ a, a < 45 → ∀ b, b < 45 → a ≠ b → (TX6 a).2.1 ≠ (TX6 b).2.1 := by decide +kernel
theorem tyX6_ok : ∀ k, k < 45 → parseFieldDescriptor (TX6 k).2.2.1 = some (tyX6 k) := by decide +kernel
abbrev cX6_in : ByteArray := prog_8_method_2_code
def yX6_in : MethodName := ⟨RX6, "in", "(JJJ)Z"⟩
abbrev cX6_within : ByteArray := prog_8_method_3_code
def yX6_within : MethodName := ⟨RX6, "within", "(III)I"⟩
abbrev cX6_init : ByteArray := prog_8_method_4_code
def yX6_init : MethodName := ⟨RX6, "<init>", "()V"⟩
abbrev cX6_spell : ByteArray := prog_8_method_5_code
def yX6_spell : MethodName := ⟨RX6, "spell", "(IIIIIIIII)V"⟩
abbrev cX6_isOne : ByteArray := prog_8_method_6_code
def yX6_isOne : MethodName := ⟨RX6, "isOne", "(I)Z"⟩
abbrev cX6_areTwo : ByteArray := prog_8_method_7_code
def yX6_areTwo : MethodName := ⟨RX6, "areTwo", "(II)Z"⟩
abbrev cX6_isOf : ByteArray := prog_8_method_8_code
def yX6_isOf : MethodName := ⟨RX6, "isOf", "(II)Z"⟩
abbrev cX6_placeOf : ByteArray := prog_8_method_9_code
def yX6_placeOf : MethodName := ⟨RX6, "placeOf", "(I)I"⟩
abbrev cX6_mostOf : ByteArray := prog_8_method_10_code
def yX6_mostOf : MethodName := ⟨RX6, "mostOf", "(I)I"⟩
abbrev cX6_set : ByteArray := prog_8_method_11_code
def yX6_set : MethodName := ⟨RX6, "set", "(III)I"⟩
abbrev cX6_lays : ByteArray := prog_8_method_12_code
def yX6_lays : MethodName := ⟨RX6, "lays", "(III)V"⟩
abbrev cX6_dancer : ByteArray := prog_8_method_13_code
def yX6_dancer : MethodName := ⟨RX6, "dancer", "(II)I"⟩
abbrev cX6_told : ByteArray := prog_8_method_14_code
def yX6_told : MethodName := ⟨RX6, "told", "(II)I"⟩
abbrev cX6_debtOf : ByteArray := prog_8_method_15_code
def yX6_debtOf : MethodName := ⟨RX6, "debtOf", "(II)I"⟩
abbrev cX6_owesOf : ByteArray := prog_8_method_16_code
def yX6_owesOf : MethodName := ⟨RX6, "owesOf", "(I)I"⟩
abbrev cX6_owedTo : ByteArray := prog_8_method_17_code
def yX6_owedTo : MethodName := ⟨RX6, "owedTo", "(I)I"⟩
abbrev cX6_owedAll : ByteArray := prog_8_method_18_code
def yX6_owedAll : MethodName := ⟨RX6, "owedAll", "()I"⟩
abbrev cX6_feed : ByteArray := prog_8_method_19_code
def yX6_feed : MethodName := ⟨RX6, "feed", "(I)I"⟩
abbrev cX6_byteAt : ByteArray := prog_8_method_20_code
def yX6_byteAt : MethodName := ⟨RX6, "byteAt", "(I)I"⟩
abbrev cX6_next : ByteArray := prog_8_method_21_code
def yX6_next : MethodName := ⟨RX6, "next", "()V"⟩
abbrev cX6_fail : ByteArray := prog_8_method_22_code
def yX6_fail : MethodName := ⟨RX6, "fail", "()V"⟩
abbrev cX6_isLetter : ByteArray := prog_8_method_23_code
def yX6_isLetter : MethodName := ⟨RX6, "isLetter", "(II)Z"⟩
abbrev cX6_isWord : ByteArray := prog_8_method_24_code
def yX6_isWord : MethodName := ⟨RX6, "isWord", "(IIIIIIII)Z"⟩
abbrev cX6_isSign : ByteArray := prog_8_method_25_code
def yX6_isSign : MethodName := ⟨RX6, "isSign", "(I)Z"⟩
abbrev cX6_opens : ByteArray := prog_8_method_26_code
def yX6_opens : MethodName := ⟨RX6, "opens", "()Z"⟩
abbrev cX6_name : ByteArray := prog_8_method_27_code
def yX6_name : MethodName := ⟨RX6, "name", "()I"⟩
abbrev cX6_atom : ByteArray := prog_8_method_28_code
def yX6_atom : MethodName := ⟨RX6, "atom", "()I"⟩
abbrev cX6_term : ByteArray := prog_8_method_29_code
def yX6_term : MethodName := ⟨RX6, "term", "()I"⟩
abbrev cX6_added : ByteArray := prog_8_method_30_code
def yX6_added : MethodName := ⟨RX6, "added", "()I"⟩
abbrev cX6_not : ByteArray := prog_8_method_31_code
def yX6_not : MethodName := ⟨RX6, "not", "()I"⟩
abbrev cX6_both : ByteArray := prog_8_method_32_code
def yX6_both : MethodName := ⟨RX6, "both", "()I"⟩
abbrev cX6_either : ByteArray := prog_8_method_33_code
def yX6_either : MethodName := ⟨RX6, "either", "()I"⟩
abbrev cX6_part : ByteArray := prog_8_method_34_code
def yX6_part : MethodName := ⟨RX6, "part", "(Z)I"⟩
abbrev cX6_read : ByteArray := prog_8_method_35_code
def yX6_read : MethodName := ⟨RX6, "read", "(II)I"⟩
abbrev cX6_text : ByteArray := prog_8_method_36_code
def yX6_text : MethodName := ⟨RX6, "text", "()I"⟩
abbrev cX6_force : ByteArray := prog_8_method_37_code
def yX6_force : MethodName := ⟨RX6, "force", "(I)I"⟩
abbrev cX6_says : ByteArray := prog_8_method_38_code
def yX6_says : MethodName := ⟨RX6, "says", "(III)I"⟩
abbrev cX6_paysOf : ByteArray := prog_8_method_39_code
def yX6_paysOf : MethodName := ⟨RX6, "paysOf", "(II)I"⟩
abbrev cX6_willOf : ByteArray := prog_8_method_40_code
def yX6_willOf : MethodName := ⟨RX6, "willOf", "(II)Z"⟩
abbrev cX6_breathOf : ByteArray := prog_8_method_41_code
def yX6_breathOf : MethodName := ⟨RX6, "breathOf", "(I)I"⟩
abbrev cX6_hasBreath : ByteArray := prog_8_method_42_code
def yX6_hasBreath : MethodName := ⟨RX6, "hasBreath", "(I)Z"⟩
abbrev cX6_mayDance : ByteArray := prog_8_method_43_code
def yX6_mayDance : MethodName := ⟨RX6, "mayDance", "(II)Z"⟩
abbrev cX6_asks : ByteArray := prog_8_method_44_code
def yX6_asks : MethodName := ⟨RX6, "asks", "(III)I"⟩
abbrev cX6_dances : ByteArray := prog_8_method_45_code
def yX6_dances : MethodName := ⟨RX6, "dances", "(I)V"⟩
abbrev cX6_danceBoth : ByteArray := prog_8_method_46_code
def yX6_danceBoth : MethodName := ⟨RX6, "danceBoth", "(II)I"⟩
abbrev cX6_dance : ByteArray := prog_8_method_47_code
def yX6_dance : MethodName := ⟨RX6, "dance", "(II)I"⟩
abbrev cX6_passes : ByteArray := prog_8_method_48_code
def yX6_passes : MethodName := ⟨RX6, "passes", "()I"⟩
abbrev cX6_round : ByteArray := prog_8_method_49_code
def yX6_round : MethodName := ⟨RX6, "round", "()I"⟩
abbrev cX6_night : ByteArray := prog_8_method_50_code
def yX6_night : MethodName := ⟨RX6, "night", "()I"⟩
abbrev cX6_ringOf : ByteArray := prog_8_method_51_code
def yX6_ringOf : MethodName := ⟨RX6, "ringOf", "(I)I"⟩
abbrev cX6_strike : ByteArray := prog_8_method_52_code
def yX6_strike : MethodName := ⟨RX6, "strike", "(I)I"⟩
abbrev cX6_laysAside : ByteArray := prog_8_method_53_code
def yX6_laysAside : MethodName := ⟨RX6, "laysAside", "()V"⟩
abbrev cX6_laysBack : ByteArray := prog_8_method_54_code
def yX6_laysBack : MethodName := ⟨RX6, "laysBack", "()V"⟩
abbrev cX6_owedSet : ByteArray := prog_8_method_55_code
def yX6_owedSet : MethodName := ⟨RX6, "owedSet", "()I"⟩
abbrev cX6_run : ByteArray := prog_8_method_56_code
def yX6_run : MethodName := ⟨RX6, "run", "(IIII)I"⟩
abbrev cX6_both_ : ByteArray := prog_8_method_57_code
def yX6_both_ : MethodName := ⟨RX6, "both", "(I)I"⟩
abbrev cX6_lesser : ByteArray := prog_8_method_58_code
def yX6_lesser : MethodName := ⟨RX6, "lesser", "(I)I"⟩
abbrev cX6_greater : ByteArray := prog_8_method_59_code
def yX6_greater : MethodName := ⟨RX6, "greater", "(I)I"⟩
abbrev cX6_isApart : ByteArray := prog_8_method_60_code
def yX6_isApart : MethodName := ⟨RX6, "isApart", "(I)Z"⟩
abbrev cX6_isSet : ByteArray := prog_8_method_61_code
def yX6_isSet : MethodName := ⟨RX6, "isSet", "(I)Z"⟩
abbrev cX6_dancesOf : ByteArray := prog_8_method_62_code
def yX6_dancesOf : MethodName := ⟨RX6, "dancesOf", "(I)I"⟩
abbrev cX6_bestSet : ByteArray := prog_8_method_63_code
def yX6_bestSet : MethodName := ⟨RX6, "bestSet", "(I)I"⟩
abbrev cX6_nextRound : ByteArray := prog_8_method_64_code
def yX6_nextRound : MethodName := ⟨RX6, "nextRound", "(I)I"⟩
abbrev cX6_isPaidBy : ByteArray := prog_8_method_65_code
def yX6_isPaidBy : MethodName := ⟨RX6, "isPaidBy", "(I)Z"⟩
abbrev cX6_soonest : ByteArray := prog_8_method_66_code
def yX6_soonest : MethodName := ⟨RX6, "soonest", "()I"⟩
abbrev cX6_leastOwed : ByteArray := prog_8_method_67_code
def yX6_leastOwed : MethodName := ⟨RX6, "leastOwed", "()I"⟩
abbrev cX6_ringFrom : ByteArray := prog_8_method_68_code
def yX6_ringFrom : MethodName := ⟨RX6, "ringFrom", "(IIII)I"⟩
abbrev cX6_longestRing : ByteArray := prog_8_method_69_code
def yX6_longestRing : MethodName := ⟨RX6, "longestRing", "()I"⟩
abbrev cX6_ends : ByteArray := prog_8_method_70_code
def yX6_ends : MethodName := ⟨RX6, "ends", "()I"⟩
abbrev cX6_keeper : ByteArray := prog_8_method_71_code
def yX6_keeper : MethodName := ⟨RX6, "keeper", "()I"⟩
abbrev cX6_best : ByteArray := prog_8_method_72_code
def yX6_best : MethodName := ⟨RX6, "best", "(I)I"⟩
abbrev cX6_lowest : ByteArray := prog_8_method_73_code
def yX6_lowest : MethodName := ⟨RX6, "lowest", "(JJI)J"⟩
abbrev cX6_share : ByteArray := prog_8_method_74_code
def yX6_share : MethodName := ⟨RX6, "share", "(II)J"⟩
abbrev cX6_firstOther : ByteArray := prog_8_method_75_code
def yX6_firstOther : MethodName := ⟨RX6, "firstOther", "(II)I"⟩
abbrev cX6_likeSet : ByteArray := prog_8_method_76_code
def yX6_likeSet : MethodName := ⟨RX6, "likeSet", "(II)I"⟩
abbrev cX6_tells : ByteArray := prog_8_method_77_code
def yX6_tells : MethodName := ⟨RX6, "tells", "(IIII)I"⟩
abbrev cX6_film : ByteArray := prog_8_method_78_code
def yX6_film : MethodName := ⟨RX6, "film", "(IIII)I"⟩
abbrev cX6_endsDrawn : ByteArray := prog_8_method_79_code
def yX6_endsDrawn : MethodName := ⟨RX6, "endsDrawn", "(I)I"⟩
abbrev cX6_drawn : ByteArray := prog_8_method_80_code
def yX6_drawn : MethodName := ⟨RX6, "drawn", "(I)I"⟩
abbrev cX6_chance : ByteArray := prog_8_method_81_code
def yX6_chance : MethodName := ⟨RX6, "chance", "(IIII)J"⟩
abbrev cX6_image : ByteArray := prog_8_method_82_code
def yX6_image : MethodName := ⟨RX6, "image", "()I"⟩
abbrev cX6_back : ByteArray := prog_8_method_83_code
def yX6_back : MethodName := ⟨RX6, "back", "()I"⟩
abbrev cX6_count : ByteArray := prog_8_method_84_code
def yX6_count : MethodName := ⟨RX6, "count", "(I)I"⟩
abbrev cX6_isSheet : ByteArray := prog_8_method_85_code
def yX6_isSheet : MethodName := ⟨RX6, "isSheet", "(I)Z"⟩
abbrev cX6_sheet : ByteArray := prog_8_method_86_code
def yX6_sheet : MethodName := ⟨RX6, "sheet", "(III)I"⟩
abbrev cX6_cell : ByteArray := prog_8_method_87_code
def yX6_cell : MethodName := ⟨RX6, "cell", "(III)I"⟩
abbrev cX6_copy : ByteArray := prog_8_method_88_code
def yX6_copy : MethodName := ⟨RX6, "copy", "(IIIII)I"⟩
abbrev cX6_room : ByteArray := prog_8_method_89_code
def yX6_room : MethodName := ⟨RX6, "room", "(IIII)I"⟩
abbrev cX6_over : ByteArray := prog_8_method_90_code
def yX6_over : MethodName := ⟨RX6, "over", "(I)I"⟩
abbrev cX6_taken : ByteArray := prog_8_method_91_code
def yX6_taken : MethodName := ⟨RX6, "taken", "(II)I"⟩
def RJ11 : String := "java/lang/Character"
def TJ11 : u_T := fun k => match k with
  | _ => ("", "", "", false)
def tyJ11 : Nat → FieldType := fun k => match k with
  | _ => .int
theorem nmJ11 : ∀ a, a < 0 → ∀ b, b < 0 → a ≠ b → (TJ11 a).2.1 ≠ (TJ11 b).2.1 := by decide +kernel
theorem tyJ11_ok : ∀ k, k < 0 → parseFieldDescriptor (TJ11 k).2.2.1 = some (tyJ11 k) := by decide +kernel
abbrev cJ11_isValidCodePoint_9a6ad : ByteArray := prog_9_method_11_code
def yJ11_isValidCodePoint_9a6ad : MethodName := ⟨RJ11, "isValidCodePoint", "(I)Z"⟩
abbrev cJ11_highSurrogate_5068e : ByteArray := prog_9_method_28_code
def yJ11_highSurrogate_5068e : MethodName := ⟨RJ11, "highSurrogate", "(I)C"⟩
abbrev cJ11_lowSurrogate_5068e : ByteArray := prog_9_method_29_code
def yJ11_lowSurrogate_5068e : MethodName := ⟨RJ11, "lowSurrogate", "(I)C"⟩
def RJx8e188 : String := "java/lang/Cloneable"
def TJx8e188 : u_T := fun k => match k with
  | _ => ("", "", "", false)
def tyJx8e188 : Nat → FieldType := fun k => match k with
  | _ => .int
theorem nmJx8e188 : ∀ a, a < 0 → ∀ b, b < 0 → a ≠ b → (TJx8e188 a).2.1 ≠ (TJx8e188 b).2.1 := by decide +kernel
theorem tyJx8e188_ok : ∀ k, k < 0 → parseFieldDescriptor (TJx8e188 k).2.2.1 = some (tyJx8e188 k) := by decide +kernel
def RJ9 : String := "java/lang/Math"
def TJ9 : u_T := fun k => match k with
  | _ => ("", "", "", false)
def tyJ9 : Nat → FieldType := fun k => match k with
  | _ => .int
theorem nmJ9 : ∀ a, a < 0 → ∀ b, b < 0 → a ≠ b → (TJ9 a).2.1 ≠ (TJ9 b).2.1 := by decide +kernel
theorem tyJ9_ok : ∀ k, k < 0 → parseFieldDescriptor (TJ9 k).2.2.1 = some (tyJ9 k) := by decide +kernel
abbrev cJ9_max_7cf53 : ByteArray := prog_11_method_65_code
def yJ9_max_7cf53 : MethodName := ⟨RJ9, "max", "(II)I"⟩
abbrev cJ9_min_7cf53 : ByteArray := prog_11_method_69_code
def yJ9_min_7cf53 : MethodName := ⟨RJ9, "min", "(II)I"⟩
def RJ0 : String := "java/lang/String"
def TJ0 : u_T := fun k => match k with
  | _ => ("", "", "", false)
def tyJ0 : Nat → FieldType := fun k => match k with
  | _ => .int
theorem nmJ0 : ∀ a, a < 0 → ∀ b, b < 0 → a ≠ b → (TJ0 a).2.1 ≠ (TJ0 b).2.1 := by decide +kernel
theorem tyJ0_ok : ∀ k, k < 0 → parseFieldDescriptor (TJ0 k).2.2.1 = some (tyJ0 k) := by decide +kernel
abbrev cJ0_length_8abf5 : ByteArray := prog_12_method_54_code
def yJ0_length_8abf5 : MethodName := ⟨RJ0, "length", "()I"⟩
abbrev cJ0_charAt_5068e : ByteArray := prog_12_method_56_code
def yJ0_charAt_5068e : MethodName := ⟨RJ0, "charAt", "(I)C"⟩
abbrev cJ0_indexOf_0f7a4 : ByteArray := prog_12_method_79_code
def yJ0_indexOf_0f7a4 : MethodName := ⟨RJ0, "indexOf", "(I)I"⟩
abbrev cJ0_indexOf_7cf53 : ByteArray := prog_12_method_80_code
def yJ0_indexOf_7cf53 : MethodName := ⟨RJ0, "indexOf", "(II)I"⟩
abbrev cJ0_coder_7d493 : ByteArray := prog_12_method_152_code
def yJ0_coder_7d493 : MethodName := ⟨RJ0, "coder", "()B"⟩
abbrev cJ0_isLatin1_aae02 : ByteArray := prog_12_method_154_code
def yJ0_isLatin1_aae02 : MethodName := ⟨RJ0, "isLatin1", "()Z"⟩
abbrev cJ0_checkIndex_df160 : ByteArray := prog_12_method_155_code
def yJ0_checkIndex_df160 : MethodName := ⟨RJ0, "checkIndex", "(II)V"⟩
abbrev cJ0_checkBoundsBeginEnd_23922 : ByteArray := prog_12_method_158_code
def yJ0_checkBoundsBeginEnd_23922 : MethodName := ⟨RJ0, "checkBoundsBeginEnd", "(III)V"⟩
def RJ1 : String := "java/lang/StringLatin1"
def TJ1 : u_T := fun k => match k with
  | _ => ("", "", "", false)
def tyJ1 : Nat → FieldType := fun k => match k with
  | _ => .int
theorem nmJ1 : ∀ a, a < 0 → ∀ b, b < 0 → a ≠ b → (TJ1 a).2.1 ≠ (TJ1 b).2.1 := by decide +kernel
theorem tyJ1_ok : ∀ k, k < 0 → parseFieldDescriptor (TJ1 k).2.2.1 = some (tyJ1 k) := by decide +kernel
abbrev cJ1_charAt_3b067 : ByteArray := prog_13_method_2_code
def yJ1_charAt_3b067 : MethodName := ⟨RJ1, "charAt", "([BI)C"⟩
abbrev cJ1_canEncode_9a6ad : ByteArray := prog_13_method_4_code
def yJ1_canEncode_9a6ad : MethodName := ⟨RJ1, "canEncode", "(I)Z"⟩
abbrev cJ1_indexOf_4cfef : ByteArray := prog_13_method_22_code
def yJ1_indexOf_4cfef : MethodName := ⟨RJ1, "indexOf", "([BIII)I"⟩
abbrev cJ1_indexOfChar_4cfef : ByteArray := prog_13_method_23_code
def yJ1_indexOfChar_4cfef : MethodName := ⟨RJ1, "indexOfChar", "([BIII)I"⟩
def RJ2 : String := "java/lang/StringUTF16"
def TJ2 : u_T := fun k => match k with
  | _ => ("", "", "", false)
def tyJ2 : Nat → FieldType := fun k => match k with
  | _ => .int
theorem nmJ2 : ∀ a, a < 0 → ∀ b, b < 0 → a ≠ b → (TJ2 a).2.1 ≠ (TJ2 b).2.1 := by decide +kernel
theorem tyJ2_ok : ∀ k, k < 0 → parseFieldDescriptor (TJ2 k).2.2.1 = some (tyJ2 k) := by decide +kernel
abbrev cJ2_getChar_3b067 : ByteArray := prog_14_method_5_code
def yJ2_getChar_3b067 : MethodName := ⟨RJ2, "getChar", "([BI)C"⟩
abbrev cJ2_length_9d52b : ByteArray := prog_14_method_6_code
def yJ2_length_9d52b : MethodName := ⟨RJ2, "length", "([B)I"⟩
abbrev cJ2_indexOf_4cfef : ByteArray := prog_14_method_40_code
def yJ2_indexOf_4cfef : MethodName := ⟨RJ2, "indexOf", "([BIII)I"⟩
abbrev cJ2_indexOfChar_4cfef : ByteArray := prog_14_method_47_code
def yJ2_indexOfChar_4cfef : MethodName := ⟨RJ2, "indexOfChar", "([BIII)I"⟩
abbrev cJ2_indexOfCharUnsafe_4cfef : ByteArray := prog_14_method_48_code
def yJ2_indexOfCharUnsafe_4cfef : MethodName := ⟨RJ2, "indexOfCharUnsafe", "([BIII)I"⟩
abbrev cJ2_indexOfSupplementary_4cfef : ByteArray := prog_14_method_49_code
def yJ2_indexOfSupplementary_4cfef : MethodName := ⟨RJ2, "indexOfSupplementary", "([BIII)I"⟩
abbrev cJ2_charAt_3b067 : ByteArray := prog_14_method_83_code
def yJ2_charAt_3b067 : MethodName := ⟨RJ2, "charAt", "([BI)C"⟩
abbrev cJ2_checkIndex_2214a : ByteArray := prog_14_method_91_code
def yJ2_checkIndex_2214a : MethodName := ⟨RJ2, "checkIndex", "(I[B)V"⟩
abbrev cJ2_checkBoundsBeginEnd_d044e : ByteArray := prog_14_method_93_code
def yJ2_checkBoundsBeginEnd_d044e : MethodName := ⟨RJ2, "checkBoundsBeginEnd", "(II[B)V"⟩
def RJ10 : String := "java/lang/System"
def TJ10 : u_T := fun k => match k with
  | _ => ("", "", "", false)
def tyJ10 : Nat → FieldType := fun k => match k with
  | _ => .int
theorem nmJ10 : ∀ a, a < 0 → ∀ b, b < 0 → a ≠ b → (TJ10 a).2.1 ≠ (TJ10 b).2.1 := by decide +kernel
theorem tyJ10_ok : ∀ k, k < 0 → parseFieldDescriptor (TJ10 k).2.2.1 = some (tyJ10 k) := by decide +kernel
def RJ3 : String := "jdk/internal/util/Preconditions"
def TJ3 : u_T := fun k => match k with
  | _ => ("", "", "", false)
def tyJ3 : Nat → FieldType := fun k => match k with
  | _ => .int
theorem nmJ3 : ∀ a, a < 0 → ∀ b, b < 0 → a ≠ b → (TJ3 a).2.1 ≠ (TJ3 b).2.1 := by decide +kernel
theorem tyJ3_ok : ∀ k, k < 0 → parseFieldDescriptor (TJ3 k).2.2.1 = some (tyJ3 k) := by decide +kernel
abbrev cJ3_checkIndex_8e157 : ByteArray := prog_16_method_11_code
def yJ3_checkIndex_8e157 : MethodName := ⟨RJ3, "checkIndex", "(IILjava/util/function/BiFunction;)I"⟩
abbrev cJ3_checkFromToIndex_8c36e : ByteArray := prog_16_method_12_code
def yJ3_checkFromToIndex_8c36e : MethodName := ⟨RJ3, "checkFromToIndex", "(IIILjava/util/function/BiFunction;)I"⟩
def RL : String := "DanceStillOwedLaw"
abbrev cL_law : ByteArray := code
def yL_law : MethodName := ⟨RL, "law", "([I)Z"⟩
abbrev vwCl : List vw_C := [(RX0, TX0, 13), (RX1, TX1, 10), (RX2, TX2, 4), (RX3, TX3, 3), (RX4, TX4, 2), (RX5, TX5, 8), (RX6, TX6, 45)]
end
section
/-! THE MACHINE AM: the bytecode over a state whose cells have fixed names (part, group): 'F' says what one instruction asks of the next place 'P'; 'WP' is the least such 'P'; 'Call' is a method's run at a depth. -/
abbrev AV : Type := Int32 ⊕ (Int64 ⊕ Option (Nat × Nat))
abbrev aI (x : Int32) : AV := Sum.inl x
abbrev aL (x : Int64) : AV := Sum.inr (Sum.inl x)
abbrev aN : AV := Sum.inr (Sum.inr none)
abbrev aR (j g : Nat) : AV := Sum.inr (Sum.inr (some (j, g)))
/-- the ints (part, group, slot), the one long, which references are set, lengths that vary, how many cells there are -/
abbrev St : Type := (Nat → Nat → Nat → Int32) × Int64 × (Nat → Nat → Nat → Bool) × (Nat → Nat) × Nat
def up3 {α : Type} (f : Nat → Nat → Nat → α) (j g k : Nat) (v : α) : Nat → Nat → Nat → α := fun a b c => if a = j ∧ b = g ∧ c = k then v else f a b c
def zr3 {α : Type} (f : Nat → Nat → Nat → α) (j g : Nat) (v : α) : Nat → Nat → Nat → α := fun a b c => if a = j ∧ b = g then v else f a b c
def upN {α : Type} (f : Nat → α) (k : Nat) (v : α) : Nat → α := fun a => if a = k then v else f a
/-- an instruction, the next place, where it jumps to, its number, its switch -/
abbrev Ent : Type := Instr × Nat × Nat × Int32 × List (Int32 × Nat)
/-- a method: its code in pieces of 16 places, its class's number, cells and slots that it may make, what it answers (0 nothing, 1 int, 2 long, 3 a reference, 4 boolean); its name, bytes, locals, type -/
abbrev MT : Type := (List (List (Option Ent)) × Nat × Nat × Nat × Nat) × (MethodName × ByteArray × Nat × Option FieldType)
def nth {α : Type} : List α → Nat → Option α
  | [], _ => none
  | a :: _, 0 => some a
  | _ :: l, n + 1 => nth l n
def lkp {α : Type} : List (Nat × α) → Nat → Option α
  | [], _ => none
  | a :: l, i => cond (Nat.beq a.1 i) (some a.2) (lkp l i)
def codeAt (Y : MT) (pc : Nat) : Option Ent := match nth Y.1.1 (pc / 16) with
  | none => none
  | some l => match nth l (pc % 16) with
    | none => none
    | some e => e
def isL : Option AV → Bool
  | some (Sum.inr (Sum.inl _)) => true
  | _ => false
/-- a store into the locals -/
def putL : List (Option AV) → Nat → AV → List (Option AV)
  | [], _, _ => []
  | _ :: l, 0, v => match v with
    | Sum.inr (Sum.inl _) => some v :: (match l with
      | [] => []
      | _ :: t => none :: t)
    | _ => some v :: l
  | a :: l, 1, v => (match a with
    | some (Sum.inr (Sum.inl _)) => none
    | _ => a) :: putL l 0 v
  | a :: l, n + 2, v => a :: putL l (n + 1) v
def mkL : Nat → List AV → List (Option AV)
  | 0, _ => []
  | n + 1, [] => none :: mkL n []
  | n + 1, v :: r => match v with
    | Sum.inr (Sum.inl _) => some v :: (match n with
      | 0 => []
      | k + 1 => none :: mkL k r)
    | _ => some v :: mkL n r
def popI (st : List AV) (k : Int32 → List AV → Prop) : Prop := match st with
  | Sum.inl x :: r => k x r
  | _ => False
def popJ (st : List AV) (k : Int64 → List AV → Prop) : Prop := match st with
  | Sum.inr (Sum.inl x) :: r => k x r
  | _ => False
def popR (st : List AV) (k : Nat → Nat → List AV → Prop) : Prop := match st with
  | Sum.inr (Sum.inr (some q)) :: r => k q.1 q.2 r
  | _ => False
def popS (st : List AV) (k : AV → List AV → Prop) : Prop := match st with
  | Sum.inl x :: r => k (Sum.inl x) r
  | Sum.inr (Sum.inr q) :: r => k (Sum.inr (Sum.inr q)) r
  | _ => False
def getI (L : List (Option AV)) (i : Nat) (k : Int32 → Prop) : Prop := match nth L i with
  | some (some (Sum.inl x)) => k x
  | _ => False
def getJ (L : List (Option AV)) (i : Nat) (k : Int64 → Prop) : Prop := match nth L i with
  | some (some (Sum.inr (Sum.inl x))) => k x
  | _ => False
def getA (L : List (Option AV)) (i : Nat) (k : Option (Nat × Nat) → Prop) : Prop := match nth L i with
  | some (some (Sum.inr (Sum.inr x))) => k x
  | _ => False
/-- so many from the top, the lowest first; and the rest -/
def popN : Nat → List AV → List AV → Option (List AV × List AV)
  | 0, st, acc => some (acc, st)
  | n + 1, v :: st, acc => popN n st (v :: acc)
  | _ + 1, [], _ => none
def catS : List AV → Nat
  | [] => 0
  | v :: r => (match v with
    | Sum.inr (Sum.inl _) => 2
    | _ => 1) + catS r
abbrev PT : Type := Nat → List (Option AV) → List AV → St → Nat → Nat → Prop
abbrev KT : Type := Option AV → St → Prop
abbrev CT : Type := MT → List AV → St → KT → Prop
def swP (x : Int32) (P : Nat → Prop) : List (Int32 × Nat) → Nat → Prop
  | [], d => P d
  | a :: l, d => (x = a.1 → P a.2) ∧ (¬ x = a.1 → swP x P l d)
-- the names of the cells
def clsP (j : Nat) : Nat := match j with
  | 0 => 5
  | 1 => 2
  | 7 => 1
  | 10 => 0
  | 20 => 3
  | 30 => 4
  | 40 => 6
  | _ => 9
/-- whom a reference field holds, once it is set -/
def frf (j g k : Nat) : Nat × Nat := match j with
  | 0 => (match k with
    | 0 => (1, 0)
    | 1 => (10, 0)
    | 2 => (10, 1)
    | 3 => (6, 0)
    | 4 => (7, 0)
    | 5 => (18, 0)
    | _ => (19, 0))
  | 1 => (match k with
    | 0 => (3, 0)
    | 2 => (4, 0)
    | _ => (5, 0))
  | 7 => (match k with
    | 0 => (8, 0)
    | 2 => (9, 0)
    | _ => (17, 0))
  | 10 => (match k with
    | 0 => (1, 0)
    | 5 => (11, g)
    | 6 => (12, g)
    | 7 => (13, g)
    | 8 => (14, g)
    | 11 => (15, g)
    | _ => (16, g))
  | 20 => (21, g)
  | 30 => (match k with
    | 0 => (31, g)
    | _ => (32, g))
  | 40 => (match k with
    | 1 => (41, 0)
    | 2 => (42, 0)
    | 5 => (43, 0)
    | 9 => (44, 0)
    | 10 => (45, 0)
    | 11 => (46, 0)
    | 13 => (47, 0)
    | 30 => (48, 0)
    | 31 => (49, 0)
    | 32 => (50, 0)
    | 33 => (51, 0)
    | 34 => (52, 0)
    | 35 => (53, 0)
    | 36 => (54, 0)
    | 41 => (55, 0)
    | 42 => (56, 0)
    | 43 => (57, 0)
    | _ => (58, 0))
  | _ => (99, 0)
/-- an array of references: which class's (1 Floor, 2 Sheet, 3 Text), and whom its place k holds once it is set -/
def rfk (j : Nat) : Nat := match j with
  | 6 => 1
  | 18 => 2
  | 3 => 3
  | _ => 0
def erf (j k : Nat) : Nat × Nat := match j with
  | 6 => (10, k + 2)
  | 18 => (20, k)
  | 3 => (30, k)
  | _ => (99, 0)
/-- 1: an array of ints; 2: of booleans; 3: a static array of ints, only read -/
def iak (j : Nat) : Nat := match j with
  | 4 => 1 | 5 => 1 | 8 => 1 | 9 => 1 | 11 => 1 | 12 => 1 | 13 => 1 | 14 => 1 | 15 => 1 | 16 => 1 | 17 => 1 | 19 => 1 | 21 => 1 | 31 => 1 | 32 => 1
  | 41 => 1 | 42 => 1 | 43 => 1 | 44 => 1 | 45 => 1 | 46 => 1 | 47 => 1 | 48 => 1 | 49 => 1 | 50 => 1 | 51 => 1 | 52 => 1 | 53 => 1 | 54 => 1 | 56 => 1 | 57 => 1 | 58 => 1
  | 55 => 2
  | 60 => 3 | 61 => 3 | 62 => 3 | 63 => 3 | 64 => 3 | 65 => 3
  | _ => 0
/-- the lengths -/
def aln (tl : Nat → Nat) (j g : Nat) : Nat := match j with
  | 3 => 6 | 4 => 6 | 5 => 160 | 6 => 3 | 8 => 160 | 9 => 160
  | 11 => 5 | 12 => 5 | 13 => 5 | 14 => 25 | 15 => 10 | 16 => 10 | 17 => 3
  | 18 => 4 | 19 => 5 | 21 => 40 | 31 => tl g | 32 => 3
  | 41 => 960 | 42 => 6 | 43 => 160 | 44 => 5 | 45 => 10 | 46 => 25 | 47 => 26 | 48 => 5 | 49 => 37 | 50 => 100 | 51 => 40 | 52 => 25 | 53 => 25 | 54 => 10 | 55 => 4 | 56 => 4 | 57 => 4 | 58 => 160
  | 60 => tl 1000 | 61 => 10 | 62 => 10 | 63 => 26 | 64 => 5 | 65 => 6
  | _ => 0
/-- the cells in the order in which they are made -/
def idsT : List (Nat × Nat) := [(0, 0), (1, 0), (3, 0), (4, 0), (5, 0), (31, 0), (32, 0), (30, 0),
  (10, 0), (11, 0), (12, 0), (13, 0), (14, 0), (15, 0), (16, 0), (10, 1), (11, 1), (12, 1), (13, 1), (14, 1), (15, 1), (16, 1), (6, 0),
  (10, 2), (11, 2), (12, 2), (13, 2), (14, 2), (15, 2), (16, 2), (10, 3), (11, 3), (12, 3), (13, 3), (14, 3), (15, 3), (16, 3), (10, 4), (11, 4), (12, 4), (13, 4), (14, 4), (15, 4), (16, 4),
  (7, 0), (8, 0), (9, 0), (17, 0), (18, 0), (20, 0), (21, 0), (20, 1), (21, 1), (20, 2), (21, 2), (20, 3), (21, 3), (19, 0), (40, 0),
  (41, 0), (42, 0), (43, 0), (44, 0), (45, 0), (46, 0), (47, 0), (48, 0), (49, 0), (50, 0), (51, 0), (52, 0), (53, 0), (54, 0), (55, 0), (56, 0), (57, 0), (58, 0)]
def idOf (n : Nat) : Nat × Nat := match nth idsT n with
  | some q => q
  | none => (if (n - 77) % 3 = 0 then 31 else if (n - 77) % 3 = 1 then 30 else 32, (n - 77) / 3 + 1)
def numP (j g : Nat) : Nat := match j with
  | 0 => 0 | 1 => 1 | 3 => 2 | 4 => 3 | 5 => 4
  | 31 => if g = 0 then 5 else 77 + 3 * (g - 1)
  | 32 => if g = 0 then 6 else 77 + 3 * (g - 1) + 2
  | 30 => if g = 0 then 7 else 77 + 3 * (g - 1) + 1
  | 10 => if g < 2 then 8 + 7 * g else 9 + 7 * g
  | 11 => if g < 2 then 9 + 7 * g else 10 + 7 * g
  | 12 => if g < 2 then 10 + 7 * g else 11 + 7 * g
  | 13 => if g < 2 then 11 + 7 * g else 12 + 7 * g
  | 14 => if g < 2 then 12 + 7 * g else 13 + 7 * g
  | 15 => if g < 2 then 13 + 7 * g else 14 + 7 * g
  | 16 => if g < 2 then 14 + 7 * g else 15 + 7 * g
  | 6 => 22 | 7 => 44 | 8 => 45 | 9 => 46 | 17 => 47 | 18 => 48
  | 20 => 49 + 2 * g
  | 21 => 50 + 2 * g
  | 19 => 57
  | n => n + 18
end
section
/-! printed by gencode.py: the code, the links, the fields for the machine AM -/
def m_none : MT := (([], 9, 0, 0, 0), (yL_law, cL_law, 0, none))
def cd_X0_init : List (List (Option Ent)) := [[some (.aload_n 0, 1, 0, 0, []), some (.invokespecial 3, 4, 0, 0, []), none, none, some (.aload_n 0, 5, 0, 0, []), some (.iconst 5, 6, 0, 5, []), some (.newarray .int, 8, 0, 0, []), none, some (.putfield 9, 11, 0, 0, []), none, none, some (.aload_n 0, 12, 0, 0, []), some (.iconst 5, 13, 0, 5, []), some (.newarray .int, 15, 0, 0, []), none, some (.putfield 15, 18, 0, 0, [])],
  [none, none, some (.aload_n 0, 19, 0, 0, []), some (.iconst 5, 20, 0, 5, []), some (.newarray .int, 22, 0, 0, []), none, some (.putfield 18, 25, 0, 0, []), none, none, some (.aload_n 0, 26, 0, 0, []), some (.bipush 25, 28, 0, 25, []), none, some (.newarray .int, 30, 0, 0, []), none, some (.putfield 21, 33, 0, 0, []), none],
  [none, some (.aload_n 0, 34, 0, 0, []), some (.getstatic 24, 37, 0, 0, []), none, none, some (.arraylength, 38, 0, 0, []), some (.newarray .int, 40, 0, 0, []), none, some (.putfield 27, 43, 0, 0, []), none, none, some (.aload_n 0, 44, 0, 0, []), some (.getstatic 24, 47, 0, 0, []), none, none, some (.arraylength, 48, 0, 0, [])],
  [some (.newarray .int, 50, 0, 0, []), none, some (.putfield 30, 53, 0, 0, []), none, none, some (.aload_n 0, 54, 0, 0, []), some (.aload_n 1, 55, 0, 0, []), some (.putfield 33, 58, 0, 0, []), none, none, some (.return_, 59, 0, 0, [])]]
def m_X0_init : MT := ((cd_X0_init, 0, 6, 60, 0), (yX0_init, cX0_init, 2, none))
def cd_X0_takeFrom : List (List (Option Ent)) := [[some (.aload_n 0, 1, 0, 0, []), some (.aload_n 1, 2, 0, 0, []), some (.getfield 37, 5, 0, 0, []), none, none, some (.putfield 37, 8, 0, 0, []), none, none, some (.aload_n 0, 9, 0, 0, []), some (.aload_n 1, 10, 0, 0, []), some (.getfield 41, 13, 0, 0, []), none, none, some (.putfield 41, 16, 0, 0, []), none, none],
  [some (.aload_n 0, 17, 0, 0, []), some (.aload_n 1, 18, 0, 0, []), some (.getfield 44, 21, 0, 0, []), none, none, some (.putfield 44, 24, 0, 0, []), none, none, some (.aload_n 0, 25, 0, 0, []), some (.aload_n 1, 26, 0, 0, []), some (.getfield 47, 29, 0, 0, []), none, none, some (.putfield 47, 32, 0, 0, []), none, none],
  [some (.aload_n 1, 33, 0, 0, []), some (.getfield 9, 36, 0, 0, []), none, none, some (.iconst 0, 37, 0, 0, []), some (.aload_n 0, 38, 0, 0, []), some (.getfield 9, 41, 0, 0, []), none, none, some (.iconst 0, 42, 0, 0, []), some (.aload_n 0, 43, 0, 0, []), some (.getfield 9, 46, 0, 0, []), none, none, some (.arraylength, 47, 0, 0, []), some (.invokestatic 50, 50, 0, 0, [])],
  [none, none, some (.aload_n 1, 51, 0, 0, []), some (.getfield 15, 54, 0, 0, []), none, none, some (.iconst 0, 55, 0, 0, []), some (.aload_n 0, 56, 0, 0, []), some (.getfield 15, 59, 0, 0, []), none, none, some (.iconst 0, 60, 0, 0, []), some (.aload_n 0, 61, 0, 0, []), some (.getfield 15, 64, 0, 0, []), none, none],
  [some (.arraylength, 65, 0, 0, []), some (.invokestatic 50, 68, 0, 0, []), none, none, some (.aload_n 1, 69, 0, 0, []), some (.getfield 18, 72, 0, 0, []), none, none, some (.iconst 0, 73, 0, 0, []), some (.aload_n 0, 74, 0, 0, []), some (.getfield 18, 77, 0, 0, []), none, none, some (.iconst 0, 78, 0, 0, []), some (.aload_n 0, 79, 0, 0, []), some (.getfield 18, 82, 0, 0, [])],
  [none, none, some (.arraylength, 83, 0, 0, []), some (.invokestatic 50, 86, 0, 0, []), none, none, some (.aload_n 1, 87, 0, 0, []), some (.getfield 21, 90, 0, 0, []), none, none, some (.iconst 0, 91, 0, 0, []), some (.aload_n 0, 92, 0, 0, []), some (.getfield 21, 95, 0, 0, []), none, none, some (.iconst 0, 96, 0, 0, [])],
  [some (.aload_n 0, 97, 0, 0, []), some (.getfield 21, 100, 0, 0, []), none, none, some (.arraylength, 101, 0, 0, []), some (.invokestatic 50, 104, 0, 0, []), none, none, some (.return_, 105, 0, 0, [])]]
def m_X0_takeFrom : MT := ((cd_X0_takeFrom, 0, 0, 0, 0), (yX0_takeFrom, cX0_takeFrom, 2, none))
def cd_X0_join : List (List (Option Ent)) := [[some (.aload_n 0, 1, 0, 0, []), some (.getfield 9, 4, 0, 0, []), none, none, some (.aload_n 0, 5, 0, 0, []), some (.getfield 37, 8, 0, 0, []), none, none, some (.iload_n 1, 9, 0, 0, []), some (.iastore, 10, 0, 0, []), some (.aload_n 0, 11, 0, 0, []), some (.getfield 15, 14, 0, 0, []), none, none, some (.aload_n 0, 15, 0, 0, []), some (.getfield 37, 18, 0, 0, [])],
  [none, none, some (.iload_n 2, 19, 0, 0, []), some (.iastore, 20, 0, 0, []), some (.aload_n 0, 21, 0, 0, []), some (.dup, 22, 0, 0, []), some (.getfield 37, 25, 0, 0, []), none, none, some (.iconst 1, 26, 0, 1, []), some (.iadd, 27, 0, 0, []), some (.putfield 37, 30, 0, 0, []), none, none, some (.aload_n 0, 31, 0, 0, []), some (.getfield 37, 34, 0, 0, [])],
  [none, none, some (.iconst 1, 35, 0, 1, []), some (.isub, 36, 0, 0, []), some (.ireturn, 37, 0, 0, [])]]
def m_X0_join : MT := ((cd_X0_join, 0, 0, 0, 1), (yX0_join, cX0_join, 3, (some .int)))
def cd_X0_owing : List (List (Option Ent)) := [[some (.aload_n 0, 1, 0, 0, []), some (.getfield 21, 4, 0, 0, []), none, none, some (.iload_n 1, 5, 0, 0, []), some (.iconst 5, 6, 0, 5, []), some (.imul, 7, 0, 0, []), some (.iload_n 2, 8, 0, 0, []), some (.iadd, 9, 0, 0, []), some (.iaload, 10, 0, 0, []), some (.ireturn, 11, 0, 0, [])]]
def m_X0_owing : MT := ((cd_X0_owing, 0, 0, 0, 1), (yX0_owing, cX0_owing, 3, (some .int)))
def cd_X0_owes : List (List (Option Ent)) := [[some (.iconst 0, 1, 0, 0, []), some (.istore_n 2, 2, 0, 0, []), some (.iconst 0, 3, 0, 0, []), some (.istore_n 3, 4, 0, 0, []), some (.iload_n 3, 5, 0, 0, []), some (.aload_n 0, 6, 0, 0, []), some (.getfield 37, 9, 0, 0, []), none, none, some (.if_icmp .ge 22, 12, 31, 0, []), none, none, some (.iload_n 2, 13, 0, 0, []), some (.aload_n 0, 14, 0, 0, []), some (.getfield 21, 17, 0, 0, []), none],
  [none, some (.iload_n 1, 18, 0, 0, []), some (.iconst 5, 19, 0, 5, []), some (.imul, 20, 0, 0, []), some (.iload_n 3, 21, 0, 0, []), some (.iadd, 22, 0, 0, []), some (.iaload, 23, 0, 0, []), some (.iadd, 24, 0, 0, []), some (.istore_n 2, 25, 0, 0, []), some (.iinc 3 1, 28, 0, 1, []), none, none, some (.goto (-24), 31, 4, 0, []), none, none, some (.iload_n 2, 32, 0, 0, [])],
  [some (.ireturn, 33, 0, 0, [])]]
def m_X0_owes : MT := ((cd_X0_owes, 0, 0, 0, 1), (yX0_owes, cX0_owes, 4, (some .int)))
def cd_X0_owedTo : List (List (Option Ent)) := [[some (.iconst 0, 1, 0, 0, []), some (.istore_n 2, 2, 0, 0, []), some (.iconst 0, 3, 0, 0, []), some (.istore_n 3, 4, 0, 0, []), some (.iload_n 3, 5, 0, 0, []), some (.aload_n 0, 6, 0, 0, []), some (.getfield 37, 9, 0, 0, []), none, none, some (.if_icmp .ge 22, 12, 31, 0, []), none, none, some (.iload_n 2, 13, 0, 0, []), some (.aload_n 0, 14, 0, 0, []), some (.getfield 21, 17, 0, 0, []), none],
  [none, some (.iload_n 3, 18, 0, 0, []), some (.iconst 5, 19, 0, 5, []), some (.imul, 20, 0, 0, []), some (.iload_n 1, 21, 0, 0, []), some (.iadd, 22, 0, 0, []), some (.iaload, 23, 0, 0, []), some (.iadd, 24, 0, 0, []), some (.istore_n 2, 25, 0, 0, []), some (.iinc 3 1, 28, 0, 1, []), none, none, some (.goto (-24), 31, 4, 0, []), none, none, some (.iload_n 2, 32, 0, 0, [])],
  [some (.ireturn, 33, 0, 0, [])]]
def m_X0_owedTo : MT := ((cd_X0_owedTo, 0, 0, 0, 1), (yX0_owedTo, cX0_owedTo, 4, (some .int)))
def cd_X0_all : List (List (Option Ent)) := [[some (.iconst 0, 1, 0, 0, []), some (.istore_n 1, 2, 0, 0, []), some (.iconst 0, 3, 0, 0, []), some (.istore_n 2, 4, 0, 0, []), some (.iload_n 2, 5, 0, 0, []), some (.aload_n 0, 6, 0, 0, []), some (.getfield 37, 9, 0, 0, []), none, none, some (.if_icmp .ge 17, 12, 26, 0, []), none, none, some (.iload_n 1, 13, 0, 0, []), some (.aload_n 0, 14, 0, 0, []), some (.iload_n 2, 15, 0, 0, []), some (.invokevirtual 56, 18, 0, 0, [])],
  [none, none, some (.iadd, 19, 0, 0, []), some (.istore_n 1, 20, 0, 0, []), some (.iinc 2 1, 23, 0, 1, []), none, none, some (.goto (-19), 26, 4, 0, []), none, none, some (.iload_n 1, 27, 0, 0, []), some (.ireturn, 28, 0, 0, [])]]
def m_X0_all : MT := ((cd_X0_all, 0, 0, 0, 1), (yX0_all, cX0_all, 3, (some .int)))
def cd_X0_value : List (List (Option Ent)) := [[some (.aload_n 0, 1, 0, 0, []), some (.getfield 33, 4, 0, 0, []), none, none, some (.getfield 60, 7, 0, 0, []), none, none, some (.astore 4, 9, 0, 0, []), none, some (.aload 4, 11, 0, 0, []), none, some (.iconst 0, 12, 0, 0, []), some (.iload_n 3, 13, 0, 0, []), some (.iastore, 14, 0, 0, []), some (.aload 4, 16, 0, 0, []), none],
  [some (.iconst 1, 17, 0, 1, []), some (.aload_n 0, 18, 0, 0, []), some (.iload_n 2, 19, 0, 0, []), some (.invokevirtual 65, 22, 0, 0, []), none, none, some (.iastore, 23, 0, 0, []), some (.aload 4, 25, 0, 0, []), none, some (.iconst 2, 26, 0, 2, []), some (.aload_n 0, 27, 0, 0, []), some (.getfield 15, 30, 0, 0, []), none, none, some (.iload_n 2, 31, 0, 0, []), some (.iaload, 32, 0, 0, [])],
  [some (.iastore, 33, 0, 0, []), some (.aload 4, 35, 0, 0, []), none, some (.iconst 3, 36, 0, 3, []), some (.aload_n 0, 37, 0, 0, []), some (.getfield 41, 40, 0, 0, []), none, none, some (.iastore, 41, 0, 0, []), some (.aload 4, 43, 0, 0, []), none, some (.iconst 4, 44, 0, 4, []), some (.aload_n 0, 45, 0, 0, []), some (.getfield 18, 48, 0, 0, []), none, none],
  [some (.iload_n 2, 49, 0, 0, []), some (.iaload, 50, 0, 0, []), some (.iastore, 51, 0, 0, []), some (.aload 4, 53, 0, 0, []), none, some (.iconst 5, 54, 0, 5, []), some (.aload_n 0, 55, 0, 0, []), some (.getfield 44, 58, 0, 0, []), none, none, some (.iastore, 59, 0, 0, []), some (.aload_n 0, 60, 0, 0, []), some (.getfield 33, 63, 0, 0, []), none, none, some (.aload_n 0, 64, 0, 0, [])],
  [some (.getfield 47, 67, 0, 0, []), none, none, some (.iload_n 1, 68, 0, 0, []), some (.invokevirtual 68, 71, 0, 0, []), none, none, some (.istore 5, 73, 0, 0, []), none, some (.iload_n 1, 74, 0, 0, []), some (.iconst 1, 75, 0, 1, []), some (.if_icmp .ne 8, 78, 83, 0, []), none, none, some (.iload 5, 80, 0, 0, []), none],
  [some (.goto 10, 83, 90, 0, []), none, none, some (.iload 5, 85, 0, 0, []), none, some (.bipush 99, 87, 0, 99, []), none, some (.invokestatic 72, 90, 0, 0, []), none, none, some (.ireturn, 91, 0, 0, [])]]
def m_X0_value : MT := ((cd_X0_value, 0, 0, 0, 1), (yX0_value, cX0_value, 6, (some .int)))
def cd_X0_pays : List (List (Option Ent)) := [[some (.aload_n 0, 1, 0, 0, []), some (.getfield 9, 4, 0, 0, []), none, none, some (.iload_n 1, 5, 0, 0, []), some (.iaload, 6, 0, 0, []), some (.tableswitch 95 1 5 #[34, 47, 52, 85, 90], 40, 101, 0, [(1, 40), (2, 53), (3, 58), (4, 91), (5, 96)]), none, none, none, none, none, none, none, none, none],
  [none, none, none, none, none, none, none, none, none, none, none, none, none, none, none, none],
  [none, none, none, none, none, none, none, none, some (.iconst 2, 41, 0, 2, []), some (.aload_n 0, 42, 0, 0, []), some (.iconst 0, 43, 0, 0, []), some (.iload_n 1, 44, 0, 0, []), some (.iload_n 2, 45, 0, 0, []), some (.invokevirtual 75, 48, 0, 0, []), none, none],
  [some (.imul, 49, 0, 0, []), some (.istore_n 3, 50, 0, 0, []), some (.goto 59, 53, 109, 0, []), none, none, some (.iconst 1, 54, 0, 1, []), some (.istore_n 3, 55, 0, 0, []), some (.goto 54, 58, 109, 0, []), none, none, some (.iconst 2, 59, 0, 2, []), some (.aload_n 0, 60, 0, 0, []), some (.iconst 0, 61, 0, 0, []), some (.iload_n 1, 62, 0, 0, []), some (.iload_n 2, 63, 0, 0, []), some (.invokevirtual 75, 66, 0, 0, [])],
  [none, none, some (.imul, 67, 0, 0, []), some (.aload_n 0, 68, 0, 0, []), some (.getfield 41, 71, 0, 0, []), none, none, some (.iconst 2, 72, 0, 2, []), some (.irem, 73, 0, 0, []), some (.ifCond .ne 12, 76, 85, 0, []), none, none, some (.aload_n 0, 77, 0, 0, []), some (.getfield 15, 80, 0, 0, []), none, none],
  [some (.iload_n 1, 81, 0, 0, []), some (.iaload, 82, 0, 0, []), some (.goto 4, 85, 86, 0, []), none, none, some (.iconst 0, 86, 0, 0, []), some (.iadd, 87, 0, 0, []), some (.istore_n 3, 88, 0, 0, []), some (.goto 21, 91, 109, 0, []), none, none, some (.iload_n 2, 92, 0, 0, []), some (.istore_n 3, 93, 0, 0, []), some (.goto 16, 96, 109, 0, []), none, none],
  [some (.iconst 0, 97, 0, 0, []), some (.istore_n 3, 98, 0, 0, []), some (.goto 11, 101, 109, 0, []), none, none, some (.aload_n 0, 102, 0, 0, []), some (.iconst 0, 103, 0, 0, []), some (.iload_n 1, 104, 0, 0, []), some (.iload_n 2, 105, 0, 0, []), some (.invokevirtual 75, 108, 0, 0, []), none, none, some (.istore_n 3, 109, 0, 0, []), some (.iload_n 3, 110, 0, 0, []), some (.iload_n 2, 111, 0, 0, []), some (.invokestatic 72, 114, 0, 0, [])],
  [none, none, some (.ireturn, 115, 0, 0, [])]]
def m_X0_pays : MT := ((cd_X0_pays, 0, 0, 0, 1), (yX0_pays, cX0_pays, 4, (some .int)))
def cd_X0_will : List (List (Option Ent)) := [[some (.aload_n 0, 1, 0, 0, []), some (.iload_n 1, 2, 0, 0, []), some (.iload_n 2, 3, 0, 0, []), some (.invokevirtual 78, 6, 0, 0, []), none, none, some (.istore_n 3, 7, 0, 0, []), some (.aload_n 0, 8, 0, 0, []), some (.iload_n 2, 9, 0, 0, []), some (.iload_n 1, 10, 0, 0, []), some (.invokevirtual 78, 13, 0, 0, []), none, none, some (.ifCond .le 7, 16, 20, 0, []), none, none],
  [some (.iconst 1, 17, 0, 1, []), some (.goto 4, 20, 21, 0, []), none, none, some (.iconst 0, 21, 0, 0, []), some (.istore 4, 23, 0, 0, []), none, some (.aload_n 0, 24, 0, 0, []), some (.getfield 9, 27, 0, 0, []), none, none, some (.iload_n 1, 28, 0, 0, []), some (.iaload, 29, 0, 0, []), some (.tableswitch 110 1 5 #[35, 37, 58, 79, 108], 64, 139, 0, [(1, 64), (2, 66), (3, 87), (4, 108), (5, 137)]), none, none],
  [none, none, none, none, none, none, none, none, none, none, none, none, none, none, none, none],
  [none, none, none, none, none, none, none, none, none, none, none, none, none, none, none, none],
  [some (.iconst 1, 65, 0, 1, []), some (.ireturn, 66, 0, 0, []), some (.iload 4, 68, 0, 0, []), none, some (.ifCond .eq 17, 71, 85, 0, []), none, none, some (.aload_n 0, 72, 0, 0, []), some (.iconst 1, 73, 0, 1, []), some (.iload_n 1, 74, 0, 0, []), some (.iload_n 3, 75, 0, 0, []), some (.invokevirtual 75, 78, 0, 0, []), none, none, some (.ifCond .eq 7, 81, 85, 0, []), none],
  [none, some (.iconst 1, 82, 0, 1, []), some (.goto 4, 85, 86, 0, []), none, none, some (.iconst 0, 86, 0, 0, []), some (.ireturn, 87, 0, 0, []), some (.aload_n 0, 88, 0, 0, []), some (.getfield 18, 91, 0, 0, []), none, none, some (.iload_n 1, 92, 0, 0, []), some (.iaload, 93, 0, 0, []), some (.aload_n 0, 94, 0, 0, []), some (.getfield 15, 97, 0, 0, []), none],
  [none, some (.iload_n 1, 98, 0, 0, []), some (.iaload, 99, 0, 0, []), some (.if_icmp .eq 7, 102, 106, 0, []), none, none, some (.iconst 1, 103, 0, 1, []), some (.goto 4, 106, 107, 0, []), none, none, some (.iconst 0, 107, 0, 0, []), some (.ireturn, 108, 0, 0, []), some (.aload_n 0, 109, 0, 0, []), some (.iload_n 1, 110, 0, 0, []), some (.invokevirtual 65, 113, 0, 0, []), none],
  [none, some (.ifCond .eq 18, 116, 131, 0, []), none, none, some (.iload 4, 118, 0, 0, []), none, some (.ifCond .eq 17, 121, 135, 0, []), none, none, some (.aload_n 0, 122, 0, 0, []), some (.iconst 1, 123, 0, 1, []), some (.iload_n 1, 124, 0, 0, []), some (.iload_n 3, 125, 0, 0, []), some (.invokevirtual 75, 128, 0, 0, []), none, none],
  [some (.ifCond .eq 7, 131, 135, 0, []), none, none, some (.iconst 1, 132, 0, 1, []), some (.goto 4, 135, 136, 0, []), none, none, some (.iconst 0, 136, 0, 0, []), some (.ireturn, 137, 0, 0, []), some (.iconst 0, 138, 0, 0, []), some (.ireturn, 139, 0, 0, []), some (.aload_n 0, 140, 0, 0, []), some (.iconst 1, 141, 0, 1, []), some (.iload_n 1, 142, 0, 0, []), some (.iload_n 3, 143, 0, 0, []), some (.invokevirtual 75, 146, 0, 0, [])],
  [none, none, some (.ifCond .eq 7, 149, 153, 0, []), none, none, some (.iconst 1, 150, 0, 1, []), some (.goto 4, 153, 154, 0, []), none, none, some (.iconst 0, 154, 0, 0, []), some (.ireturn, 155, 0, 0, [])]]
def m_X0_will : MT := ((cd_X0_will, 0, 0, 0, 4), (yX0_will, cX0_will, 5, (some .boolean)))
def cd_X0_breath : List (List (Option Ent)) := [[some (.aload_n 0, 1, 0, 0, []), some (.getfield 9, 4, 0, 0, []), none, none, some (.iload_n 1, 5, 0, 0, []), some (.iaload, 6, 0, 0, []), some (.tableswitch 76 1 5 #[34, 47, 34, 60, 66], 40, 82, 0, [(1, 40), (2, 53), (3, 40), (4, 66), (5, 72)]), none, none, none, none, none, none, none, none, none],
  [none, none, none, none, none, none, none, none, none, none, none, none, none, none, none, none],
  [none, none, none, none, none, none, none, none, some (.aload_n 0, 41, 0, 0, []), some (.iconst 2, 42, 0, 2, []), some (.iload_n 1, 43, 0, 0, []), some (.iconst 0, 44, 0, 0, []), some (.invokevirtual 75, 47, 0, 0, []), none, none, some (.iconst 3, 48, 0, 3, [])],
  [some (.iadd, 49, 0, 0, []), some (.istore_n 2, 50, 0, 0, []), some (.goto 40, 53, 90, 0, []), none, none, some (.aload_n 0, 54, 0, 0, []), some (.iconst 2, 55, 0, 2, []), some (.iload_n 1, 56, 0, 0, []), some (.iconst 0, 57, 0, 0, []), some (.invokevirtual 75, 60, 0, 0, []), none, none, some (.iconst 2, 61, 0, 2, []), some (.idiv, 62, 0, 0, []), some (.istore_n 2, 63, 0, 0, []), some (.goto 27, 66, 90, 0, [])],
  [none, none, some (.bipush 99, 68, 0, 99, []), none, some (.istore_n 2, 69, 0, 0, []), some (.goto 21, 72, 90, 0, []), none, none, some (.aload_n 0, 73, 0, 0, []), some (.getfield 15, 76, 0, 0, []), none, none, some (.iload_n 1, 77, 0, 0, []), some (.iaload, 78, 0, 0, []), some (.istore_n 2, 79, 0, 0, []), some (.goto 11, 82, 90, 0, [])],
  [none, none, some (.aload_n 0, 83, 0, 0, []), some (.iconst 2, 84, 0, 2, []), some (.iload_n 1, 85, 0, 0, []), some (.iconst 0, 86, 0, 0, []), some (.invokevirtual 75, 89, 0, 0, []), none, none, some (.istore_n 2, 90, 0, 0, []), some (.iload_n 2, 91, 0, 0, []), some (.bipush 99, 93, 0, 99, []), none, some (.invokestatic 72, 96, 0, 0, []), none, none],
  [some (.ireturn, 97, 0, 0, [])]]
def m_X0_breath : MT := ((cd_X0_breath, 0, 0, 0, 1), (yX0_breath, cX0_breath, 3, (some .int)))
def cd_X0_may : List (List (Option Ent)) := [[some (.aload_n 0, 1, 0, 0, []), some (.iload_n 1, 2, 0, 0, []), some (.iload_n 2, 3, 0, 0, []), some (.invokevirtual 78, 6, 0, 0, []), none, none, some (.ifCond .gt 12, 9, 18, 0, []), none, none, some (.aload_n 0, 10, 0, 0, []), some (.iload_n 2, 11, 0, 0, []), some (.iload_n 1, 12, 0, 0, []), some (.invokevirtual 78, 15, 0, 0, []), none, none, some (.ifCond .le 53, 18, 68, 0, [])],
  [none, none, some (.aload_n 0, 19, 0, 0, []), some (.iload_n 1, 20, 0, 0, []), some (.iload_n 2, 21, 0, 0, []), some (.invokevirtual 81, 24, 0, 0, []), none, none, some (.ifCond .eq 44, 27, 68, 0, []), none, none, some (.aload_n 0, 28, 0, 0, []), some (.iload_n 2, 29, 0, 0, []), some (.iload_n 1, 30, 0, 0, []), some (.invokevirtual 81, 33, 0, 0, []), none],
  [none, some (.ifCond .eq 35, 36, 68, 0, []), none, none, some (.aload_n 0, 37, 0, 0, []), some (.getfield 18, 40, 0, 0, []), none, none, some (.iload_n 1, 41, 0, 0, []), some (.iaload, 42, 0, 0, []), some (.aload_n 0, 43, 0, 0, []), some (.iload_n 1, 44, 0, 0, []), some (.invokevirtual 85, 47, 0, 0, []), none, none, some (.if_icmp .ge 21, 50, 68, 0, [])],
  [none, none, some (.aload_n 0, 51, 0, 0, []), some (.getfield 18, 54, 0, 0, []), none, none, some (.iload_n 2, 55, 0, 0, []), some (.iaload, 56, 0, 0, []), some (.aload_n 0, 57, 0, 0, []), some (.iload_n 2, 58, 0, 0, []), some (.invokevirtual 85, 61, 0, 0, []), none, none, some (.if_icmp .ge 7, 64, 68, 0, []), none, none],
  [some (.iconst 1, 65, 0, 1, []), some (.goto 4, 68, 69, 0, []), none, none, some (.iconst 0, 69, 0, 0, []), some (.ireturn, 70, 0, 0, [])]]
def m_X0_may : MT := ((cd_X0_may, 0, 0, 0, 4), (yX0_may, cX0_may, 3, (some .boolean)))
def cd_X0_step : List (List (Option Ent)) := [[some (.aload_n 0, 1, 0, 0, []), some (.iload_n 1, 2, 0, 0, []), some (.aload_n 0, 3, 0, 0, []), some (.iload_n 1, 4, 0, 0, []), some (.iload_n 2, 5, 0, 0, []), some (.invokevirtual 78, 8, 0, 0, []), none, none, some (.invokevirtual 88, 11, 0, 0, []), none, none, some (.istore_n 3, 12, 0, 0, []), some (.aload_n 0, 13, 0, 0, []), some (.iload_n 2, 14, 0, 0, []), some (.aload_n 0, 15, 0, 0, []), some (.iload_n 2, 16, 0, 0, [])],
  [some (.iload_n 1, 17, 0, 0, []), some (.invokevirtual 78, 20, 0, 0, []), none, none, some (.invokevirtual 88, 23, 0, 0, []), none, none, some (.istore 4, 25, 0, 0, []), none, some (.aload_n 0, 26, 0, 0, []), some (.iload_n 1, 27, 0, 0, []), some (.iload_n 2, 28, 0, 0, []), some (.iload_n 3, 29, 0, 0, []), some (.iload 4, 31, 0, 0, []), none, some (.invokevirtual 91, 34, 0, 0, [])],
  [none, none, some (.iload_n 3, 35, 0, 0, []), some (.iload 4, 37, 0, 0, []), none, some (.iadd, 38, 0, 0, []), some (.ireturn, 39, 0, 0, [])]]
def m_X0_step : MT := ((cd_X0_step, 0, 0, 0, 1), (yX0_step, cX0_step, 5, (some .int)))
def cd_X0_lessen : List (List (Option Ent)) := [[some (.aload_n 0, 1, 0, 0, []), some (.getfield 21, 4, 0, 0, []), none, none, some (.iload_n 1, 5, 0, 0, []), some (.iconst 5, 6, 0, 5, []), some (.imul, 7, 0, 0, []), some (.iload_n 2, 8, 0, 0, []), some (.iadd, 9, 0, 0, []), some (.dup2, 10, 0, 0, []), some (.iaload, 11, 0, 0, []), some (.iload_n 3, 12, 0, 0, []), some (.isub, 13, 0, 0, []), some (.iastore, 14, 0, 0, []), some (.return_, 15, 0, 0, [])]]
def m_X0_lessen : MT := ((cd_X0_lessen, 0, 0, 0, 0), (yX0_lessen, cX0_lessen, 4, none))
def cd_X0_settle : List (List (Option Ent)) := [[some (.aload_n 0, 1, 0, 0, []), some (.iload_n 1, 2, 0, 0, []), some (.iload_n 2, 3, 0, 0, []), some (.iload_n 3, 4, 0, 0, []), some (.invokevirtual 95, 7, 0, 0, []), none, none, some (.aload_n 0, 8, 0, 0, []), some (.iload_n 2, 9, 0, 0, []), some (.iload_n 1, 10, 0, 0, []), some (.iload 4, 12, 0, 0, []), none, some (.invokevirtual 95, 15, 0, 0, []), none, none, some (.aload_n 0, 16, 0, 0, [])],
  [some (.getfield 18, 19, 0, 0, []), none, none, some (.iload_n 1, 20, 0, 0, []), some (.aload_n 0, 21, 0, 0, []), some (.getfield 18, 24, 0, 0, []), none, none, some (.iload_n 1, 25, 0, 0, []), some (.iaload, 26, 0, 0, []), some (.iconst 1, 27, 0, 1, []), some (.iadd, 28, 0, 0, []), some (.bipush 99, 30, 0, 99, []), none, some (.invokestatic 99, 33, 0, 0, []), none],
  [none, some (.iastore, 34, 0, 0, []), some (.aload_n 0, 35, 0, 0, []), some (.getfield 18, 38, 0, 0, []), none, none, some (.iload_n 2, 39, 0, 0, []), some (.aload_n 0, 40, 0, 0, []), some (.getfield 18, 43, 0, 0, []), none, none, some (.iload_n 2, 44, 0, 0, []), some (.iaload, 45, 0, 0, []), some (.iconst 1, 46, 0, 1, []), some (.iadd, 47, 0, 0, []), some (.bipush 99, 49, 0, 99, [])],
  [none, some (.invokestatic 99, 52, 0, 0, []), none, none, some (.iastore, 53, 0, 0, []), some (.return_, 54, 0, 0, [])]]
def m_X0_settle : MT := ((cd_X0_settle, 0, 0, 0, 0), (yX0_settle, cX0_settle, 5, none))
def cd_X0_danceRound : List (List (Option Ent)) := [[some (.aload_n 0, 1, 0, 0, []), some (.iconst 0, 2, 0, 0, []), some (.putfield 104, 5, 0, 0, []), none, none, some (.iconst 0, 6, 0, 0, []), some (.istore_n 1, 7, 0, 0, []), some (.iconst 0, 8, 0, 0, []), some (.istore_n 2, 9, 0, 0, []), some (.iload_n 2, 10, 0, 0, []), some (.getstatic 24, 13, 0, 0, []), none, none, some (.arraylength, 14, 0, 0, []), some (.if_icmp .ge 82, 17, 96, 0, []), none],
  [none, some (.getstatic 24, 20, 0, 0, []), none, none, some (.iload_n 2, 21, 0, 0, []), some (.iaload, 22, 0, 0, []), some (.istore_n 3, 23, 0, 0, []), some (.getstatic 107, 26, 0, 0, []), none, none, some (.iload_n 2, 27, 0, 0, []), some (.iaload, 28, 0, 0, []), some (.istore 4, 30, 0, 0, []), none, some (.iconst 1, 31, 0, 1, []), some (.iload_n 3, 32, 0, 0, [])],
  [some (.ishl, 33, 0, 0, []), some (.iconst 1, 34, 0, 1, []), some (.iload 4, 36, 0, 0, []), none, some (.ishl, 37, 0, 0, []), some (.ior, 38, 0, 0, []), some (.istore 5, 40, 0, 0, []), none, some (.iload 4, 42, 0, 0, []), none, some (.aload_n 0, 43, 0, 0, []), some (.getfield 37, 46, 0, 0, []), none, none, some (.if_icmp .ge 44, 49, 90, 0, []), none],
  [none, some (.aload_n 0, 50, 0, 0, []), some (.getfield 104, 53, 0, 0, []), none, none, some (.iload 5, 55, 0, 0, []), none, some (.iand, 56, 0, 0, []), some (.ifCond .ne 34, 59, 90, 0, []), none, none, some (.aload_n 0, 60, 0, 0, []), some (.iload_n 3, 61, 0, 0, []), some (.iload 4, 63, 0, 0, []), none, some (.invokevirtual 110, 66, 0, 0, [])],
  [none, none, some (.ifCond .eq 24, 69, 90, 0, []), none, none, some (.iload_n 1, 70, 0, 0, []), some (.aload_n 0, 71, 0, 0, []), some (.iload_n 3, 72, 0, 0, []), some (.iload 4, 74, 0, 0, []), none, some (.invokevirtual 113, 77, 0, 0, []), none, none, some (.iadd, 78, 0, 0, []), some (.istore_n 1, 79, 0, 0, []), some (.aload_n 0, 80, 0, 0, [])],
  [some (.dup, 81, 0, 0, []), some (.getfield 104, 84, 0, 0, []), none, none, some (.iload 5, 86, 0, 0, []), none, some (.ior, 87, 0, 0, []), some (.putfield 104, 90, 0, 0, []), none, none, some (.iinc 2 1, 93, 0, 1, []), none, none, some (.goto (-84), 96, 9, 0, []), none, none],
  [some (.aload_n 0, 97, 0, 0, []), some (.dup, 98, 0, 0, []), some (.getfield 41, 101, 0, 0, []), none, none, some (.iconst 1, 102, 0, 1, []), some (.iadd, 103, 0, 0, []), some (.putfield 41, 106, 0, 0, []), none, none, some (.iload_n 1, 107, 0, 0, []), some (.ireturn, 108, 0, 0, [])]]
def m_X0_danceRound : MT := ((cd_X0_danceRound, 0, 0, 0, 1), (yX0_danceRound, cX0_danceRound, 6, (some .int)))
def cd_X0_endNight : List (List (Option Ent)) := [[some (.iconst 0, 1, 0, 0, []), some (.istore_n 1, 2, 0, 0, []), some (.iconst 0, 3, 0, 0, []), some (.istore_n 2, 4, 0, 0, []), some (.iload_n 2, 5, 0, 0, []), some (.aload_n 0, 6, 0, 0, []), some (.getfield 37, 9, 0, 0, []), none, none, some (.if_icmp .ge 25, 12, 34, 0, []), none, none, some (.iload_n 1, 13, 0, 0, []), some (.aload_n 0, 14, 0, 0, []), some (.getfield 18, 17, 0, 0, []), none],
  [none, some (.iload_n 2, 18, 0, 0, []), some (.iaload, 19, 0, 0, []), some (.iadd, 20, 0, 0, []), some (.istore_n 1, 21, 0, 0, []), some (.aload_n 0, 22, 0, 0, []), some (.getfield 18, 25, 0, 0, []), none, none, some (.iload_n 2, 26, 0, 0, []), some (.iconst 0, 27, 0, 0, []), some (.iastore, 28, 0, 0, []), some (.iinc 2 1, 31, 0, 1, []), none, none, some (.goto (-27), 34, 4, 0, [])],
  [none, none, some (.aload_n 0, 35, 0, 0, []), some (.dup, 36, 0, 0, []), some (.getfield 44, 39, 0, 0, []), none, none, some (.iconst 1, 40, 0, 1, []), some (.iadd, 41, 0, 0, []), some (.putfield 44, 44, 0, 0, []), none, none, some (.iload_n 1, 45, 0, 0, []), some (.ireturn, 46, 0, 0, [])]]
def m_X0_endNight : MT := ((cd_X0_endNight, 0, 0, 0, 1), (yX0_endNight, cX0_endNight, 3, (some .int)))
def cd_X0_ends : List (List (Option Ent)) := [[some (.iconst 0, 1, 0, 0, []), some (.istore_n 1, 2, 0, 0, []), some (.iload_n 1, 3, 0, 0, []), some (.bipush 60, 5, 0, 60, []), none, some (.if_icmp .gt 18, 8, 23, 0, []), none, none, some (.aload_n 0, 9, 0, 0, []), some (.invokevirtual 116, 12, 0, 0, []), none, none, some (.ifCond .ne 5, 15, 17, 0, []), none, none, some (.iload_n 1, 16, 0, 0, [])],
  [some (.ireturn, 17, 0, 0, []), some (.iinc 1 1, 20, 0, 1, []), none, none, some (.goto (-18), 23, 2, 0, []), none, none, some (.iconst (-1), 24, 0, (-1), []), some (.ireturn, 25, 0, 0, [])]]
def m_X0_ends : MT := ((cd_X0_ends, 0, 0, 0, 1), (yX0_ends, cX0_ends, 2, (some .int)))
def cd_X0_draw : List (List (Option Ent)) := [[some (.iload_n 1, 1, 0, 0, []), some (.istore_n 2, 2, 0, 0, []), some (.iconst 0, 3, 0, 0, []), some (.istore_n 3, 4, 0, 0, []), some (.iload_n 3, 5, 0, 0, []), some (.aload_n 0, 6, 0, 0, []), some (.getfield 37, 9, 0, 0, []), none, none, some (.if_icmp .ge 59, 12, 68, 0, []), none, none, some (.iconst 0, 13, 0, 0, []), some (.istore 4, 15, 0, 0, []), none, some (.iload 4, 17, 0, 0, [])],
  [none, some (.aload_n 0, 18, 0, 0, []), some (.getfield 37, 21, 0, 0, []), none, none, some (.if_icmp .ge 41, 24, 62, 0, []), none, none, some (.iload_n 3, 25, 0, 0, []), some (.iload 4, 27, 0, 0, []), none, some (.if_icmp .eq 29, 30, 56, 0, []), none, none, some (.iload_n 2, 31, 0, 0, []), some (.ldc 120, 33, 0, 0, [])],
  [none, some (.imul, 34, 0, 0, []), some (.sipush 12345, 37, 0, 12345, []), none, none, some (.iadd, 38, 0, 0, []), some (.istore_n 2, 39, 0, 0, []), some (.aload_n 0, 40, 0, 0, []), some (.getfield 21, 43, 0, 0, []), none, none, some (.iload_n 3, 44, 0, 0, []), some (.iconst 5, 45, 0, 5, []), some (.imul, 46, 0, 0, []), some (.iload 4, 48, 0, 0, []), none],
  [some (.iadd, 49, 0, 0, []), some (.iload_n 2, 50, 0, 0, []), some (.bipush 9, 52, 0, 9, []), none, some (.iushr, 53, 0, 0, []), some (.iconst 4, 54, 0, 4, []), some (.irem, 55, 0, 0, []), some (.iastore, 56, 0, 0, []), some (.iinc 4 1, 59, 0, 1, []), none, none, some (.goto (-44), 62, 15, 0, []), none, none, some (.iinc 3 1, 65, 0, 1, []), none],
  [none, some (.goto (-61), 68, 4, 0, []), none, none, some (.return_, 69, 0, 0, [])]]
def m_X0_draw : MT := ((cd_X0_draw, 0, 0, 0, 0), (yX0_draw, cX0_draw, 5, none))
def cd_X0_stillOwed : List (List (Option Ent)) := [[some (.iconst 0, 1, 0, 0, []), some (.istore_n 1, 2, 0, 0, []), some (.iconst 0, 3, 0, 0, []), some (.istore_n 2, 4, 0, 0, []), some (.iload_n 2, 5, 0, 0, []), some (.aload_n 0, 6, 0, 0, []), some (.getfield 37, 9, 0, 0, []), none, none, some (.if_icmp .ge 23, 12, 32, 0, []), none, none, some (.aload_n 0, 13, 0, 0, []), some (.iload_n 2, 14, 0, 0, []), some (.invokevirtual 65, 17, 0, 0, []), none],
  [none, some (.ifCond .le 9, 20, 26, 0, []), none, none, some (.iload_n 1, 21, 0, 0, []), some (.iconst 1, 22, 0, 1, []), some (.iload_n 2, 23, 0, 0, []), some (.ishl, 24, 0, 0, []), some (.ior, 25, 0, 0, []), some (.istore_n 1, 26, 0, 0, []), some (.iinc 2 1, 29, 0, 1, []), none, none, some (.goto (-25), 32, 4, 0, []), none, none],
  [some (.iload_n 1, 33, 0, 0, []), some (.ireturn, 34, 0, 0, [])]]
def m_X0_stillOwed : MT := ((cd_X0_stillOwed, 0, 0, 0, 1), (yX0_stillOwed, cX0_stillOwed, 3, (some .int)))
def cd_X0_keeps : List (List (Option Ent)) := [[some (.iconst (-1), 1, 0, (-1), []), some (.istore_n 1, 2, 0, 0, []), some (.iconst 0, 3, 0, 0, []), some (.istore_n 2, 4, 0, 0, []), some (.iconst 0, 5, 0, 0, []), some (.istore_n 3, 6, 0, 0, []), some (.iload_n 3, 7, 0, 0, []), some (.aload_n 0, 8, 0, 0, []), some (.getfield 37, 11, 0, 0, []), none, none, some (.if_icmp .ge 27, 14, 38, 0, []), none, none, some (.aload_n 0, 15, 0, 0, []), some (.iload_n 3, 16, 0, 0, [])],
  [some (.invokevirtual 65, 19, 0, 0, []), none, none, some (.istore 4, 21, 0, 0, []), none, some (.iload 4, 23, 0, 0, []), none, some (.iload_n 2, 24, 0, 0, []), some (.if_icmp .le 8, 27, 32, 0, []), none, none, some (.iload_n 3, 28, 0, 0, []), some (.istore_n 1, 29, 0, 0, []), some (.iload 4, 31, 0, 0, []), none, some (.istore_n 2, 32, 0, 0, [])],
  [some (.iinc 3 1, 35, 0, 1, []), none, none, some (.goto (-29), 38, 6, 0, []), none, none, some (.iload_n 1, 39, 0, 0, []), some (.ireturn, 40, 0, 0, [])]]
def m_X0_keeps : MT := ((cd_X0_keeps, 0, 0, 0, 1), (yX0_keeps, cX0_keeps, 5, (some .int)))
def cd_X0_least : List (List (Option Ent)) := [[some (.iconst 0, 1, 0, 0, []), some (.istore_n 1, 2, 0, 0, []), some (.iconst 0, 3, 0, 0, []), some (.istore_n 2, 4, 0, 0, []), some (.iload_n 2, 5, 0, 0, []), some (.aload_n 0, 6, 0, 0, []), some (.getfield 37, 9, 0, 0, []), none, none, some (.if_icmp .ge 27, 12, 36, 0, []), none, none, some (.iload_n 1, 13, 0, 0, []), some (.iconst 0, 14, 0, 0, []), some (.aload_n 0, 15, 0, 0, []), some (.iload_n 2, 16, 0, 0, [])],
  [some (.invokevirtual 56, 19, 0, 0, []), none, none, some (.aload_n 0, 20, 0, 0, []), some (.iload_n 2, 21, 0, 0, []), some (.invokevirtual 65, 24, 0, 0, []), none, none, some (.isub, 25, 0, 0, []), some (.invokestatic 121, 28, 0, 0, []), none, none, some (.iadd, 29, 0, 0, []), some (.istore_n 1, 30, 0, 0, []), some (.iinc 2 1, 33, 0, 1, []), none],
  [none, some (.goto (-29), 36, 4, 0, []), none, none, some (.iload_n 1, 37, 0, 0, []), some (.ireturn, 38, 0, 0, [])]]
def m_X0_least : MT := ((cd_X0_least, 0, 0, 0, 1), (yX0_least, cX0_least, 3, (some .int)))
def cd_X0_ring : List (List (Option Ent)) := [[some (.iconst 0, 1, 0, 0, []), some (.istore_n 1, 2, 0, 0, []), some (.iconst 0, 3, 0, 0, []), some (.istore_n 2, 4, 0, 0, []), some (.iload_n 2, 5, 0, 0, []), some (.aload_n 0, 6, 0, 0, []), some (.getfield 37, 9, 0, 0, []), none, none, some (.if_icmp .ge 24, 12, 33, 0, []), none, none, some (.iload_n 1, 13, 0, 0, []), some (.aload_n 0, 14, 0, 0, []), some (.iload_n 2, 15, 0, 0, []), some (.iload_n 2, 16, 0, 0, [])],
  [some (.iconst 1, 17, 0, 1, []), some (.iload_n 2, 18, 0, 0, []), some (.ishl, 19, 0, 0, []), some (.iconst 1, 20, 0, 1, []), some (.invokevirtual 124, 23, 0, 0, []), none, none, some (.invokestatic 121, 26, 0, 0, []), none, none, some (.istore_n 1, 27, 0, 0, []), some (.iinc 2 1, 30, 0, 1, []), none, none, some (.goto (-26), 33, 4, 0, []), none],
  [none, some (.iload_n 1, 34, 0, 0, []), some (.ireturn, 35, 0, 0, [])]]
def m_X0_ring : MT := ((cd_X0_ring, 0, 0, 0, 1), (yX0_ring, cX0_ring, 3, (some .int)))
def cd_X0_longest : List (List (Option Ent)) := [[some (.iload 4, 2, 0, 0, []), none, some (.iconst 1, 3, 0, 1, []), some (.if_icmp .le 17, 6, 20, 0, []), none, none, some (.aload_n 0, 7, 0, 0, []), some (.iload_n 2, 8, 0, 0, []), some (.iload_n 1, 9, 0, 0, []), some (.invokevirtual 78, 12, 0, 0, []), none, none, some (.ifCond .le 8, 15, 20, 0, []), none, none, some (.iload 4, 17, 0, 0, [])],
  [none, some (.goto 4, 20, 21, 0, []), none, none, some (.iconst 0, 21, 0, 0, []), some (.istore 5, 23, 0, 0, []), none, some (.iload_n 1, 24, 0, 0, []), some (.iconst 1, 25, 0, 1, []), some (.iadd, 26, 0, 0, []), some (.istore 6, 28, 0, 0, []), none, some (.iload 6, 30, 0, 0, []), none, some (.aload_n 0, 31, 0, 0, []), some (.getfield 37, 34, 0, 0, [])],
  [none, none, some (.if_icmp .ge 58, 37, 92, 0, []), none, none, some (.iload 4, 39, 0, 0, []), none, some (.iconst 5, 40, 0, 5, []), some (.if_icmp .ge 52, 43, 92, 0, []), none, none, some (.iload_n 3, 44, 0, 0, []), some (.iload 6, 46, 0, 0, []), none, some (.ishr, 47, 0, 0, []), some (.iconst 1, 48, 0, 1, [])],
  [some (.iand, 49, 0, 0, []), some (.ifCond .ne 37, 52, 86, 0, []), none, none, some (.aload_n 0, 53, 0, 0, []), some (.iload_n 2, 54, 0, 0, []), some (.iload 6, 56, 0, 0, []), none, some (.invokevirtual 78, 59, 0, 0, []), none, none, some (.ifCond .le 27, 62, 86, 0, []), none, none, some (.iload 5, 64, 0, 0, []), none],
  [some (.aload_n 0, 65, 0, 0, []), some (.iload_n 1, 66, 0, 0, []), some (.iload 6, 68, 0, 0, []), none, some (.iload_n 3, 69, 0, 0, []), some (.iconst 1, 70, 0, 1, []), some (.iload 6, 72, 0, 0, []), none, some (.ishl, 73, 0, 0, []), some (.ior, 74, 0, 0, []), some (.iload 4, 76, 0, 0, []), none, some (.iconst 1, 77, 0, 1, []), some (.iadd, 78, 0, 0, []), some (.invokevirtual 124, 81, 0, 0, []), none],
  [none, some (.invokestatic 121, 84, 0, 0, []), none, none, some (.istore 5, 86, 0, 0, []), none, some (.iinc 6 1, 89, 0, 1, []), none, none, some (.goto (-61), 92, 28, 0, []), none, none, some (.iload 5, 94, 0, 0, []), none, some (.ireturn, 95, 0, 0, [])]]
def m_X0_longest : MT := ((cd_X0_longest, 0, 0, 0, 1), (yX0_longest, cX0_longest, 7, (some .int)))
def cd_X0_mostToMeet : List (List (Option Ent)) := [[some (.iconst 0, 1, 0, 0, []), some (.istore_n 1, 2, 0, 0, []), some (.iconst 0, 3, 0, 0, []), some (.istore_n 2, 4, 0, 0, []), some (.iload_n 2, 5, 0, 0, []), some (.aload_n 0, 6, 0, 0, []), some (.getfield 37, 9, 0, 0, []), none, none, some (.if_icmp .ge 58, 12, 67, 0, []), none, none, some (.iconst 0, 13, 0, 0, []), some (.istore_n 3, 14, 0, 0, []), some (.iconst 0, 15, 0, 0, []), some (.istore 4, 17, 0, 0, [])],
  [none, some (.iload 4, 19, 0, 0, []), none, some (.aload_n 0, 20, 0, 0, []), some (.getfield 37, 23, 0, 0, []), none, none, some (.if_icmp .ge 32, 26, 55, 0, []), none, none, some (.aload_n 0, 27, 0, 0, []), some (.iload_n 2, 28, 0, 0, []), some (.iload 4, 30, 0, 0, []), none, some (.invokevirtual 78, 33, 0, 0, []), none],
  [none, some (.ifCond .gt 13, 36, 46, 0, []), none, none, some (.aload_n 0, 37, 0, 0, []), some (.iload 4, 39, 0, 0, []), none, some (.iload_n 2, 40, 0, 0, []), some (.invokevirtual 78, 43, 0, 0, []), none, none, some (.ifCond .le 6, 46, 49, 0, []), none, none, some (.iinc 3 1, 49, 0, 1, []), none],
  [none, some (.iinc 4 1, 52, 0, 1, []), none, none, some (.goto (-35), 55, 17, 0, []), none, none, some (.iload_n 1, 56, 0, 0, []), some (.iload_n 3, 57, 0, 0, []), some (.invokestatic 121, 60, 0, 0, []), none, none, some (.istore_n 1, 61, 0, 0, []), some (.iinc 2 1, 64, 0, 1, []), none, none],
  [some (.goto (-60), 67, 4, 0, []), none, none, some (.iload_n 1, 68, 0, 0, []), some (.ireturn, 69, 0, 0, [])]]
def m_X0_mostToMeet : MT := ((cd_X0_mostToMeet, 0, 0, 0, 1), (yX0_mostToMeet, cX0_mostToMeet, 5, (some .int)))
def cd_X0_weigh : List (List (Option Ent)) := [[some (.aload_n 0, 1, 0, 0, []), some (.iconst 0, 2, 0, 0, []), some (.putfield 128, 5, 0, 0, []), none, none, some (.iconst 0, 6, 0, 0, []), some (.istore_n 1, 7, 0, 0, []), some (.iload_n 1, 8, 0, 0, []), some (.getstatic 24, 11, 0, 0, []), none, none, some (.arraylength, 12, 0, 0, []), some (.if_icmp .ge 84, 15, 96, 0, []), none, none, some (.getstatic 24, 18, 0, 0, [])],
  [none, none, some (.iload_n 1, 19, 0, 0, []), some (.iaload, 20, 0, 0, []), some (.istore_n 2, 21, 0, 0, []), some (.getstatic 107, 24, 0, 0, []), none, none, some (.iload_n 1, 25, 0, 0, []), some (.iaload, 26, 0, 0, []), some (.istore_n 3, 27, 0, 0, []), some (.iload_n 3, 28, 0, 0, []), some (.aload_n 0, 29, 0, 0, []), some (.getfield 37, 32, 0, 0, []), none, none],
  [some (.if_icmp .ge 58, 35, 90, 0, []), none, none, some (.aload_n 0, 36, 0, 0, []), some (.iload_n 2, 37, 0, 0, []), some (.iload_n 3, 38, 0, 0, []), some (.invokevirtual 110, 41, 0, 0, []), none, none, some (.ifCond .eq 49, 44, 90, 0, []), none, none, some (.aload_n 0, 45, 0, 0, []), some (.dup, 46, 0, 0, []), some (.getfield 128, 49, 0, 0, []), none],
  [none, some (.iconst 1, 50, 0, 1, []), some (.iload_n 1, 51, 0, 0, []), some (.ishl, 52, 0, 0, []), some (.ior, 53, 0, 0, []), some (.putfield 128, 56, 0, 0, []), none, none, some (.aload_n 0, 57, 0, 0, []), some (.getfield 27, 60, 0, 0, []), none, none, some (.iload_n 1, 61, 0, 0, []), some (.aload_n 0, 62, 0, 0, []), some (.iload_n 2, 63, 0, 0, []), some (.aload_n 0, 64, 0, 0, [])],
  [some (.iload_n 2, 65, 0, 0, []), some (.iload_n 3, 66, 0, 0, []), some (.invokevirtual 78, 69, 0, 0, []), none, none, some (.invokevirtual 88, 72, 0, 0, []), none, none, some (.iastore, 73, 0, 0, []), some (.aload_n 0, 74, 0, 0, []), some (.getfield 30, 77, 0, 0, []), none, none, some (.iload_n 1, 78, 0, 0, []), some (.aload_n 0, 79, 0, 0, []), some (.iload_n 3, 80, 0, 0, [])],
  [some (.aload_n 0, 81, 0, 0, []), some (.iload_n 3, 82, 0, 0, []), some (.iload_n 2, 83, 0, 0, []), some (.invokevirtual 78, 86, 0, 0, []), none, none, some (.invokevirtual 88, 89, 0, 0, []), none, none, some (.iastore, 90, 0, 0, []), some (.iinc 1 1, 93, 0, 1, []), none, none, some (.goto (-86), 96, 7, 0, []), none, none],
  [some (.return_, 97, 0, 0, [])]]
def m_X0_weigh : MT := ((cd_X0_weigh, 0, 0, 0, 0), (yX0_weigh, cX0_weigh, 4, none))
def cd_X0_mayAll : List (List (Option Ent)) := [[some (.iload_n 1, 1, 0, 0, []), some (.aload_n 0, 2, 0, 0, []), some (.getfield 128, 5, 0, 0, []), none, none, some (.iconst (-1), 6, 0, (-1), []), some (.ixor, 7, 0, 0, []), some (.iand, 8, 0, 0, []), some (.ifCond .ne 7, 11, 15, 0, []), none, none, some (.iconst 1, 12, 0, 1, []), some (.goto 4, 15, 16, 0, []), none, none, some (.iconst 0, 16, 0, 0, [])],
  [some (.ireturn, 17, 0, 0, [])]]
def m_X0_mayAll : MT := ((cd_X0_mayAll, 0, 0, 0, 4), (yX0_mayAll, cX0_mayAll, 2, (some .boolean)))
def cd_X0_paidBy : List (List (Option Ent)) := [[some (.iconst 0, 1, 0, 0, []), some (.istore_n 2, 2, 0, 0, []), some (.iconst 0, 3, 0, 0, []), some (.istore_n 3, 4, 0, 0, []), some (.iload_n 3, 5, 0, 0, []), some (.getstatic 24, 8, 0, 0, []), none, none, some (.arraylength, 9, 0, 0, []), some (.if_icmp .ge 34, 12, 43, 0, []), none, none, some (.iload_n 1, 13, 0, 0, []), some (.iload_n 3, 14, 0, 0, []), some (.ishr, 15, 0, 0, []), some (.iconst 1, 16, 0, 1, [])],
  [some (.iand, 17, 0, 0, []), some (.iconst 1, 18, 0, 1, []), some (.if_icmp .ne 19, 21, 37, 0, []), none, none, some (.iload_n 2, 22, 0, 0, []), some (.aload_n 0, 23, 0, 0, []), some (.getfield 27, 26, 0, 0, []), none, none, some (.iload_n 3, 27, 0, 0, []), some (.iaload, 28, 0, 0, []), some (.aload_n 0, 29, 0, 0, []), some (.getfield 30, 32, 0, 0, []), none, none],
  [some (.iload_n 3, 33, 0, 0, []), some (.iaload, 34, 0, 0, []), some (.iadd, 35, 0, 0, []), some (.iadd, 36, 0, 0, []), some (.istore_n 2, 37, 0, 0, []), some (.iinc 3 1, 40, 0, 1, []), none, none, some (.goto (-36), 43, 4, 0, []), none, none, some (.iload_n 2, 44, 0, 0, []), some (.ireturn, 45, 0, 0, [])]]
def m_X0_paidBy : MT := ((cd_X0_paidBy, 0, 0, 0, 1), (yX0_paidBy, cX0_paidBy, 4, (some .int)))
def cd_X0_bestSet : List (List (Option Ent)) := [[some (.iconst 0, 1, 0, 0, []), some (.istore_n 1, 2, 0, 0, []), some (.iconst 0, 3, 0, 0, []), some (.istore_n 2, 4, 0, 0, []), some (.iconst 0, 5, 0, 0, []), some (.istore_n 3, 6, 0, 0, []), some (.iload_n 3, 7, 0, 0, []), some (.getstatic 131, 10, 0, 0, []), none, none, some (.arraylength, 11, 0, 0, []), some (.if_icmp .ge 51, 14, 62, 0, []), none, none, some (.aload_n 0, 15, 0, 0, []), some (.getstatic 131, 18, 0, 0, [])],
  [none, none, some (.iload_n 3, 19, 0, 0, []), some (.iaload, 20, 0, 0, []), some (.invokevirtual 134, 23, 0, 0, []), none, none, some (.ifCond .eq 15, 26, 38, 0, []), none, none, some (.aload_n 0, 27, 0, 0, []), some (.getstatic 131, 30, 0, 0, []), none, none, some (.iload_n 3, 31, 0, 0, []), some (.iaload, 32, 0, 0, [])],
  [some (.invokevirtual 138, 35, 0, 0, []), none, none, some (.goto 4, 38, 39, 0, []), none, none, some (.iconst 0, 39, 0, 0, []), some (.istore 4, 41, 0, 0, []), none, some (.iload 4, 43, 0, 0, []), none, some (.iload_n 2, 44, 0, 0, []), some (.if_icmp .le 12, 47, 56, 0, []), none, none, some (.getstatic 131, 50, 0, 0, [])],
  [none, none, some (.iload_n 3, 51, 0, 0, []), some (.iaload, 52, 0, 0, []), some (.istore_n 1, 53, 0, 0, []), some (.iload 4, 55, 0, 0, []), none, some (.istore_n 2, 56, 0, 0, []), some (.iinc 3 1, 59, 0, 1, []), none, none, some (.goto (-53), 62, 6, 0, []), none, none, some (.iload_n 1, 63, 0, 0, []), some (.ireturn, 64, 0, 0, [])]]
def m_X0_bestSet : MT := ((cd_X0_bestSet, 0, 0, 0, 1), (yX0_bestSet, cX0_bestSet, 5, (some .int)))
def cd_X0_danceSet : List (List (Option Ent)) := [[some (.iconst 0, 1, 0, 0, []), some (.istore_n 3, 2, 0, 0, []), some (.iload_n 3, 3, 0, 0, []), some (.getstatic 24, 6, 0, 0, []), none, none, some (.arraylength, 7, 0, 0, []), some (.if_icmp .ge 44, 10, 51, 0, []), none, none, some (.iload_n 1, 11, 0, 0, []), some (.iload_n 3, 12, 0, 0, []), some (.ishr, 13, 0, 0, []), some (.iconst 1, 14, 0, 1, []), some (.iand, 15, 0, 0, []), some (.iconst 1, 16, 0, 1, [])],
  [some (.if_icmp .ne 29, 19, 45, 0, []), none, none, some (.aload_n 0, 20, 0, 0, []), some (.getstatic 24, 23, 0, 0, []), none, none, some (.iload_n 3, 24, 0, 0, []), some (.iaload, 25, 0, 0, []), some (.getstatic 107, 28, 0, 0, []), none, none, some (.iload_n 3, 29, 0, 0, []), some (.iaload, 30, 0, 0, []), some (.aload_n 2, 31, 0, 0, []), some (.getfield 27, 34, 0, 0, [])],
  [none, none, some (.iload_n 3, 35, 0, 0, []), some (.iaload, 36, 0, 0, []), some (.aload_n 2, 37, 0, 0, []), some (.getfield 30, 40, 0, 0, []), none, none, some (.iload_n 3, 41, 0, 0, []), some (.iaload, 42, 0, 0, []), some (.invokevirtual 91, 45, 0, 0, []), none, none, some (.iinc 3 1, 48, 0, 1, []), none, none],
  [some (.goto (-46), 51, 2, 0, []), none, none, some (.aload_n 0, 52, 0, 0, []), some (.dup, 53, 0, 0, []), some (.getfield 41, 56, 0, 0, []), none, none, some (.iconst 1, 57, 0, 1, []), some (.iadd, 58, 0, 0, []), some (.putfield 41, 61, 0, 0, []), none, none, some (.return_, 62, 0, 0, [])]]
def m_X0_danceSet : MT := ((cd_X0_danceSet, 0, 0, 0, 0), (yX0_danceSet, cX0_danceSet, 4, none))
def cd_X0_firstOtherwise : List (List (Option Ent)) := [[some (.iconst 0, 1, 0, 0, []), some (.istore_n 3, 2, 0, 0, []), some (.iload_n 3, 3, 0, 0, []), some (.aload_n 1, 4, 0, 0, []), some (.getfield 141, 7, 0, 0, []), none, none, some (.if_icmp .ge 26, 10, 33, 0, []), none, none, some (.aload_n 0, 11, 0, 0, []), some (.iload_n 2, 12, 0, 0, []), some (.iload_n 3, 13, 0, 0, []), some (.invokevirtual 88, 16, 0, 0, []), none, none],
  [some (.aload_n 1, 17, 0, 0, []), some (.getfield 146, 20, 0, 0, []), none, none, some (.iload_n 3, 21, 0, 0, []), some (.iaload, 22, 0, 0, []), some (.if_icmp .eq 5, 25, 27, 0, []), none, none, some (.iload_n 3, 26, 0, 0, []), some (.ireturn, 27, 0, 0, []), some (.iinc 3 1, 30, 0, 1, []), none, none, some (.goto (-28), 33, 2, 0, []), none],
  [none, some (.iconst (-1), 34, 0, (-1), []), some (.ireturn, 35, 0, 0, [])]]
def m_X0_firstOtherwise : MT := ((cd_X0_firstOtherwise, 0, 0, 0, 1), (yX0_firstOtherwise, cX0_firstOtherwise, 4, (some .int)))
def cd_X0_paysAs : List (List (Option Ent)) := [[some (.aload_n 0, 1, 0, 0, []), some (.aload_n 1, 2, 0, 0, []), some (.iload_n 2, 3, 0, 0, []), some (.invokevirtual 149, 6, 0, 0, []), none, none, some (.iconst (-1), 7, 0, (-1), []), some (.if_icmp .ne 7, 10, 14, 0, []), none, none, some (.iconst 1, 11, 0, 1, []), some (.goto 4, 14, 15, 0, []), none, none, some (.iconst 0, 15, 0, 0, []), some (.ireturn, 16, 0, 0, [])]]
def m_X0_paysAs : MT := ((cd_X0_paysAs, 0, 0, 0, 4), (yX0_paysAs, cX0_paysAs, 3, (some .boolean)))
def cd_X1_init : List (List (Option Ent)) := [[some (.aload_n 0, 1, 0, 0, []), some (.invokespecial 3, 4, 0, 0, []), none, none, some (.aload_n 0, 5, 0, 0, []), some (.sipush 160, 8, 0, 160, []), none, none, some (.newarray .int, 10, 0, 0, []), none, some (.putfield 9, 13, 0, 0, []), none, none, some (.aload_n 0, 14, 0, 0, []), some (.sipush 160, 17, 0, 160, []), none],
  [none, some (.newarray .int, 19, 0, 0, []), none, some (.putfield 15, 22, 0, 0, []), none, none, some (.aload_n 0, 23, 0, 0, []), some (.iconst 3, 24, 0, 3, []), some (.newarray .int, 26, 0, 0, []), none, some (.putfield 18, 29, 0, 0, []), none, none, some (.return_, 30, 0, 0, [])]]
def m_X1_init : MT := ((cd_X1_init, 1, 3, 323, 0), (yX1_init, cX1_init, 1, none))
def cd_X1_hold : List (List (Option Ent)) := [[some (.aload_n 0, 1, 0, 0, []), some (.getfield 21, 4, 0, 0, []), none, none, some (.aload_n 0, 5, 0, 0, []), some (.getfield 9, 8, 0, 0, []), none, none, some (.arraylength, 9, 0, 0, []), some (.if_icmp .lt 5, 12, 14, 0, []), none, none, some (.iconst 0, 13, 0, 0, []), some (.ireturn, 14, 0, 0, []), some (.aload_n 0, 15, 0, 0, []), some (.getfield 9, 18, 0, 0, [])],
  [none, none, some (.aload_n 0, 19, 0, 0, []), some (.getfield 21, 22, 0, 0, []), none, none, some (.iload_n 1, 23, 0, 0, []), some (.iastore, 24, 0, 0, []), some (.aload_n 0, 25, 0, 0, []), some (.dup, 26, 0, 0, []), some (.getfield 21, 29, 0, 0, []), none, none, some (.iconst 1, 30, 0, 1, []), some (.iadd, 31, 0, 0, []), some (.putfield 21, 34, 0, 0, [])],
  [none, none, some (.iconst 1, 35, 0, 1, []), some (.ireturn, 36, 0, 0, [])]]
def m_X1_hold : MT := ((cd_X1_hold, 1, 0, 0, 4), (yX1_hold, cX1_hold, 2, (some .boolean)))
def cd_X1_read : List (List (Option Ent)) := [[some (.aload_n 0, 1, 0, 0, []), some (.iconst 0, 2, 0, 0, []), some (.putfield 25, 5, 0, 0, []), none, none, some (.aload_n 0, 6, 0, 0, []), some (.iconst 0, 7, 0, 0, []), some (.putfield 28, 10, 0, 0, []), none, none, some (.aload_n 0, 11, 0, 0, []), some (.iconst 0, 12, 0, 0, []), some (.putfield 31, 15, 0, 0, []), none, none, some (.aload_n 0, 16, 0, 0, [])],
  [some (.invokevirtual 34, 19, 0, 0, []), none, none, some (.iconst 1, 20, 0, 1, []), some (.istore_n 1, 21, 0, 0, []), some (.iconst 0, 22, 0, 0, []), some (.istore_n 2, 23, 0, 0, []), some (.iload_n 2, 24, 0, 0, []), some (.iconst 2, 25, 0, 2, []), some (.if_icmp .gt 57, 28, 82, 0, []), none, none, some (.iload_n 1, 29, 0, 0, []), some (.ifCond .eq 53, 32, 82, 0, []), none, none],
  [some (.aload_n 0, 33, 0, 0, []), some (.sipush 200, 36, 0, 200, []), none, none, some (.iload_n 2, 37, 0, 0, []), some (.iadd, 38, 0, 0, []), some (.invokevirtual 37, 41, 0, 0, []), none, none, some (.ifCond .eq 23, 44, 64, 0, []), none, none, some (.aload_n 0, 45, 0, 0, []), some (.invokevirtual 41, 48, 0, 0, []), none, none],
  [some (.ifCond .eq 16, 51, 64, 0, []), none, none, some (.aload_n 0, 52, 0, 0, []), some (.bipush 59, 54, 0, 59, []), none, some (.invokevirtual 37, 57, 0, 0, []), none, none, some (.ifCond .eq 7, 60, 64, 0, []), none, none, some (.iconst 1, 61, 0, 1, []), some (.goto 4, 64, 65, 0, []), none, none],
  [some (.iconst 0, 65, 0, 0, []), some (.istore_n 1, 66, 0, 0, []), some (.aload_n 0, 67, 0, 0, []), some (.getfield 18, 70, 0, 0, []), none, none, some (.iload_n 2, 71, 0, 0, []), some (.aload_n 0, 72, 0, 0, []), some (.getfield 25, 75, 0, 0, []), none, none, some (.iastore, 76, 0, 0, []), some (.iinc 2 1, 79, 0, 1, []), none, none, some (.goto (-56), 82, 23, 0, [])],
  [none, none, some (.iload_n 1, 83, 0, 0, []), some (.ifCond .eq 14, 86, 97, 0, []), none, none, some (.aload_n 0, 87, 0, 0, []), some (.getfield 45, 90, 0, 0, []), none, none, some (.ifCond .ne 7, 93, 97, 0, []), none, none, some (.iconst 1, 94, 0, 1, []), some (.goto 4, 97, 98, 0, []), none],
  [none, some (.iconst 0, 98, 0, 0, []), some (.istore_n 1, 99, 0, 0, []), some (.aload_n 0, 100, 0, 0, []), some (.iconst 0, 101, 0, 0, []), some (.putfield 21, 104, 0, 0, []), none, none, some (.iload_n 1, 105, 0, 0, []), some (.ifCond .ne 5, 108, 110, 0, []), none, none, some (.aconst_null, 109, 0, 0, []), some (.areturn, 110, 0, 0, []), some (.aload_n 0, 111, 0, 0, []), some (.getfield 25, 114, 0, 0, [])],
  [none, none, some (.newarray .int, 116, 0, 0, []), none, some (.astore_n 2, 117, 0, 0, []), some (.aload_n 0, 118, 0, 0, []), some (.getfield 15, 121, 0, 0, []), none, none, some (.iconst 0, 122, 0, 0, []), some (.aload_n 2, 123, 0, 0, []), some (.iconst 0, 124, 0, 0, []), some (.aload_n 0, 125, 0, 0, []), some (.getfield 25, 128, 0, 0, []), none, none],
  [some (.invokestatic 48, 131, 0, 0, []), none, none, some (.new 54, 134, 0, 0, []), none, none, some (.dup, 135, 0, 0, []), some (.aload_n 2, 136, 0, 0, []), some (.aload_n 0, 137, 0, 0, []), some (.getfield 18, 140, 0, 0, []), none, none, some (.invokevirtual 56, 143, 0, 0, []), none, none, some (.checkcast 57, 146, 0, 0, [])],
  [none, none, some (.invokespecial 61, 149, 0, 0, []), none, none, some (.areturn, 150, 0, 0, [])]]
def m_X1_read : MT := ((cd_X1_read, 1, 1000, 165, 3), (yX1_read, cX1_read, 3, (some (.object "DanceStillOwed$Text"))))
def cd_X1_pass : List (List (Option Ent)) := [[some (.aload_n 0, 1, 0, 0, []), some (.getfield 45, 4, 0, 0, []), none, none, some (.iload_n 1, 5, 0, 0, []), some (.if_icmp .eq 5, 8, 10, 0, []), none, none, some (.iconst 0, 9, 0, 0, []), some (.ireturn, 10, 0, 0, []), some (.aload_n 0, 11, 0, 0, []), some (.invokevirtual 34, 14, 0, 0, []), none, none, some (.iconst 1, 15, 0, 1, []), some (.ireturn, 16, 0, 0, [])]]
def m_X1_pass : MT := ((cd_X1_pass, 1, 0, 0, 4), (yX1_pass, cX1_pass, 2, (some .boolean)))
def cd_X1_put : List (List (Option Ent)) := [[some (.aload_n 0, 1, 0, 0, []), some (.getfield 25, 4, 0, 0, []), none, none, some (.aload_n 0, 5, 0, 0, []), some (.getfield 15, 8, 0, 0, []), none, none, some (.arraylength, 9, 0, 0, []), some (.if_icmp .lt 5, 12, 14, 0, []), none, none, some (.iconst 0, 13, 0, 0, []), some (.ireturn, 14, 0, 0, []), some (.aload_n 0, 15, 0, 0, []), some (.getfield 15, 18, 0, 0, [])],
  [none, none, some (.aload_n 0, 19, 0, 0, []), some (.getfield 25, 22, 0, 0, []), none, none, some (.iload_n 1, 23, 0, 0, []), some (.iastore, 24, 0, 0, []), some (.aload_n 0, 25, 0, 0, []), some (.dup, 26, 0, 0, []), some (.getfield 25, 29, 0, 0, []), none, none, some (.iconst 1, 30, 0, 1, []), some (.iadd, 31, 0, 0, []), some (.putfield 25, 34, 0, 0, [])],
  [none, none, some (.iconst 1, 35, 0, 1, []), some (.ireturn, 36, 0, 0, [])]]
def m_X1_put : MT := ((cd_X1_put, 1, 0, 0, 4), (yX1_put, cX1_put, 2, (some .boolean)))
def cd_X1_either : List (List (Option Ent)) := [[some (.aload_n 0, 1, 0, 0, []), some (.invokevirtual 64, 4, 0, 0, []), none, none, some (.istore_n 1, 5, 0, 0, []), some (.iconst 0, 6, 0, 0, []), some (.istore_n 2, 7, 0, 0, []), some (.iload_n 2, 8, 0, 0, []), some (.sipush 160, 11, 0, 160, []), none, none, some (.if_icmp .ge 50, 14, 61, 0, []), none, none, some (.iload_n 1, 15, 0, 0, []), some (.ifCond .eq 46, 18, 61, 0, [])],
  [none, none, some (.aload_n 0, 19, 0, 0, []), some (.getfield 45, 22, 0, 0, []), none, none, some (.sipush 203, 25, 0, 203, []), none, none, some (.if_icmp .ne 36, 28, 61, 0, []), none, none, some (.aload_n 0, 29, 0, 0, []), some (.invokevirtual 34, 32, 0, 0, []), none, none],
  [some (.aload_n 0, 33, 0, 0, []), some (.invokevirtual 64, 36, 0, 0, []), none, none, some (.ifCond .eq 17, 39, 53, 0, []), none, none, some (.aload_n 0, 40, 0, 0, []), some (.sipush 10008, 43, 0, 10008, []), none, none, some (.invokevirtual 67, 46, 0, 0, []), none, none, some (.ifCond .eq 7, 49, 53, 0, []), none],
  [none, some (.iconst 1, 50, 0, 1, []), some (.goto 4, 53, 54, 0, []), none, none, some (.iconst 0, 54, 0, 0, []), some (.istore_n 1, 55, 0, 0, []), some (.iinc 2 1, 58, 0, 1, []), none, none, some (.goto (-51), 61, 7, 0, []), none, none, some (.iload_n 1, 62, 0, 0, []), some (.ireturn, 63, 0, 0, [])]]
def m_X1_either : MT := ((cd_X1_either, 1, 0, 0, 4), (yX1_either, cX1_either, 3, (some .boolean)))
def cd_X1_both : List (List (Option Ent)) := [[some (.aload_n 0, 1, 0, 0, []), some (.invokevirtual 70, 4, 0, 0, []), none, none, some (.istore_n 1, 5, 0, 0, []), some (.iconst 0, 6, 0, 0, []), some (.istore_n 2, 7, 0, 0, []), some (.iload_n 2, 8, 0, 0, []), some (.sipush 160, 11, 0, 160, []), none, none, some (.if_icmp .ge 50, 14, 61, 0, []), none, none, some (.iload_n 1, 15, 0, 0, []), some (.ifCond .eq 46, 18, 61, 0, [])],
  [none, none, some (.aload_n 0, 19, 0, 0, []), some (.getfield 45, 22, 0, 0, []), none, none, some (.sipush 204, 25, 0, 204, []), none, none, some (.if_icmp .ne 36, 28, 61, 0, []), none, none, some (.aload_n 0, 29, 0, 0, []), some (.invokevirtual 34, 32, 0, 0, []), none, none],
  [some (.aload_n 0, 33, 0, 0, []), some (.invokevirtual 70, 36, 0, 0, []), none, none, some (.ifCond .eq 17, 39, 53, 0, []), none, none, some (.aload_n 0, 40, 0, 0, []), some (.sipush 10009, 43, 0, 10009, []), none, none, some (.invokevirtual 67, 46, 0, 0, []), none, none, some (.ifCond .eq 7, 49, 53, 0, []), none],
  [none, some (.iconst 1, 50, 0, 1, []), some (.goto 4, 53, 54, 0, []), none, none, some (.iconst 0, 54, 0, 0, []), some (.istore_n 1, 55, 0, 0, []), some (.iinc 2 1, 58, 0, 1, []), none, none, some (.goto (-51), 61, 7, 0, []), none, none, some (.iload_n 1, 62, 0, 0, []), some (.ireturn, 63, 0, 0, [])]]
def m_X1_both : MT := ((cd_X1_both, 1, 0, 0, 4), (yX1_both, cX1_both, 3, (some .boolean)))
def cd_X1_denied : List (List (Option Ent)) := [[some (.aload_n 0, 1, 0, 0, []), some (.getfield 45, 4, 0, 0, []), none, none, some (.sipush 205, 7, 0, 205, []), none, none, some (.if_icmp .eq 8, 10, 15, 0, []), none, none, some (.aload_n 0, 11, 0, 0, []), some (.invokevirtual 73, 14, 0, 0, []), none, none, some (.ireturn, 15, 0, 0, []), some (.aload_n 0, 16, 0, 0, [])],
  [some (.invokevirtual 76, 19, 0, 0, []), none, none, some (.ifCond .ne 5, 22, 24, 0, []), none, none, some (.iconst 0, 23, 0, 0, []), some (.ireturn, 24, 0, 0, []), some (.aload_n 0, 25, 0, 0, []), some (.invokevirtual 70, 28, 0, 0, []), none, none, some (.ifCond .eq 17, 31, 45, 0, []), none, none, some (.aload_n 0, 32, 0, 0, [])],
  [some (.sipush 10007, 35, 0, 10007, []), none, none, some (.invokevirtual 67, 38, 0, 0, []), none, none, some (.ifCond .eq 7, 41, 45, 0, []), none, none, some (.iconst 1, 42, 0, 1, []), some (.goto 4, 45, 46, 0, []), none, none, some (.iconst 0, 46, 0, 0, []), some (.istore_n 1, 47, 0, 0, []), some (.aload_n 0, 48, 0, 0, [])],
  [some (.dup, 49, 0, 0, []), some (.getfield 31, 52, 0, 0, []), none, none, some (.iconst 1, 53, 0, 1, []), some (.isub, 54, 0, 0, []), some (.putfield 31, 57, 0, 0, []), none, none, some (.iload_n 1, 58, 0, 0, []), some (.ireturn, 59, 0, 0, [])]]
def m_X1_denied : MT := ((cd_X1_denied, 1, 0, 0, 4), (yX1_denied, cX1_denied, 2, (some .boolean)))
def cd_X1_compared : List (List (Option Ent)) := [[some (.aload_n 0, 1, 0, 0, []), some (.invokevirtual 79, 4, 0, 0, []), none, none, some (.ifCond .ne 5, 7, 9, 0, []), none, none, some (.iconst 0, 8, 0, 0, []), some (.ireturn, 9, 0, 0, []), some (.aload_n 0, 10, 0, 0, []), some (.getfield 45, 13, 0, 0, []), none, none, some (.istore_n 1, 14, 0, 0, []), some (.iload_n 1, 15, 0, 0, []), some (.bipush 60, 17, 0, 60, [])],
  [none, some (.if_icmp .eq 11, 20, 28, 0, []), none, none, some (.iload_n 1, 21, 0, 0, []), some (.bipush 61, 23, 0, 61, []), none, some (.if_icmp .eq 5, 26, 28, 0, []), none, none, some (.iconst 1, 27, 0, 1, []), some (.ireturn, 28, 0, 0, []), some (.aload_n 0, 29, 0, 0, []), some (.invokevirtual 34, 32, 0, 0, []), none, none],
  [some (.aload_n 0, 33, 0, 0, []), some (.invokevirtual 79, 36, 0, 0, []), none, none, some (.ifCond .eq 29, 39, 65, 0, []), none, none, some (.aload_n 0, 40, 0, 0, []), some (.iload_n 1, 41, 0, 0, []), some (.bipush 60, 43, 0, 60, []), none, some (.if_icmp .ne 9, 46, 52, 0, []), none, none, some (.sipush 10010, 49, 0, 10010, []), none],
  [none, some (.goto 6, 52, 55, 0, []), none, none, some (.sipush 10011, 55, 0, 10011, []), none, none, some (.invokevirtual 67, 58, 0, 0, []), none, none, some (.ifCond .eq 7, 61, 65, 0, []), none, none, some (.iconst 1, 62, 0, 1, []), some (.goto 4, 65, 66, 0, []), none],
  [none, some (.iconst 0, 66, 0, 0, []), some (.ireturn, 67, 0, 0, [])]]
def m_X1_compared : MT := ((cd_X1_compared, 1, 0, 0, 4), (yX1_compared, cX1_compared, 2, (some .boolean)))
def cd_X1_sum : List (List (Option Ent)) := [[some (.aload_n 0, 1, 0, 0, []), some (.invokevirtual 82, 4, 0, 0, []), none, none, some (.istore_n 1, 5, 0, 0, []), some (.iconst 0, 6, 0, 0, []), some (.istore_n 2, 7, 0, 0, []), some (.iload_n 2, 8, 0, 0, []), some (.sipush 160, 11, 0, 160, []), none, none, some (.if_icmp .ge 75, 14, 86, 0, []), none, none, some (.iload_n 1, 15, 0, 0, []), some (.ifCond .eq 71, 18, 86, 0, [])],
  [none, none, some (.aload_n 0, 19, 0, 0, []), some (.getfield 45, 22, 0, 0, []), none, none, some (.bipush 43, 24, 0, 43, []), none, some (.if_icmp .eq 12, 27, 36, 0, []), none, none, some (.aload_n 0, 28, 0, 0, []), some (.getfield 45, 31, 0, 0, []), none, none, some (.bipush 45, 33, 0, 45, [])],
  [none, some (.if_icmp .ne 53, 36, 86, 0, []), none, none, some (.aload_n 0, 37, 0, 0, []), some (.getfield 45, 40, 0, 0, []), none, none, some (.istore_n 3, 41, 0, 0, []), some (.aload_n 0, 42, 0, 0, []), some (.invokevirtual 34, 45, 0, 0, []), none, none, some (.aload_n 0, 46, 0, 0, []), some (.invokevirtual 82, 49, 0, 0, []), none],
  [none, some (.ifCond .eq 29, 52, 78, 0, []), none, none, some (.aload_n 0, 53, 0, 0, []), some (.iload_n 3, 54, 0, 0, []), some (.bipush 43, 56, 0, 43, []), none, some (.if_icmp .ne 9, 59, 65, 0, []), none, none, some (.sipush 10012, 62, 0, 10012, []), none, none, some (.goto 6, 65, 68, 0, []), none],
  [none, some (.sipush 10013, 68, 0, 10013, []), none, none, some (.invokevirtual 67, 71, 0, 0, []), none, none, some (.ifCond .eq 7, 74, 78, 0, []), none, none, some (.iconst 1, 75, 0, 1, []), some (.goto 4, 78, 79, 0, []), none, none, some (.iconst 0, 79, 0, 0, []), some (.istore_n 1, 80, 0, 0, [])],
  [some (.iinc 2 1, 83, 0, 1, []), none, none, some (.goto (-76), 86, 7, 0, []), none, none, some (.iload_n 1, 87, 0, 0, []), some (.ireturn, 88, 0, 0, [])]]
def m_X1_sum : MT := ((cd_X1_sum, 1, 0, 0, 4), (yX1_sum, cX1_sum, 4, (some .boolean)))
def cd_X1_term : List (List (Option Ent)) := [[some (.aload_n 0, 1, 0, 0, []), some (.invokevirtual 85, 4, 0, 0, []), none, none, some (.istore_n 1, 5, 0, 0, []), some (.iconst 0, 6, 0, 0, []), some (.istore_n 2, 7, 0, 0, []), some (.iload_n 2, 8, 0, 0, []), some (.sipush 160, 11, 0, 160, []), none, none, some (.if_icmp .ge 49, 14, 60, 0, []), none, none, some (.iload_n 1, 15, 0, 0, []), some (.ifCond .eq 45, 18, 60, 0, [])],
  [none, none, some (.aload_n 0, 19, 0, 0, []), some (.getfield 45, 22, 0, 0, []), none, none, some (.bipush 42, 24, 0, 42, []), none, some (.if_icmp .ne 36, 27, 60, 0, []), none, none, some (.aload_n 0, 28, 0, 0, []), some (.invokevirtual 34, 31, 0, 0, []), none, none, some (.aload_n 0, 32, 0, 0, [])],
  [some (.invokevirtual 85, 35, 0, 0, []), none, none, some (.ifCond .eq 17, 38, 52, 0, []), none, none, some (.aload_n 0, 39, 0, 0, []), some (.sipush 10014, 42, 0, 10014, []), none, none, some (.invokevirtual 67, 45, 0, 0, []), none, none, some (.ifCond .eq 7, 48, 52, 0, []), none, none],
  [some (.iconst 1, 49, 0, 1, []), some (.goto 4, 52, 53, 0, []), none, none, some (.iconst 0, 53, 0, 0, []), some (.istore_n 1, 54, 0, 0, []), some (.iinc 2 1, 57, 0, 1, []), none, none, some (.goto (-50), 60, 7, 0, []), none, none, some (.iload_n 1, 61, 0, 0, []), some (.ireturn, 62, 0, 0, [])]]
def m_X1_term : MT := ((cd_X1_term, 1, 0, 0, 4), (yX1_term, cX1_term, 3, (some .boolean)))
def cd_X1_one : List (List (Option Ent)) := [[some (.aload_n 0, 1, 0, 0, []), some (.getfield 45, 4, 0, 0, []), none, none, some (.iconst 2, 5, 0, 2, []), some (.if_icmp .eq 13, 8, 18, 0, []), none, none, some (.aload_n 0, 9, 0, 0, []), some (.getfield 45, 12, 0, 0, []), none, none, some (.sipush 10000, 15, 0, 10000, []), none, none, some (.if_icmp .lt 33, 18, 48, 0, [])],
  [none, none, some (.aload_n 0, 19, 0, 0, []), some (.aload_n 0, 20, 0, 0, []), some (.getfield 45, 23, 0, 0, []), none, none, some (.iconst 2, 24, 0, 2, []), some (.if_icmp .ne 10, 27, 34, 0, []), none, none, some (.aload_n 0, 28, 0, 0, []), some (.getfield 88, 31, 0, 0, []), none, none, some (.goto 7, 34, 38, 0, [])],
  [none, none, some (.aload_n 0, 35, 0, 0, []), some (.getfield 45, 38, 0, 0, []), none, none, some (.invokevirtual 67, 41, 0, 0, []), none, none, some (.istore_n 1, 42, 0, 0, []), some (.aload_n 0, 43, 0, 0, []), some (.invokevirtual 34, 46, 0, 0, []), none, none, some (.iload_n 1, 47, 0, 0, []), some (.ireturn, 48, 0, 0, [])],
  [some (.aload_n 0, 49, 0, 0, []), some (.getfield 45, 52, 0, 0, []), none, none, some (.bipush 45, 54, 0, 45, []), none, some (.if_icmp .eq 14, 57, 68, 0, []), none, none, some (.aload_n 0, 58, 0, 0, []), some (.getfield 45, 61, 0, 0, []), none, none, some (.bipush 40, 63, 0, 40, []), none, some (.if_icmp .eq 5, 66, 68, 0, [])],
  [none, none, some (.iconst 0, 67, 0, 0, []), some (.ireturn, 68, 0, 0, []), some (.aload_n 0, 69, 0, 0, []), some (.getfield 45, 72, 0, 0, []), none, none, some (.bipush 45, 74, 0, 45, []), none, some (.if_icmp .ne 7, 77, 81, 0, []), none, none, some (.iconst 1, 78, 0, 1, []), some (.goto 4, 81, 82, 0, []), none],
  [none, some (.iconst 0, 82, 0, 0, []), some (.istore_n 1, 83, 0, 0, []), some (.aload_n 0, 84, 0, 0, []), some (.invokevirtual 76, 87, 0, 0, []), none, none, some (.ifCond .ne 5, 90, 92, 0, []), none, none, some (.iconst 0, 91, 0, 0, []), some (.ireturn, 92, 0, 0, []), some (.iload_n 1, 93, 0, 0, []), some (.ifCond .eq 28, 96, 121, 0, []), none, none],
  [some (.aload_n 0, 97, 0, 0, []), some (.invokevirtual 85, 100, 0, 0, []), none, none, some (.ifCond .eq 17, 103, 117, 0, []), none, none, some (.aload_n 0, 104, 0, 0, []), some (.sipush 10006, 107, 0, 10006, []), none, none, some (.invokevirtual 67, 110, 0, 0, []), none, none, some (.ifCond .eq 7, 113, 117, 0, []), none],
  [none, some (.iconst 1, 114, 0, 1, []), some (.goto 28, 117, 142, 0, []), none, none, some (.iconst 0, 118, 0, 0, []), some (.goto 24, 121, 142, 0, []), none, none, some (.aload_n 0, 122, 0, 0, []), some (.invokevirtual 41, 125, 0, 0, []), none, none, some (.ifCond .eq 16, 128, 141, 0, []), none, none],
  [some (.aload_n 0, 129, 0, 0, []), some (.bipush 41, 131, 0, 41, []), none, some (.invokevirtual 37, 134, 0, 0, []), none, none, some (.ifCond .eq 7, 137, 141, 0, []), none, none, some (.iconst 1, 138, 0, 1, []), some (.goto 4, 141, 142, 0, []), none, none, some (.iconst 0, 142, 0, 0, []), some (.istore_n 2, 143, 0, 0, []), some (.aload_n 0, 144, 0, 0, [])],
  [some (.dup, 145, 0, 0, []), some (.getfield 31, 148, 0, 0, []), none, none, some (.iconst 1, 149, 0, 1, []), some (.isub, 150, 0, 0, []), some (.putfield 31, 153, 0, 0, []), none, none, some (.iload_n 2, 154, 0, 0, []), some (.ireturn, 155, 0, 0, [])]]
def m_X1_one : MT := ((cd_X1_one, 1, 0, 0, 4), (yX1_one, cX1_one, 3, (some .boolean)))
def cd_X1_opens : List (List (Option Ent)) := [[some (.aload_n 0, 1, 0, 0, []), some (.getfield 31, 4, 0, 0, []), none, none, some (.iconst 5, 5, 0, 5, []), some (.if_icmp .lt 5, 8, 10, 0, []), none, none, some (.iconst 0, 9, 0, 0, []), some (.ireturn, 10, 0, 0, []), some (.aload_n 0, 11, 0, 0, []), some (.dup, 12, 0, 0, []), some (.getfield 31, 15, 0, 0, []), none, none, some (.iconst 1, 16, 0, 1, [])],
  [some (.iadd, 17, 0, 0, []), some (.putfield 31, 20, 0, 0, []), none, none, some (.aload_n 0, 21, 0, 0, []), some (.invokevirtual 34, 24, 0, 0, []), none, none, some (.iconst 1, 25, 0, 1, []), some (.ireturn, 26, 0, 0, [])]]
def m_X1_opens : MT := ((cd_X1_opens, 1, 0, 0, 4), (yX1_opens, cX1_opens, 1, (some .boolean)))
def cd_X1_next : List (List (Option Ent)) := [[some (.aload_n 0, 1, 0, 0, []), some (.getfield 28, 4, 0, 0, []), none, none, some (.aload_n 0, 5, 0, 0, []), some (.getfield 21, 8, 0, 0, []), none, none, some (.if_icmp .ge 44, 11, 52, 0, []), none, none, some (.aload_n 0, 12, 0, 0, []), some (.getfield 9, 15, 0, 0, []), none, none, some (.aload_n 0, 16, 0, 0, [])],
  [some (.getfield 28, 19, 0, 0, []), none, none, some (.iaload, 20, 0, 0, []), some (.bipush 32, 22, 0, 32, []), none, some (.if_icmp .eq 17, 25, 39, 0, []), none, none, some (.aload_n 0, 26, 0, 0, []), some (.getfield 9, 29, 0, 0, []), none, none, some (.aload_n 0, 30, 0, 0, []), some (.getfield 28, 33, 0, 0, []), none],
  [none, some (.iaload, 34, 0, 0, []), some (.bipush 10, 36, 0, 10, []), none, some (.if_icmp .ne 16, 39, 52, 0, []), none, none, some (.aload_n 0, 40, 0, 0, []), some (.dup, 41, 0, 0, []), some (.getfield 28, 44, 0, 0, []), none, none, some (.iconst 1, 45, 0, 1, []), some (.iadd, 46, 0, 0, []), some (.putfield 28, 49, 0, 0, []), none],
  [none, some (.goto (-49), 52, 0, 0, []), none, none, some (.aload_n 0, 53, 0, 0, []), some (.aload_n 0, 54, 0, 0, []), some (.getfield 28, 57, 0, 0, []), none, none, some (.putfield 91, 60, 0, 0, []), none, none, some (.aload_n 0, 61, 0, 0, []), some (.getfield 28, 64, 0, 0, []), none, none],
  [some (.aload_n 0, 65, 0, 0, []), some (.getfield 21, 68, 0, 0, []), none, none, some (.if_icmp .lt 11, 71, 79, 0, []), none, none, some (.aload_n 0, 72, 0, 0, []), some (.iconst 0, 73, 0, 0, []), some (.putfield 45, 76, 0, 0, []), none, none, some (.goto 92, 79, 168, 0, []), none, none, some (.aload_n 0, 80, 0, 0, [])],
  [some (.getfield 9, 83, 0, 0, []), none, none, some (.aload_n 0, 84, 0, 0, []), some (.getfield 28, 87, 0, 0, []), none, none, some (.iaload, 88, 0, 0, []), some (.invokestatic 94, 91, 0, 0, []), none, none, some (.ifCond .eq 10, 94, 101, 0, []), none, none, some (.aload_n 0, 95, 0, 0, []), some (.invokevirtual 97, 98, 0, 0, [])],
  [none, none, some (.goto 70, 101, 168, 0, []), none, none, some (.aload_n 0, 102, 0, 0, []), some (.getfield 9, 105, 0, 0, []), none, none, some (.aload_n 0, 106, 0, 0, []), some (.getfield 28, 109, 0, 0, []), none, none, some (.iaload, 110, 0, 0, []), some (.invokestatic 100, 113, 0, 0, []), none],
  [none, some (.ifCond .eq 10, 116, 123, 0, []), none, none, some (.aload_n 0, 117, 0, 0, []), some (.invokevirtual 103, 120, 0, 0, []), none, none, some (.goto 48, 123, 168, 0, []), none, none, some (.aload_n 0, 124, 0, 0, []), some (.ldc 106, 126, 0, 0, []), none, some (.aload_n 0, 127, 0, 0, []), some (.getfield 9, 130, 0, 0, [])],
  [none, none, some (.aload_n 0, 131, 0, 0, []), some (.getfield 28, 134, 0, 0, []), none, none, some (.iaload, 135, 0, 0, []), some (.i2c, 136, 0, 0, []), some (.invokevirtual 108, 139, 0, 0, []), none, none, some (.ifCond .lt 15, 142, 154, 0, []), none, none, some (.aload_n 0, 143, 0, 0, []), some (.getfield 9, 146, 0, 0, [])],
  [none, none, some (.aload_n 0, 147, 0, 0, []), some (.getfield 28, 150, 0, 0, []), none, none, some (.iaload, 151, 0, 0, []), some (.goto 4, 154, 155, 0, []), none, none, some (.iconst 1, 155, 0, 1, []), some (.putfield 45, 158, 0, 0, []), none, none, some (.aload_n 0, 159, 0, 0, []), some (.dup, 160, 0, 0, [])],
  [some (.getfield 28, 163, 0, 0, []), none, none, some (.iconst 1, 164, 0, 1, []), some (.iadd, 165, 0, 0, []), some (.putfield 28, 168, 0, 0, []), none, none, some (.return_, 169, 0, 0, [])]]
def m_X1_next : MT := ((cd_X1_next, 1, 0, 0, 0), (yX1_next, cX1_next, 1, none))
def cd_X1_nextNumber : List (List (Option Ent)) := [[some (.aload_n 0, 1, 0, 0, []), some (.iconst 0, 2, 0, 0, []), some (.putfield 88, 5, 0, 0, []), none, none, some (.aload_n 0, 6, 0, 0, []), some (.getfield 28, 9, 0, 0, []), none, none, some (.aload_n 0, 10, 0, 0, []), some (.getfield 21, 13, 0, 0, []), none, none, some (.if_icmp .ge 55, 16, 68, 0, []), none, none],
  [some (.aload_n 0, 17, 0, 0, []), some (.getfield 9, 20, 0, 0, []), none, none, some (.aload_n 0, 21, 0, 0, []), some (.getfield 28, 24, 0, 0, []), none, none, some (.iaload, 25, 0, 0, []), some (.invokestatic 94, 28, 0, 0, []), none, none, some (.ifCond .eq 40, 31, 68, 0, []), none, none, some (.aload_n 0, 32, 0, 0, [])],
  [some (.aload_n 0, 33, 0, 0, []), some (.getfield 88, 36, 0, 0, []), none, none, some (.bipush 10, 38, 0, 10, []), none, some (.imul, 39, 0, 0, []), some (.aload_n 0, 40, 0, 0, []), some (.getfield 9, 43, 0, 0, []), none, none, some (.aload_n 0, 44, 0, 0, []), some (.getfield 28, 47, 0, 0, []), none, none, some (.iaload, 48, 0, 0, [])],
  [some (.iadd, 49, 0, 0, []), some (.bipush 48, 51, 0, 48, []), none, some (.isub, 52, 0, 0, []), some (.putfield 88, 55, 0, 0, []), none, none, some (.aload_n 0, 56, 0, 0, []), some (.dup, 57, 0, 0, []), some (.getfield 28, 60, 0, 0, []), none, none, some (.iconst 1, 61, 0, 1, []), some (.iadd, 62, 0, 0, []), some (.putfield 28, 65, 0, 0, []), none],
  [none, some (.goto (-60), 68, 5, 0, []), none, none, some (.aload_n 0, 69, 0, 0, []), some (.aload_n 0, 70, 0, 0, []), some (.getfield 28, 73, 0, 0, []), none, none, some (.aload_n 0, 74, 0, 0, []), some (.getfield 91, 77, 0, 0, []), none, none, some (.isub, 78, 0, 0, []), some (.iconst 4, 79, 0, 4, []), some (.if_icmp .le 7, 82, 86, 0, [])],
  [none, none, some (.iconst 1, 83, 0, 1, []), some (.goto 4, 86, 87, 0, []), none, none, some (.iconst 2, 87, 0, 2, []), some (.putfield 45, 90, 0, 0, []), none, none, some (.return_, 91, 0, 0, [])]]
def m_X1_nextNumber : MT := ((cd_X1_nextNumber, 1, 0, 0, 0), (yX1_nextNumber, cX1_nextNumber, 1, none))
def cd_X1_nextWord : List (List (Option Ent)) := [[some (.aload_n 0, 1, 0, 0, []), some (.getfield 28, 4, 0, 0, []), none, none, some (.aload_n 0, 5, 0, 0, []), some (.getfield 21, 8, 0, 0, []), none, none, some (.if_icmp .ge 31, 11, 39, 0, []), none, none, some (.aload_n 0, 12, 0, 0, []), some (.getfield 9, 15, 0, 0, []), none, none, some (.aload_n 0, 16, 0, 0, [])],
  [some (.getfield 28, 19, 0, 0, []), none, none, some (.iaload, 20, 0, 0, []), some (.invokestatic 100, 23, 0, 0, []), none, none, some (.ifCond .eq 16, 26, 39, 0, []), none, none, some (.aload_n 0, 27, 0, 0, []), some (.dup, 28, 0, 0, []), some (.getfield 28, 31, 0, 0, []), none, none, some (.iconst 1, 32, 0, 1, [])],
  [some (.iadd, 33, 0, 0, []), some (.putfield 28, 36, 0, 0, []), none, none, some (.goto (-36), 39, 0, 0, []), none, none, some (.aload_n 0, 40, 0, 0, []), some (.aload_n 0, 41, 0, 0, []), some (.ldc 114, 43, 0, 0, []), none, some (.invokevirtual 116, 46, 0, 0, []), none, none, some (.ifCond .eq 9, 49, 55, 0, []), none],
  [none, some (.sipush 200, 52, 0, 200, []), none, none, some (.goto 169, 55, 221, 0, []), none, none, some (.aload_n 0, 56, 0, 0, []), some (.ldc 120, 58, 0, 0, []), none, some (.invokevirtual 116, 61, 0, 0, []), none, none, some (.ifCond .eq 9, 64, 70, 0, []), none, none],
  [some (.sipush 201, 67, 0, 201, []), none, none, some (.goto 154, 70, 221, 0, []), none, none, some (.aload_n 0, 71, 0, 0, []), some (.ldc 122, 73, 0, 0, []), none, some (.invokevirtual 116, 76, 0, 0, []), none, none, some (.ifCond .eq 9, 79, 85, 0, []), none, none, some (.sipush 202, 82, 0, 202, [])],
  [none, none, some (.goto 139, 85, 221, 0, []), none, none, some (.aload_n 0, 86, 0, 0, []), some (.ldc 124, 88, 0, 0, []), none, some (.invokevirtual 116, 91, 0, 0, []), none, none, some (.ifCond .eq 9, 94, 100, 0, []), none, none, some (.sipush 203, 97, 0, 203, []), none],
  [none, some (.goto 124, 100, 221, 0, []), none, none, some (.aload_n 0, 101, 0, 0, []), some (.ldc 126, 103, 0, 0, []), none, some (.invokevirtual 116, 106, 0, 0, []), none, none, some (.ifCond .eq 9, 109, 115, 0, []), none, none, some (.sipush 204, 112, 0, 204, []), none, none],
  [some (.goto 109, 115, 221, 0, []), none, none, some (.aload_n 0, 116, 0, 0, []), some (.ldc 128, 118, 0, 0, []), none, some (.invokevirtual 116, 121, 0, 0, []), none, none, some (.ifCond .eq 9, 124, 130, 0, []), none, none, some (.sipush 205, 127, 0, 205, []), none, none, some (.goto 94, 130, 221, 0, [])],
  [none, none, some (.aload_n 0, 131, 0, 0, []), some (.ldc 130, 133, 0, 0, []), none, some (.invokevirtual 116, 136, 0, 0, []), none, none, some (.ifCond .eq 9, 139, 145, 0, []), none, none, some (.sipush 10000, 142, 0, 10000, []), none, none, some (.goto 79, 145, 221, 0, []), none],
  [none, some (.aload_n 0, 146, 0, 0, []), some (.ldc 132, 148, 0, 0, []), none, some (.invokevirtual 116, 151, 0, 0, []), none, none, some (.ifCond .eq 9, 154, 160, 0, []), none, none, some (.sipush 10001, 157, 0, 10001, []), none, none, some (.goto 64, 160, 221, 0, []), none, none],
  [some (.aload_n 0, 161, 0, 0, []), some (.ldc 134, 163, 0, 0, []), none, some (.invokevirtual 116, 166, 0, 0, []), none, none, some (.ifCond .eq 9, 169, 175, 0, []), none, none, some (.sipush 10002, 172, 0, 10002, []), none, none, some (.goto 49, 175, 221, 0, []), none, none, some (.aload_n 0, 176, 0, 0, [])],
  [some (.ldc 135, 178, 0, 0, []), none, some (.invokevirtual 116, 181, 0, 0, []), none, none, some (.ifCond .eq 9, 184, 190, 0, []), none, none, some (.sipush 10003, 187, 0, 10003, []), none, none, some (.goto 34, 190, 221, 0, []), none, none, some (.aload_n 0, 191, 0, 0, []), some (.ldc 137, 193, 0, 0, [])],
  [none, some (.invokevirtual 116, 196, 0, 0, []), none, none, some (.ifCond .eq 9, 199, 205, 0, []), none, none, some (.sipush 10004, 202, 0, 10004, []), none, none, some (.goto 19, 205, 221, 0, []), none, none, some (.aload_n 0, 206, 0, 0, []), some (.ldc 139, 208, 0, 0, []), none],
  [some (.invokevirtual 116, 211, 0, 0, []), none, none, some (.ifCond .eq 9, 214, 220, 0, []), none, none, some (.sipush 10005, 217, 0, 10005, []), none, none, some (.goto 4, 220, 221, 0, []), none, none, some (.iconst 1, 221, 0, 1, []), some (.putfield 45, 224, 0, 0, []), none, none],
  [some (.return_, 225, 0, 0, [])]]
def m_X1_nextWord : MT := ((cd_X1_nextWord, 1, 0, 0, 0), (yX1_nextWord, cX1_nextWord, 1, none))
def cd_X1_spells : List (List (Option Ent)) := [[some (.aload_n 0, 1, 0, 0, []), some (.getfield 28, 4, 0, 0, []), none, none, some (.aload_n 0, 5, 0, 0, []), some (.getfield 91, 8, 0, 0, []), none, none, some (.isub, 9, 0, 0, []), some (.aload_n 1, 10, 0, 0, []), some (.invokevirtual 141, 13, 0, 0, []), none, none, some (.if_icmp .eq 5, 16, 18, 0, []), none, none],
  [some (.iconst 0, 17, 0, 0, []), some (.ireturn, 18, 0, 0, []), some (.iconst 0, 19, 0, 0, []), some (.istore_n 2, 20, 0, 0, []), some (.iload_n 2, 21, 0, 0, []), some (.aload_n 1, 22, 0, 0, []), some (.invokevirtual 141, 25, 0, 0, []), none, none, some (.if_icmp .ge 30, 28, 55, 0, []), none, none, some (.aload_n 0, 29, 0, 0, []), some (.getfield 9, 32, 0, 0, []), none, none],
  [some (.aload_n 0, 33, 0, 0, []), some (.getfield 91, 36, 0, 0, []), none, none, some (.iload_n 2, 37, 0, 0, []), some (.iadd, 38, 0, 0, []), some (.iaload, 39, 0, 0, []), some (.aload_n 1, 40, 0, 0, []), some (.iload_n 2, 41, 0, 0, []), some (.invokevirtual 145, 44, 0, 0, []), none, none, some (.if_icmp .eq 5, 47, 49, 0, []), none, none, some (.iconst 0, 48, 0, 0, [])],
  [some (.ireturn, 49, 0, 0, []), some (.iinc 2 1, 52, 0, 1, []), none, none, some (.goto (-32), 55, 20, 0, []), none, none, some (.iconst 1, 56, 0, 1, []), some (.ireturn, 57, 0, 0, [])]]
def m_X1_spells : MT := ((cd_X1_spells, 1, 0, 0, 4), (yX1_spells, cX1_spells, 3, (some .boolean)))
def cd_X1_isDigit : List (List (Option Ent)) := [[some (.iload_n 0, 1, 0, 0, []), some (.bipush 48, 3, 0, 48, []), none, some (.if_icmp .lt 13, 6, 16, 0, []), none, none, some (.iload_n 0, 7, 0, 0, []), some (.bipush 57, 9, 0, 57, []), none, some (.if_icmp .gt 7, 12, 16, 0, []), none, none, some (.iconst 1, 13, 0, 1, []), some (.goto 4, 16, 17, 0, []), none, none],
  [some (.iconst 0, 17, 0, 0, []), some (.ireturn, 18, 0, 0, [])]]
def m_X1_isDigit : MT := ((cd_X1_isDigit, 1, 0, 0, 4), (yX1_isDigit, cX1_isDigit, 1, (some .boolean)))
def cd_X1_isLetter : List (List (Option Ent)) := [[some (.iload_n 0, 1, 0, 0, []), some (.bipush 97, 3, 0, 97, []), none, some (.if_icmp .lt 13, 6, 16, 0, []), none, none, some (.iload_n 0, 7, 0, 0, []), some (.bipush 122, 9, 0, 122, []), none, some (.if_icmp .gt 7, 12, 16, 0, []), none, none, some (.iconst 1, 13, 0, 1, []), some (.goto 4, 16, 17, 0, []), none, none],
  [some (.iconst 0, 17, 0, 0, []), some (.ireturn, 18, 0, 0, [])]]
def m_X1_isLetter : MT := ((cd_X1_isLetter, 1, 0, 0, 4), (yX1_isLetter, cX1_isLetter, 1, (some .boolean)))
def cd_X2_init : List (List (Option Ent)) := [[some (.aload_n 0, 1, 0, 0, []), some (.invokespecial 3, 4, 0, 0, []), none, none, some (.aload_n 0, 5, 0, 0, []), some (.bipush 6, 7, 0, 6, []), none, some (.anewarray 9, 10, 0, 0, []), none, none, some (.putfield 11, 13, 0, 0, []), none, none, some (.aload_n 0, 14, 0, 0, []), some (.bipush 6, 16, 0, 6, []), none],
  [some (.newarray .int, 18, 0, 0, []), none, some (.putfield 17, 21, 0, 0, []), none, none, some (.aload_n 0, 22, 0, 0, []), some (.sipush 160, 25, 0, 160, []), none, none, some (.newarray .int, 27, 0, 0, []), none, some (.putfield 21, 30, 0, 0, []), none, none, some (.iconst 3, 31, 0, 3, []), some (.newarray .int, 33, 0, 0, [])],
  [none, some (.dup, 34, 0, 0, []), some (.iconst 0, 35, 0, 0, []), some (.iconst 1, 36, 0, 1, []), some (.iastore, 37, 0, 0, []), some (.dup, 38, 0, 0, []), some (.iconst 1, 39, 0, 1, []), some (.iconst 1, 40, 0, 1, []), some (.iastore, 41, 0, 0, []), some (.dup, 42, 0, 0, []), some (.iconst 2, 43, 0, 2, []), some (.iconst 4, 44, 0, 4, []), some (.iastore, 45, 0, 0, []), some (.astore_n 1, 46, 0, 0, []), some (.iconst 3, 47, 0, 3, []), some (.newarray .int, 49, 0, 0, [])],
  [none, some (.dup, 50, 0, 0, []), some (.iconst 0, 51, 0, 0, []), some (.iconst 1, 52, 0, 1, []), some (.iastore, 53, 0, 0, []), some (.dup, 54, 0, 0, []), some (.iconst 1, 55, 0, 1, []), some (.iconst 2, 56, 0, 2, []), some (.iastore, 57, 0, 0, []), some (.dup, 58, 0, 0, []), some (.iconst 2, 59, 0, 2, []), some (.iconst 3, 60, 0, 3, []), some (.iastore, 61, 0, 0, []), some (.astore_n 2, 62, 0, 0, []), some (.aload_n 0, 63, 0, 0, []), some (.getfield 11, 66, 0, 0, [])],
  [none, none, some (.iconst 0, 67, 0, 0, []), some (.new 9, 70, 0, 0, []), none, none, some (.dup, 71, 0, 0, []), some (.aload_n 1, 72, 0, 0, []), some (.aload_n 2, 73, 0, 0, []), some (.invokespecial 24, 76, 0, 0, []), none, none, some (.aastore, 77, 0, 0, []), some (.aload_n 0, 78, 0, 0, []), some (.iconst 1, 79, 0, 1, []), some (.putfield 27, 82, 0, 0, [])],
  [none, none, some (.return_, 83, 0, 0, [])]]
def m_X2_init : MT := ((cd_X2_init, 2, 6, 180, 0), (yX2_init, cX2_init, 3, none))
def cd_X2_keep : List (List (Option Ent)) := [[some (.aload_n 0, 1, 0, 0, []), some (.getfield 11, 4, 0, 0, []), none, none, some (.aload_n 0, 5, 0, 0, []), some (.getfield 27, 8, 0, 0, []), none, none, some (.aload_n 1, 9, 0, 0, []), some (.aastore, 10, 0, 0, []), some (.aload_n 0, 11, 0, 0, []), some (.dup, 12, 0, 0, []), some (.getfield 27, 15, 0, 0, []), none, none, some (.iconst 1, 16, 0, 1, [])],
  [some (.iadd, 17, 0, 0, []), some (.putfield 27, 20, 0, 0, []), none, none, some (.aload_n 0, 21, 0, 0, []), some (.getfield 27, 24, 0, 0, []), none, none, some (.iconst 1, 25, 0, 1, []), some (.isub, 26, 0, 0, []), some (.ireturn, 27, 0, 0, [])]]
def m_X2_keep : MT := ((cd_X2_keep, 2, 0, 0, 1), (yX2_keep, cX2_keep, 2, (some .int)))
def cd_X2_value : List (List (Option Ent)) := [[some (.iload_n 1, 1, 0, 0, []), some (.ifCond .lt 20, 4, 21, 0, []), none, none, some (.iload_n 1, 5, 0, 0, []), some (.aload_n 0, 6, 0, 0, []), some (.getfield 27, 9, 0, 0, []), none, none, some (.if_icmp .ge 12, 12, 21, 0, []), none, none, some (.aload_n 0, 13, 0, 0, []), some (.getfield 11, 16, 0, 0, []), none, none],
  [some (.iload_n 1, 17, 0, 0, []), some (.aaload, 18, 0, 0, []), some (.goto 4, 21, 22, 0, []), none, none, some (.aconst_null, 22, 0, 0, []), some (.astore_n 3, 23, 0, 0, []), some (.aload_n 3, 24, 0, 0, []), some (.ifnonnull 5, 27, 29, 0, []), none, none, some (.iconst 0, 28, 0, 0, []), some (.ireturn, 29, 0, 0, []), some (.iconst (-1), 30, 0, (-1), []), some (.istore 4, 32, 0, 0, []), none],
  [some (.iload_n 2, 33, 0, 0, []), some (.ifCond .ne 7, 36, 40, 0, []), none, none, some (.iconst 0, 37, 0, 0, []), some (.goto 11, 40, 48, 0, []), none, none, some (.aload_n 3, 41, 0, 0, []), some (.getfield 31, 44, 0, 0, []), none, none, some (.iload_n 2, 45, 0, 0, []), some (.iconst 1, 46, 0, 1, []), some (.isub, 47, 0, 0, []), some (.iaload, 48, 0, 0, [])],
  [some (.istore 5, 50, 0, 0, []), none, some (.iload 5, 52, 0, 0, []), none, some (.aload_n 3, 53, 0, 0, []), some (.getfield 31, 56, 0, 0, []), none, none, some (.iload_n 2, 57, 0, 0, []), some (.iaload, 58, 0, 0, []), some (.if_icmp .ge 370, 61, 428, 0, []), none, none, some (.aload_n 3, 62, 0, 0, []), some (.getfield 34, 65, 0, 0, []), none],
  [none, some (.iload 5, 67, 0, 0, []), none, some (.iaload, 68, 0, 0, []), some (.istore 6, 70, 0, 0, []), none, some (.iload 6, 72, 0, 0, []), none, some (.sipush 10006, 75, 0, 10006, []), none, none, some (.if_icmp .ge 52, 78, 127, 0, []), none, none, some (.iinc 4 1, 81, 0, 1, []), none],
  [none, some (.iload 4, 83, 0, 0, []), none, some (.aload_n 0, 84, 0, 0, []), some (.getfield 21, 87, 0, 0, []), none, none, some (.arraylength, 88, 0, 0, []), some (.if_icmp .lt 5, 91, 93, 0, []), none, none, some (.iconst 0, 92, 0, 0, []), some (.ireturn, 93, 0, 0, []), some (.aload_n 0, 94, 0, 0, []), some (.getfield 21, 97, 0, 0, []), none],
  [none, some (.iload 4, 99, 0, 0, []), none, some (.iload 6, 101, 0, 0, []), none, some (.sipush 10000, 104, 0, 10000, []), none, none, some (.if_icmp .ge 8, 107, 112, 0, []), none, none, some (.iload 6, 109, 0, 0, []), none, some (.goto 14, 112, 123, 0, []), none, none],
  [some (.aload_n 0, 113, 0, 0, []), some (.getfield 17, 116, 0, 0, []), none, none, some (.iload 6, 118, 0, 0, []), none, some (.sipush 10000, 121, 0, 10000, []), none, none, some (.isub, 122, 0, 0, []), some (.iaload, 123, 0, 0, []), some (.iastore, 124, 0, 0, []), some (.goto 298, 127, 422, 0, []), none, none, some (.iload 6, 129, 0, 0, [])],
  [none, some (.sipush 10008, 132, 0, 10008, []), none, none, some (.if_icmp .lt 6, 135, 138, 0, []), none, none, some (.iinc 4 (-1), 138, 0, (-1), []), none, none, some (.iload 4, 140, 0, 0, []), none, some (.ifCond .ge 5, 143, 145, 0, []), none, none, some (.iconst 0, 144, 0, 0, [])],
  [some (.ireturn, 145, 0, 0, []), some (.aload_n 0, 146, 0, 0, []), some (.getfield 21, 149, 0, 0, []), none, none, some (.iload 4, 151, 0, 0, []), none, some (.iaload, 152, 0, 0, []), some (.istore 7, 154, 0, 0, []), none, some (.iload 6, 156, 0, 0, []), none, some (.tableswitch 247 10006 10013 #[48, 61, 81, 113, 145, 174, 203, 225], 204, 403, 0, [(10006, 204), (10007, 217), (10008, 237), (10009, 269), (10010, 301), (10011, 330), (10012, 359), (10013, 381)]), none, none, none],
  [none, none, none, none, none, none, none, none, none, none, none, none, none, none, none, none],
  [none, none, none, none, none, none, none, none, none, none, none, none, none, none, none, none],
  [none, none, none, none, none, none, none, none, none, none, none, none, some (.aload_n 0, 205, 0, 0, []), some (.getfield 21, 208, 0, 0, []), none, none],
  [some (.iload 4, 210, 0, 0, []), none, some (.iload 7, 212, 0, 0, []), none, some (.ineg, 213, 0, 0, []), some (.iastore, 214, 0, 0, []), some (.goto 208, 217, 422, 0, []), none, none, some (.aload_n 0, 218, 0, 0, []), some (.getfield 21, 221, 0, 0, []), none, none, some (.iload 4, 223, 0, 0, []), none, some (.iload 7, 225, 0, 0, [])],
  [none, some (.ifCond .ne 7, 228, 232, 0, []), none, none, some (.iconst 1, 229, 0, 1, []), some (.goto 4, 232, 233, 0, []), none, none, some (.iconst 0, 233, 0, 0, []), some (.iastore, 234, 0, 0, []), some (.goto 188, 237, 422, 0, []), none, none, some (.aload_n 0, 238, 0, 0, []), some (.getfield 21, 241, 0, 0, []), none],
  [none, some (.iload 4, 243, 0, 0, []), none, some (.iload 7, 245, 0, 0, []), none, some (.ifCond .ne 15, 248, 260, 0, []), none, none, some (.aload_n 0, 249, 0, 0, []), some (.getfield 21, 252, 0, 0, []), none, none, some (.iload 4, 254, 0, 0, []), none, some (.iconst 1, 255, 0, 1, []), some (.iadd, 256, 0, 0, [])],
  [some (.iaload, 257, 0, 0, []), some (.ifCond .eq 7, 260, 264, 0, []), none, none, some (.iconst 1, 261, 0, 1, []), some (.goto 4, 264, 265, 0, []), none, none, some (.iconst 0, 265, 0, 0, []), some (.iastore, 266, 0, 0, []), some (.goto 156, 269, 422, 0, []), none, none, some (.aload_n 0, 270, 0, 0, []), some (.getfield 21, 273, 0, 0, []), none],
  [none, some (.iload 4, 275, 0, 0, []), none, some (.iload 7, 277, 0, 0, []), none, some (.ifCond .eq 19, 280, 296, 0, []), none, none, some (.aload_n 0, 281, 0, 0, []), some (.getfield 21, 284, 0, 0, []), none, none, some (.iload 4, 286, 0, 0, []), none, some (.iconst 1, 287, 0, 1, []), some (.iadd, 288, 0, 0, [])],
  [some (.iaload, 289, 0, 0, []), some (.ifCond .eq 7, 292, 296, 0, []), none, none, some (.iconst 1, 293, 0, 1, []), some (.goto 4, 296, 297, 0, []), none, none, some (.iconst 0, 297, 0, 0, []), some (.iastore, 298, 0, 0, []), some (.goto 124, 301, 422, 0, []), none, none, some (.aload_n 0, 302, 0, 0, []), some (.getfield 21, 305, 0, 0, []), none],
  [none, some (.iload 4, 307, 0, 0, []), none, some (.iload 7, 309, 0, 0, []), none, some (.aload_n 0, 310, 0, 0, []), some (.getfield 21, 313, 0, 0, []), none, none, some (.iload 4, 315, 0, 0, []), none, some (.iconst 1, 316, 0, 1, []), some (.iadd, 317, 0, 0, []), some (.iaload, 318, 0, 0, []), some (.if_icmp .ge 7, 321, 325, 0, []), none],
  [none, some (.iconst 1, 322, 0, 1, []), some (.goto 4, 325, 326, 0, []), none, none, some (.iconst 0, 326, 0, 0, []), some (.iastore, 327, 0, 0, []), some (.goto 95, 330, 422, 0, []), none, none, some (.aload_n 0, 331, 0, 0, []), some (.getfield 21, 334, 0, 0, []), none, none, some (.iload 4, 336, 0, 0, []), none],
  [some (.iload 7, 338, 0, 0, []), none, some (.aload_n 0, 339, 0, 0, []), some (.getfield 21, 342, 0, 0, []), none, none, some (.iload 4, 344, 0, 0, []), none, some (.iconst 1, 345, 0, 1, []), some (.iadd, 346, 0, 0, []), some (.iaload, 347, 0, 0, []), some (.if_icmp .ne 7, 350, 354, 0, []), none, none, some (.iconst 1, 351, 0, 1, []), some (.goto 4, 354, 355, 0, [])],
  [none, none, some (.iconst 0, 355, 0, 0, []), some (.iastore, 356, 0, 0, []), some (.goto 66, 359, 422, 0, []), none, none, some (.aload_n 0, 360, 0, 0, []), some (.getfield 21, 363, 0, 0, []), none, none, some (.iload 4, 365, 0, 0, []), none, some (.iload 7, 367, 0, 0, []), none, some (.aload_n 0, 368, 0, 0, [])],
  [some (.getfield 21, 371, 0, 0, []), none, none, some (.iload 4, 373, 0, 0, []), none, some (.iconst 1, 374, 0, 1, []), some (.iadd, 375, 0, 0, []), some (.iaload, 376, 0, 0, []), some (.iadd, 377, 0, 0, []), some (.iastore, 378, 0, 0, []), some (.goto 44, 381, 422, 0, []), none, none, some (.aload_n 0, 382, 0, 0, []), some (.getfield 21, 385, 0, 0, []), none],
  [none, some (.iload 4, 387, 0, 0, []), none, some (.iload 7, 389, 0, 0, []), none, some (.aload_n 0, 390, 0, 0, []), some (.getfield 21, 393, 0, 0, []), none, none, some (.iload 4, 395, 0, 0, []), none, some (.iconst 1, 396, 0, 1, []), some (.iadd, 397, 0, 0, []), some (.iaload, 398, 0, 0, []), some (.isub, 399, 0, 0, []), some (.iastore, 400, 0, 0, [])],
  [some (.goto 22, 403, 422, 0, []), none, none, some (.aload_n 0, 404, 0, 0, []), some (.getfield 21, 407, 0, 0, []), none, none, some (.iload 4, 409, 0, 0, []), none, some (.iload 7, 411, 0, 0, []), none, some (.aload_n 0, 412, 0, 0, []), some (.getfield 21, 415, 0, 0, []), none, none, some (.iload 4, 417, 0, 0, [])],
  [none, some (.iconst 1, 418, 0, 1, []), some (.iadd, 419, 0, 0, []), some (.iaload, 420, 0, 0, []), some (.imul, 421, 0, 0, []), some (.iastore, 422, 0, 0, []), some (.iinc 5 1, 425, 0, 1, []), none, none, some (.goto (-375), 428, 50, 0, []), none, none, some (.iload 4, 430, 0, 0, []), none, some (.ifCond .ge 7, 433, 437, 0, []), none],
  [none, some (.iconst 0, 434, 0, 0, []), some (.goto 10, 437, 444, 0, []), none, none, some (.aload_n 0, 438, 0, 0, []), some (.getfield 21, 441, 0, 0, []), none, none, some (.iload 4, 443, 0, 0, []), none, some (.iaload, 444, 0, 0, []), some (.ireturn, 445, 0, 0, [])]]
def m_X2_value : MT := ((cd_X2_value, 2, 0, 0, 1), (yX2_value, cX2_value, 8, (some .int)))
def cd_X3_init : List (List (Option Ent)) := [[some (.aload_n 0, 1, 0, 0, []), some (.invokespecial 3, 4, 0, 0, []), none, none, some (.aload_n 0, 5, 0, 0, []), some (.iconst (-1), 6, 0, (-1), []), some (.putfield 9, 9, 0, 0, []), none, none, some (.aload_n 0, 10, 0, 0, []), some (.bipush 40, 12, 0, 40, []), none, some (.newarray .int, 14, 0, 0, []), none, some (.putfield 15, 17, 0, 0, []), none],
  [none, some (.return_, 18, 0, 0, [])]]
def m_X3_init : MT := ((cd_X3_init, 3, 1, 40, 0), (yX3_init, cX3_init, 1, none))
def cd_X3_become : List (List (Option Ent)) := [[some (.aload_n 0, 1, 0, 0, []), some (.iload_n 1, 2, 0, 0, []), some (.putfield 9, 5, 0, 0, []), none, none, some (.aload_n 0, 6, 0, 0, []), some (.iload_n 2, 7, 0, 0, []), some (.putfield 19, 10, 0, 0, []), none, none, some (.iconst 0, 11, 0, 0, []), some (.istore_n 3, 12, 0, 0, []), some (.iload_n 3, 13, 0, 0, []), some (.aload_n 0, 14, 0, 0, []), some (.getfield 15, 17, 0, 0, []), none],
  [none, some (.arraylength, 18, 0, 0, []), some (.if_icmp .ge 16, 21, 34, 0, []), none, none, some (.aload_n 0, 22, 0, 0, []), some (.getfield 15, 25, 0, 0, []), none, none, some (.iload_n 3, 26, 0, 0, []), some (.iconst 0, 27, 0, 0, []), some (.iastore, 28, 0, 0, []), some (.iinc 3 1, 31, 0, 1, []), none, none, some (.goto (-19), 34, 12, 0, [])],
  [none, none, some (.return_, 35, 0, 0, [])]]
def m_X3_become : MT := ((cd_X3_become, 3, 0, 0, 0), (yX3_become, cX3_become, 4, none))
def cd_X3_holds : List (List (Option Ent)) := [[some (.iload_n 1, 1, 0, 0, []), some (.ifCond .lt 29, 4, 30, 0, []), none, none, some (.iload_n 2, 5, 0, 0, []), some (.ifCond .lt 25, 8, 30, 0, []), none, none, some (.iload_n 2, 9, 0, 0, []), some (.aload_n 0, 10, 0, 0, []), some (.getfield 19, 13, 0, 0, []), none, none, some (.if_icmp .gt 17, 16, 30, 0, []), none, none],
  [some (.iload_n 1, 17, 0, 0, []), some (.aload_n 0, 18, 0, 0, []), some (.getfield 19, 21, 0, 0, []), none, none, some (.iload_n 2, 22, 0, 0, []), some (.isub, 23, 0, 0, []), some (.if_icmp .gt 7, 26, 30, 0, []), none, none, some (.iconst 1, 27, 0, 1, []), some (.goto 4, 30, 31, 0, []), none, none, some (.iconst 0, 31, 0, 0, []), some (.ireturn, 32, 0, 0, [])]]
def m_X3_holds : MT := ((cd_X3_holds, 3, 0, 0, 4), (yX3_holds, cX3_holds, 3, (some .boolean)))
def cd_X3_put : List (List (Option Ent)) := [[some (.aload_n 0, 1, 0, 0, []), some (.getfield 15, 4, 0, 0, []), none, none, some (.iload_n 1, 5, 0, 0, []), some (.aload_n 0, 6, 0, 0, []), some (.getfield 9, 9, 0, 0, []), none, none, some (.ifCond .ne 8, 12, 17, 0, []), none, none, some (.iload_n 2, 13, 0, 0, []), some (.i2b, 14, 0, 0, []), some (.goto 17, 17, 31, 0, []), none],
  [none, some (.aload_n 0, 18, 0, 0, []), some (.getfield 9, 21, 0, 0, []), none, none, some (.iconst 1, 22, 0, 1, []), some (.if_icmp .ne 8, 25, 30, 0, []), none, none, some (.iload_n 2, 26, 0, 0, []), some (.i2s, 27, 0, 0, []), some (.goto 4, 30, 31, 0, []), none, none, some (.iload_n 2, 31, 0, 0, []), some (.iastore, 32, 0, 0, [])],
  [some (.return_, 33, 0, 0, [])]]
def m_X3_put : MT := ((cd_X3_put, 3, 0, 0, 0), (yX3_put, cX3_put, 3, none))
def cd_X4_init : List (List (Option Ent)) := [[some (.aload_n 0, 1, 0, 0, []), some (.invokespecial 1, 4, 0, 0, []), none, none, some (.aload_n 0, 5, 0, 0, []), some (.aload_n 1, 6, 0, 0, []), some (.putfield 7, 9, 0, 0, []), none, none, some (.aload_n 0, 10, 0, 0, []), some (.aload_n 2, 11, 0, 0, []), some (.putfield 13, 14, 0, 0, []), none, none, some (.return_, 15, 0, 0, [])]]
def m_X4_init : MT := ((cd_X4_init, 4, 0, 0, 0), (yX4_init, cX4_init, 3, none))
def cd_X5_init : List (List (Option Ent)) := [[some (.aload_n 0, 1, 0, 0, []), some (.invokespecial 1, 4, 0, 0, []), none, none, some (.aload_n 0, 5, 0, 0, []), some (.new 7, 8, 0, 0, []), none, none, some (.dup, 9, 0, 0, []), some (.invokespecial 9, 12, 0, 0, []), none, none, some (.putfield 10, 15, 0, 0, []), none, none, some (.aload_n 0, 16, 0, 0, [])],
  [some (.new 16, 19, 0, 0, []), none, none, some (.dup, 20, 0, 0, []), some (.aload_n 0, 21, 0, 0, []), some (.getfield 10, 24, 0, 0, []), none, none, some (.invokespecial 18, 27, 0, 0, []), none, none, some (.putfield 21, 30, 0, 0, []), none, none, some (.aload_n 0, 31, 0, 0, []), some (.new 16, 34, 0, 0, [])],
  [none, none, some (.dup, 35, 0, 0, []), some (.aload_n 0, 36, 0, 0, []), some (.getfield 10, 39, 0, 0, []), none, none, some (.invokespecial 18, 42, 0, 0, []), none, none, some (.putfield 25, 45, 0, 0, []), none, none, some (.aload_n 0, 46, 0, 0, []), some (.iconst 3, 47, 0, 3, []), some (.anewarray 16, 50, 0, 0, [])],
  [none, none, some (.dup, 51, 0, 0, []), some (.iconst 0, 52, 0, 0, []), some (.new 16, 55, 0, 0, []), none, none, some (.dup, 56, 0, 0, []), some (.aload_n 0, 57, 0, 0, []), some (.getfield 10, 60, 0, 0, []), none, none, some (.invokespecial 18, 63, 0, 0, []), none, none, some (.aastore, 64, 0, 0, [])],
  [some (.dup, 65, 0, 0, []), some (.iconst 1, 66, 0, 1, []), some (.new 16, 69, 0, 0, []), none, none, some (.dup, 70, 0, 0, []), some (.aload_n 0, 71, 0, 0, []), some (.getfield 10, 74, 0, 0, []), none, none, some (.invokespecial 18, 77, 0, 0, []), none, none, some (.aastore, 78, 0, 0, []), some (.dup, 79, 0, 0, []), some (.iconst 2, 80, 0, 2, [])],
  [some (.new 16, 83, 0, 0, []), none, none, some (.dup, 84, 0, 0, []), some (.aload_n 0, 85, 0, 0, []), some (.getfield 10, 88, 0, 0, []), none, none, some (.invokespecial 18, 91, 0, 0, []), none, none, some (.aastore, 92, 0, 0, []), some (.putfield 28, 95, 0, 0, []), none, none, some (.aload_n 0, 96, 0, 0, [])],
  [some (.new 32, 99, 0, 0, []), none, none, some (.dup, 100, 0, 0, []), some (.invokespecial 34, 103, 0, 0, []), none, none, some (.putfield 35, 106, 0, 0, []), none, none, some (.aload_n 0, 107, 0, 0, []), some (.iconst 4, 108, 0, 4, []), some (.anewarray 39, 111, 0, 0, []), none, none, some (.dup, 112, 0, 0, [])],
  [some (.iconst 0, 113, 0, 0, []), some (.new 39, 116, 0, 0, []), none, none, some (.dup, 117, 0, 0, []), some (.invokespecial 41, 120, 0, 0, []), none, none, some (.aastore, 121, 0, 0, []), some (.dup, 122, 0, 0, []), some (.iconst 1, 123, 0, 1, []), some (.new 39, 126, 0, 0, []), none, none, some (.dup, 127, 0, 0, []), some (.invokespecial 41, 130, 0, 0, [])],
  [none, none, some (.aastore, 131, 0, 0, []), some (.dup, 132, 0, 0, []), some (.iconst 2, 133, 0, 2, []), some (.new 39, 136, 0, 0, []), none, none, some (.dup, 137, 0, 0, []), some (.invokespecial 41, 140, 0, 0, []), none, none, some (.aastore, 141, 0, 0, []), some (.dup, 142, 0, 0, []), some (.iconst 3, 143, 0, 3, []), some (.new 39, 146, 0, 0, [])],
  [none, none, some (.dup, 147, 0, 0, []), some (.invokespecial 41, 150, 0, 0, []), none, none, some (.aastore, 151, 0, 0, []), some (.putfield 42, 154, 0, 0, []), none, none, some (.aload_n 0, 155, 0, 0, []), some (.iconst 5, 156, 0, 5, []), some (.newarray .int, 158, 0, 0, []), none, some (.putfield 46, 161, 0, 0, []), none],
  [none, some (.return_, 162, 0, 0, [])]]
def m_X5_init : MT := ((cd_X5_init, 5, 57, 1066, 0), (yX5_init, cX5_init, 1, none))
def cd_X5_set : List (List (Option Ent)) := [[some (.iload_n 1, 1, 0, 0, []), some (.ifCond .lt 24, 4, 25, 0, []), none, none, some (.iload_n 1, 5, 0, 0, []), some (.getstatic 50, 8, 0, 0, []), none, none, some (.arraylength, 9, 0, 0, []), some (.if_icmp .ge 16, 12, 25, 0, []), none, none, some (.iload_n 3, 13, 0, 0, []), some (.ifCond .lt 12, 16, 25, 0, []), none, none],
  [some (.iload_n 3, 17, 0, 0, []), some (.getstatic 50, 20, 0, 0, []), none, none, some (.iload_n 1, 21, 0, 0, []), some (.iaload, 22, 0, 0, []), some (.if_icmp .le 6, 25, 28, 0, []), none, none, some (.bipush (-2), 27, 0, (-2), []), none, some (.ireturn, 28, 0, 0, []), some (.aload_n 0, 29, 0, 0, []), some (.iload_n 2, 30, 0, 0, []), some (.iload_n 1, 31, 0, 0, []), some (.invokevirtual 53, 34, 0, 0, [])],
  [none, none, some (.istore 4, 36, 0, 0, []), none, some (.iload 4, 38, 0, 0, []), none, some (.ifCond .ge 6, 41, 44, 0, []), none, none, some (.bipush (-2), 43, 0, (-2), []), none, some (.ireturn, 44, 0, 0, []), some (.iload_n 1, 45, 0, 0, []), some (.tableswitch 79 0 3 #[31, 42, 53, 66], 76, 124, 0, [(0, 76), (1, 87), (2, 98), (3, 111)]), none, none],
  [none, none, none, none, none, none, none, none, none, none, none, none, none, none, none, none],
  [none, none, none, none, none, none, none, none, none, none, none, none, some (.aload_n 0, 77, 0, 0, []), some (.getfield 21, 80, 0, 0, []), none, none],
  [some (.iload_n 3, 81, 0, 0, []), some (.putfield 57, 84, 0, 0, []), none, none, some (.goto 54, 87, 138, 0, []), none, none, some (.aload_n 0, 88, 0, 0, []), some (.getfield 21, 91, 0, 0, []), none, none, some (.iload_n 3, 92, 0, 0, []), some (.putfield 61, 95, 0, 0, []), none, none, some (.goto 43, 98, 138, 0, [])],
  [none, none, some (.aload_n 0, 99, 0, 0, []), some (.getfield 21, 102, 0, 0, []), none, none, some (.getfield 64, 105, 0, 0, []), none, none, some (.iload_n 2, 106, 0, 0, []), some (.iload_n 3, 107, 0, 0, []), some (.iastore, 108, 0, 0, []), some (.goto 30, 111, 138, 0, []), none, none, some (.aload_n 0, 112, 0, 0, [])],
  [some (.getfield 21, 115, 0, 0, []), none, none, some (.getfield 67, 118, 0, 0, []), none, none, some (.iload_n 2, 119, 0, 0, []), some (.iload_n 3, 120, 0, 0, []), some (.iastore, 121, 0, 0, []), some (.goto 17, 124, 138, 0, []), none, none, some (.aload_n 0, 125, 0, 0, []), some (.getfield 21, 128, 0, 0, []), none, none],
  [some (.getfield 70, 131, 0, 0, []), none, none, some (.aload_n 0, 132, 0, 0, []), some (.iload_n 2, 133, 0, 0, []), some (.invokevirtual 73, 136, 0, 0, []), none, none, some (.iload_n 3, 137, 0, 0, []), some (.iastore, 138, 0, 0, []), some (.iload 4, 140, 0, 0, []), none, some (.ireturn, 141, 0, 0, [])]]
def m_X5_set : MT := ((cd_X5_set, 5, 0, 0, 1), (yX5_set, cX5_set, 5, (some .int)))
def cd_X5_dancer : List (List (Option Ent)) := [[some (.iload_n 1, 1, 0, 0, []), some (.ifCond .lt 19, 4, 20, 0, []), none, none, some (.iload_n 1, 5, 0, 0, []), some (.bipush 6, 7, 0, 6, []), none, some (.if_icmp .ge 13, 10, 20, 0, []), none, none, some (.iload_n 2, 11, 0, 0, []), some (.ifCond .lt 9, 14, 20, 0, []), none, none, some (.iload_n 2, 15, 0, 0, []), some (.bipush 9, 17, 0, 9, [])],
  [none, some (.if_icmp .le 6, 20, 23, 0, []), none, none, some (.bipush (-2), 22, 0, (-2), []), none, some (.ireturn, 23, 0, 0, []), some (.aload_n 0, 24, 0, 0, []), some (.getfield 21, 27, 0, 0, []), none, none, some (.getfield 77, 30, 0, 0, []), none, none, some (.iconst 5, 31, 0, 5, []), some (.if_icmp .lt 6, 34, 37, 0, [])],
  [none, none, some (.bipush (-4), 36, 0, (-4), []), none, some (.ireturn, 37, 0, 0, []), some (.aload_n 0, 38, 0, 0, []), some (.getfield 21, 41, 0, 0, []), none, none, some (.iload_n 1, 42, 0, 0, []), some (.iload_n 2, 43, 0, 0, []), some (.invokevirtual 80, 46, 0, 0, []), none, none, some (.ireturn, 47, 0, 0, [])]]
def m_X5_dancer : MT := ((cd_X5_dancer, 5, 0, 0, 1), (yX5_dancer, cX5_dancer, 3, (some .int)))
def cd_X5_told : List (List (Option Ent)) := [[some (.iload_n 2, 1, 0, 0, []), some (.ifCond .ne 11, 4, 12, 0, []), none, none, some (.aload_n 0, 5, 0, 0, []), some (.getfield 21, 8, 0, 0, []), none, none, some (.getfield 57, 11, 0, 0, []), none, none, some (.ireturn, 12, 0, 0, []), some (.iload_n 2, 13, 0, 0, []), some (.iconst 1, 14, 0, 1, []), some (.if_icmp .ne 11, 17, 25, 0, []), none],
  [none, some (.aload_n 0, 18, 0, 0, []), some (.getfield 21, 21, 0, 0, []), none, none, some (.getfield 61, 24, 0, 0, []), none, none, some (.ireturn, 25, 0, 0, []), some (.iload_n 2, 26, 0, 0, []), some (.iconst 4, 27, 0, 4, []), some (.if_icmp .ne 28, 30, 55, 0, []), none, none, some (.aload_n 0, 31, 0, 0, []), some (.iload_n 1, 32, 0, 0, [])],
  [some (.invokevirtual 73, 35, 0, 0, []), none, none, some (.istore_n 3, 36, 0, 0, []), some (.iload_n 3, 37, 0, 0, []), some (.ifCond .ge 8, 40, 45, 0, []), none, none, some (.bipush (-2), 42, 0, (-2), []), none, some (.goto 12, 45, 54, 0, []), none, none, some (.aload_n 0, 46, 0, 0, []), some (.getfield 21, 49, 0, 0, []), none],
  [none, some (.getfield 70, 52, 0, 0, []), none, none, some (.iload_n 3, 53, 0, 0, []), some (.iaload, 54, 0, 0, []), some (.ireturn, 55, 0, 0, []), some (.aload_n 0, 56, 0, 0, []), some (.iload_n 1, 57, 0, 0, []), some (.invokevirtual 83, 60, 0, 0, []), none, none, some (.ifCond .ne 6, 63, 66, 0, []), none, none, some (.bipush (-2), 65, 0, (-2), [])],
  [none, some (.ireturn, 66, 0, 0, []), some (.iload_n 2, 67, 0, 0, []), some (.tableswitch 98 2 8 #[41, 51, 98, 61, 71, 80, 89], 108, 165, 0, [(2, 108), (3, 118), (4, 165), (5, 128), (6, 138), (7, 147), (8, 156)]), none, none, none, none, none, none, none, none, none, none, none, none],
  [none, none, none, none, none, none, none, none, none, none, none, none, none, none, none, none],
  [none, none, none, none, none, none, none, none, none, none, none, none, some (.aload_n 0, 109, 0, 0, []), some (.getfield 21, 112, 0, 0, []), none, none],
  [some (.getfield 64, 115, 0, 0, []), none, none, some (.iload_n 1, 116, 0, 0, []), some (.iaload, 117, 0, 0, []), some (.ireturn, 118, 0, 0, []), some (.aload_n 0, 119, 0, 0, []), some (.getfield 21, 122, 0, 0, []), none, none, some (.getfield 67, 125, 0, 0, []), none, none, some (.iload_n 1, 126, 0, 0, []), some (.iaload, 127, 0, 0, []), some (.ireturn, 128, 0, 0, [])],
  [some (.aload_n 0, 129, 0, 0, []), some (.getfield 21, 132, 0, 0, []), none, none, some (.getfield 87, 135, 0, 0, []), none, none, some (.iload_n 1, 136, 0, 0, []), some (.iaload, 137, 0, 0, []), some (.ireturn, 138, 0, 0, []), some (.aload_n 0, 139, 0, 0, []), some (.getfield 21, 142, 0, 0, []), none, none, some (.iload_n 1, 143, 0, 0, []), some (.invokevirtual 90, 146, 0, 0, [])],
  [none, none, some (.ireturn, 147, 0, 0, []), some (.aload_n 0, 148, 0, 0, []), some (.getfield 21, 151, 0, 0, []), none, none, some (.iload_n 1, 152, 0, 0, []), some (.invokevirtual 93, 155, 0, 0, []), none, none, some (.ireturn, 156, 0, 0, []), some (.aload_n 0, 157, 0, 0, []), some (.getfield 21, 160, 0, 0, []), none, none],
  [some (.iload_n 1, 161, 0, 0, []), some (.invokevirtual 96, 164, 0, 0, []), none, none, some (.ireturn, 165, 0, 0, []), some (.bipush (-2), 167, 0, (-2), []), none, some (.ireturn, 168, 0, 0, [])]]
def m_X5_told : MT := ((cd_X5_told, 5, 0, 0, 1), (yX5_told, cX5_told, 4, (some .int)))
def cd_X5_asks : List (List (Option Ent)) := [[some (.aload_n 0, 1, 0, 0, []), some (.iload_n 1, 2, 0, 0, []), some (.iload_n 2, 3, 0, 0, []), some (.invokevirtual 99, 6, 0, 0, []), none, none, some (.ifCond .ne 6, 9, 12, 0, []), none, none, some (.bipush (-2), 11, 0, (-2), []), none, some (.ireturn, 12, 0, 0, []), some (.iload_n 3, 13, 0, 0, []), some (.tableswitch 81 0 2 #[27, 45, 63], 40, 94, 0, [(0, 40), (1, 58), (2, 76)]), none, none],
  [none, none, none, none, none, none, none, none, none, none, none, none, none, none, none, none],
  [none, none, none, none, none, none, none, none, some (.aload_n 0, 41, 0, 0, []), some (.getfield 21, 44, 0, 0, []), none, none, some (.iload_n 1, 45, 0, 0, []), some (.aload_n 0, 46, 0, 0, []), some (.getfield 21, 49, 0, 0, []), none],
  [none, some (.iload_n 1, 50, 0, 0, []), some (.iload_n 2, 51, 0, 0, []), some (.invokevirtual 103, 54, 0, 0, []), none, none, some (.invokevirtual 106, 57, 0, 0, []), none, none, some (.ireturn, 58, 0, 0, []), some (.aload_n 0, 59, 0, 0, []), some (.getfield 21, 62, 0, 0, []), none, none, some (.iload_n 1, 63, 0, 0, []), some (.iload_n 2, 64, 0, 0, [])],
  [some (.invokevirtual 109, 67, 0, 0, []), none, none, some (.ifCond .eq 7, 70, 74, 0, []), none, none, some (.iconst 1, 71, 0, 1, []), some (.goto 4, 74, 75, 0, []), none, none, some (.iconst 0, 75, 0, 0, []), some (.ireturn, 76, 0, 0, []), some (.aload_n 0, 77, 0, 0, []), some (.getfield 21, 80, 0, 0, []), none, none],
  [some (.iload_n 1, 81, 0, 0, []), some (.iload_n 2, 82, 0, 0, []), some (.invokevirtual 112, 85, 0, 0, []), none, none, some (.ifCond .eq 7, 88, 92, 0, []), none, none, some (.iconst 1, 89, 0, 1, []), some (.goto 4, 92, 93, 0, []), none, none, some (.iconst 0, 93, 0, 0, []), some (.ireturn, 94, 0, 0, []), some (.bipush (-2), 96, 0, (-2), []), none],
  [some (.ireturn, 97, 0, 0, [])]]
def m_X5_asks : MT := ((cd_X5_asks, 5, 0, 0, 1), (yX5_asks, cX5_asks, 4, (some .int)))
def cd_X5_isDancer : List (List (Option Ent)) := [[some (.iload_n 1, 1, 0, 0, []), some (.ifCond .lt 18, 4, 19, 0, []), none, none, some (.iload_n 1, 5, 0, 0, []), some (.aload_n 0, 6, 0, 0, []), some (.getfield 21, 9, 0, 0, []), none, none, some (.getfield 77, 12, 0, 0, []), none, none, some (.if_icmp .ge 7, 15, 19, 0, []), none, none, some (.iconst 1, 16, 0, 1, [])],
  [some (.goto 4, 19, 20, 0, []), none, none, some (.iconst 0, 20, 0, 0, []), some (.ireturn, 21, 0, 0, [])]]
def m_X5_isDancer : MT := ((cd_X5_isDancer, 5, 0, 0, 4), (yX5_isDancer, cX5_isDancer, 2, (some .boolean)))
def cd_X5_isTwo : List (List (Option Ent)) := [[some (.aload_n 0, 1, 0, 0, []), some (.iload_n 1, 2, 0, 0, []), some (.invokevirtual 83, 5, 0, 0, []), none, none, some (.ifCond .eq 20, 8, 25, 0, []), none, none, some (.aload_n 0, 9, 0, 0, []), some (.iload_n 2, 10, 0, 0, []), some (.invokevirtual 83, 13, 0, 0, []), none, none, some (.ifCond .eq 12, 16, 25, 0, []), none, none],
  [some (.iload_n 1, 17, 0, 0, []), some (.iload_n 2, 18, 0, 0, []), some (.if_icmp .eq 7, 21, 25, 0, []), none, none, some (.iconst 1, 22, 0, 1, []), some (.goto 4, 25, 26, 0, []), none, none, some (.iconst 0, 26, 0, 0, []), some (.ireturn, 27, 0, 0, [])]]
def m_X5_isTwo : MT := ((cd_X5_isTwo, 5, 0, 0, 4), (yX5_isTwo, cX5_isTwo, 3, (some .boolean)))
def cd_X5_debtPlace : List (List (Option Ent)) := [[some (.iload_n 1, 1, 0, 0, []), some (.bipush 10, 3, 0, 10, []), none, some (.idiv, 4, 0, 0, []), some (.istore_n 2, 5, 0, 0, []), some (.iload_n 1, 6, 0, 0, []), some (.bipush 10, 8, 0, 10, []), none, some (.irem, 9, 0, 0, []), some (.istore_n 3, 10, 0, 0, []), some (.iload_n 1, 11, 0, 0, []), some (.ifCond .lt 20, 14, 31, 0, []), none, none, some (.aload_n 0, 15, 0, 0, []), some (.iload_n 2, 16, 0, 0, [])],
  [some (.iload_n 3, 17, 0, 0, []), some (.invokevirtual 99, 20, 0, 0, []), none, none, some (.ifCond .eq 11, 23, 31, 0, []), none, none, some (.iload_n 2, 24, 0, 0, []), some (.iconst 5, 25, 0, 5, []), some (.imul, 26, 0, 0, []), some (.iload_n 3, 27, 0, 0, []), some (.iadd, 28, 0, 0, []), some (.goto 4, 31, 32, 0, []), none, none, some (.iconst (-1), 32, 0, (-1), [])],
  [some (.ireturn, 33, 0, 0, [])]]
def m_X5_debtPlace : MT := ((cd_X5_debtPlace, 5, 0, 0, 1), (yX5_debtPlace, cX5_debtPlace, 4, (some .int)))
def cd_X5_feed : List (List (Option Ent)) := [[some (.iload_n 1, 1, 0, 0, []), some (.ifCond .lt 10, 4, 11, 0, []), none, none, some (.iload_n 1, 5, 0, 0, []), some (.sipush 255, 8, 0, 255, []), none, none, some (.if_icmp .le 6, 11, 14, 0, []), none, none, some (.bipush (-2), 13, 0, (-2), []), none, some (.ireturn, 14, 0, 0, []), some (.aload_n 0, 15, 0, 0, []), some (.getfield 35, 18, 0, 0, [])],
  [none, none, some (.iload_n 1, 19, 0, 0, []), some (.invokevirtual 115, 22, 0, 0, []), none, none, some (.ifCond .eq 13, 25, 35, 0, []), none, none, some (.aload_n 0, 26, 0, 0, []), some (.getfield 35, 29, 0, 0, []), none, none, some (.getfield 118, 32, 0, 0, []), none, none],
  [some (.goto 5, 35, 37, 0, []), none, none, some (.bipush (-4), 37, 0, (-4), []), none, some (.ireturn, 38, 0, 0, [])]]
def m_X5_feed : MT := ((cd_X5_feed, 5, 0, 0, 1), (yX5_feed, cX5_feed, 2, (some .int)))
def cd_X5_text : List (List (Option Ent)) := [[some (.aload_n 0, 1, 0, 0, []), some (.getfield 10, 4, 0, 0, []), none, none, some (.getfield 121, 7, 0, 0, []), none, none, some (.bipush 6, 9, 0, 6, []), none, some (.if_icmp .lt 6, 12, 15, 0, []), none, none, some (.bipush (-4), 14, 0, (-4), []), none, some (.ireturn, 15, 0, 0, []), some (.aload_n 0, 16, 0, 0, [])],
  [some (.getfield 35, 19, 0, 0, []), none, none, some (.invokevirtual 124, 22, 0, 0, []), none, none, some (.astore_n 1, 23, 0, 0, []), some (.aload_n 1, 24, 0, 0, []), some (.ifnonnull 16, 27, 40, 0, []), none, none, some (.bipush (-100), 29, 0, (-100), []), none, some (.aload_n 0, 30, 0, 0, []), some (.getfield 35, 33, 0, 0, []), none],
  [none, some (.getfield 128, 36, 0, 0, []), none, none, some (.isub, 37, 0, 0, []), some (.goto 11, 40, 48, 0, []), none, none, some (.aload_n 0, 41, 0, 0, []), some (.getfield 10, 44, 0, 0, []), none, none, some (.aload_n 1, 45, 0, 0, []), some (.invokevirtual 131, 48, 0, 0, []), none, none],
  [some (.ireturn, 49, 0, 0, [])]]
def m_X5_text : MT := ((cd_X5_text, 5, 1000, 165, 1), (yX5_text, cX5_text, 2, (some .int)))
def cd_X5_force : List (List (Option Ent)) := [[some (.iload_n 1, 1, 0, 0, []), some (.ifCond .lt 14, 4, 15, 0, []), none, none, some (.iload_n 1, 5, 0, 0, []), some (.aload_n 0, 6, 0, 0, []), some (.getfield 10, 9, 0, 0, []), none, none, some (.getfield 121, 12, 0, 0, []), none, none, some (.if_icmp .lt 6, 15, 18, 0, []), none, none, some (.bipush (-2), 17, 0, (-2), [])],
  [none, some (.ireturn, 18, 0, 0, []), some (.aload_n 0, 19, 0, 0, []), some (.getfield 21, 22, 0, 0, []), none, none, some (.getfield 135, 25, 0, 0, []), none, none, some (.istore_n 2, 26, 0, 0, []), some (.aload_n 0, 27, 0, 0, []), some (.getfield 21, 30, 0, 0, []), none, none, some (.iload_n 1, 31, 0, 0, []), some (.putfield 135, 34, 0, 0, [])],
  [none, none, some (.iload_n 2, 35, 0, 0, []), some (.ireturn, 36, 0, 0, [])]]
def m_X5_force : MT := ((cd_X5_force, 5, 0, 0, 1), (yX5_force, cX5_force, 3, (some .int)))
def cd_X5_dance : List (List (Option Ent)) := [[some (.aload_n 0, 1, 0, 0, []), some (.iload_n 1, 2, 0, 0, []), some (.iload_n 2, 3, 0, 0, []), some (.invokevirtual 99, 6, 0, 0, []), none, none, some (.ifCond .ne 6, 9, 12, 0, []), none, none, some (.bipush (-2), 11, 0, (-2), []), none, some (.ireturn, 12, 0, 0, []), some (.aload_n 0, 13, 0, 0, []), some (.getfield 21, 16, 0, 0, []), none, none],
  [some (.iload_n 1, 17, 0, 0, []), some (.iload_n 2, 18, 0, 0, []), some (.invokevirtual 112, 21, 0, 0, []), none, none, some (.ifCond .eq 15, 24, 36, 0, []), none, none, some (.aload_n 0, 25, 0, 0, []), some (.getfield 21, 28, 0, 0, []), none, none, some (.iload_n 1, 29, 0, 0, []), some (.iload_n 2, 30, 0, 0, []), some (.invokevirtual 138, 33, 0, 0, []), none],
  [none, some (.goto 5, 36, 38, 0, []), none, none, some (.bipush (-3), 38, 0, (-3), []), none, some (.ireturn, 39, 0, 0, [])]]
def m_X5_dance : MT := ((cd_X5_dance, 5, 0, 0, 1), (yX5_dance, cX5_dance, 3, (some .int)))
def cd_X5_round : List (List (Option Ent)) := [[some (.aload_n 0, 1, 0, 0, []), some (.getfield 21, 4, 0, 0, []), none, none, some (.getfield 57, 7, 0, 0, []), none, none, some (.sipush 999, 10, 0, 999, []), none, none, some (.if_icmp .lt 8, 13, 18, 0, []), none, none, some (.bipush (-3), 15, 0, (-3), []), none, some (.goto 10, 18, 25, 0, [])],
  [none, none, some (.aload_n 0, 19, 0, 0, []), some (.getfield 21, 22, 0, 0, []), none, none, some (.invokevirtual 141, 25, 0, 0, []), none, none, some (.ireturn, 26, 0, 0, [])]]
def m_X5_round : MT := ((cd_X5_round, 5, 0, 0, 1), (yX5_round, cX5_round, 1, (some .int)))
def cd_X5_night : List (List (Option Ent)) := [[some (.aload_n 0, 1, 0, 0, []), some (.getfield 21, 4, 0, 0, []), none, none, some (.getfield 61, 7, 0, 0, []), none, none, some (.sipush 999, 10, 0, 999, []), none, none, some (.if_icmp .lt 8, 13, 18, 0, []), none, none, some (.bipush (-3), 15, 0, (-3), []), none, some (.goto 10, 18, 25, 0, [])],
  [none, none, some (.aload_n 0, 19, 0, 0, []), some (.getfield 21, 22, 0, 0, []), none, none, some (.invokevirtual 145, 25, 0, 0, []), none, none, some (.ireturn, 26, 0, 0, [])]]
def m_X5_night : MT := ((cd_X5_night, 5, 0, 0, 1), (yX5_night, cX5_night, 1, (some .int)))
def cd_X5_strike : List (List (Option Ent)) := [[some (.aload_n 0, 1, 0, 0, []), some (.iload_n 1, 2, 0, 0, []), some (.invokevirtual 148, 5, 0, 0, []), none, none, some (.istore_n 2, 6, 0, 0, []), some (.iload_n 2, 7, 0, 0, []), some (.iconst 2, 8, 0, 2, []), some (.if_icmp .ge 6, 11, 14, 0, []), none, none, some (.bipush (-2), 13, 0, (-2), []), none, some (.ireturn, 14, 0, 0, []), some (.bipush 99, 16, 0, 99, []), none],
  [some (.istore_n 3, 17, 0, 0, []), some (.iconst 0, 18, 0, 0, []), some (.istore 4, 20, 0, 0, []), none, some (.iload 4, 22, 0, 0, []), none, some (.iload_n 2, 23, 0, 0, []), some (.if_icmp .ge 39, 26, 62, 0, []), none, none, some (.iload_n 3, 27, 0, 0, []), some (.aload_n 0, 28, 0, 0, []), some (.getfield 21, 31, 0, 0, []), none, none, some (.aload_n 0, 32, 0, 0, [])],
  [some (.getfield 46, 35, 0, 0, []), none, none, some (.iload 4, 37, 0, 0, []), none, some (.iconst 1, 38, 0, 1, []), some (.iadd, 39, 0, 0, []), some (.iload_n 2, 40, 0, 0, []), some (.irem, 41, 0, 0, []), some (.iaload, 42, 0, 0, []), some (.aload_n 0, 43, 0, 0, []), some (.getfield 46, 46, 0, 0, []), none, none, some (.iload 4, 48, 0, 0, []), none],
  [some (.iaload, 49, 0, 0, []), some (.invokevirtual 103, 52, 0, 0, []), none, none, some (.invokestatic 151, 55, 0, 0, []), none, none, some (.istore_n 3, 56, 0, 0, []), some (.iinc 4 1, 59, 0, 1, []), none, none, some (.goto (-39), 62, 20, 0, []), none, none, some (.iload_n 3, 63, 0, 0, []), some (.ifCond .ne 6, 66, 69, 0, [])],
  [none, none, some (.bipush (-3), 68, 0, (-3), []), none, some (.ireturn, 69, 0, 0, []), some (.iconst 0, 70, 0, 0, []), some (.istore 4, 72, 0, 0, []), none, some (.iload 4, 74, 0, 0, []), none, some (.iload_n 2, 75, 0, 0, []), some (.if_icmp .ge 35, 78, 110, 0, []), none, none, some (.aload_n 0, 79, 0, 0, []), some (.getfield 21, 82, 0, 0, [])],
  [none, none, some (.aload_n 0, 83, 0, 0, []), some (.getfield 46, 86, 0, 0, []), none, none, some (.iload 4, 88, 0, 0, []), none, some (.iconst 1, 89, 0, 1, []), some (.iadd, 90, 0, 0, []), some (.iload_n 2, 91, 0, 0, []), some (.irem, 92, 0, 0, []), some (.iaload, 93, 0, 0, []), some (.aload_n 0, 94, 0, 0, []), some (.getfield 46, 97, 0, 0, []), none],
  [none, some (.iload 4, 99, 0, 0, []), none, some (.iaload, 100, 0, 0, []), some (.iload_n 3, 101, 0, 0, []), some (.invokevirtual 156, 104, 0, 0, []), none, none, some (.iinc 4 1, 107, 0, 1, []), none, none, some (.goto (-35), 110, 72, 0, []), none, none, some (.iload_n 3, 111, 0, 0, []), some (.ireturn, 112, 0, 0, [])]]
def m_X5_strike : MT := ((cd_X5_strike, 5, 0, 0, 1), (yX5_strike, cX5_strike, 5, (some .int)))
def cd_X5_readRing : List (List (Option Ent)) := [[some (.iconst 0, 1, 0, 0, []), some (.istore_n 2, 2, 0, 0, []), some (.iload_n 1, 3, 0, 0, []), some (.istore_n 3, 4, 0, 0, []), some (.iconst 0, 5, 0, 0, []), some (.istore 4, 7, 0, 0, []), none, some (.iload 4, 9, 0, 0, []), none, some (.aload_n 0, 10, 0, 0, []), some (.getfield 46, 13, 0, 0, []), none, none, some (.arraylength, 14, 0, 0, []), some (.if_icmp .ge 63, 17, 77, 0, []), none],
  [none, some (.iload_n 3, 18, 0, 0, []), some (.ifCond .le 59, 21, 77, 0, []), none, none, some (.iload_n 3, 22, 0, 0, []), some (.bipush 10, 24, 0, 10, []), none, some (.irem, 25, 0, 0, []), some (.iconst 1, 26, 0, 1, []), some (.isub, 27, 0, 0, []), some (.istore 5, 29, 0, 0, []), none, some (.aload_n 0, 30, 0, 0, []), some (.iload 5, 32, 0, 0, []), none],
  [some (.invokevirtual 83, 35, 0, 0, []), none, none, some (.ifCond .eq 13, 38, 48, 0, []), none, none, some (.iload_n 2, 39, 0, 0, []), some (.iload 5, 41, 0, 0, []), none, some (.ishr, 42, 0, 0, []), some (.iconst 1, 43, 0, 1, []), some (.iand, 44, 0, 0, []), some (.iconst 1, 45, 0, 1, []), some (.if_icmp .ne 5, 48, 50, 0, []), none, none],
  [some (.iconst 0, 49, 0, 0, []), some (.ireturn, 50, 0, 0, []), some (.aload_n 0, 51, 0, 0, []), some (.getfield 46, 54, 0, 0, []), none, none, some (.iload 4, 56, 0, 0, []), none, some (.iload 5, 58, 0, 0, []), none, some (.iastore, 59, 0, 0, []), some (.iload_n 2, 60, 0, 0, []), some (.iconst 1, 61, 0, 1, []), some (.iload 5, 63, 0, 0, []), none, some (.ishl, 64, 0, 0, [])],
  [some (.ior, 65, 0, 0, []), some (.istore_n 2, 66, 0, 0, []), some (.iload_n 3, 67, 0, 0, []), some (.bipush 10, 69, 0, 10, []), none, some (.idiv, 70, 0, 0, []), some (.istore_n 3, 71, 0, 0, []), some (.iinc 4 1, 74, 0, 1, []), none, none, some (.goto (-67), 77, 7, 0, []), none, none, some (.iload_n 3, 78, 0, 0, []), some (.ifCond .ne 8, 81, 86, 0, []), none],
  [none, some (.iload 4, 83, 0, 0, []), none, some (.goto 4, 86, 87, 0, []), none, none, some (.iconst 0, 87, 0, 0, []), some (.ireturn, 88, 0, 0, [])]]
def m_X5_readRing : MT := ((cd_X5_readRing, 5, 0, 0, 1), (yX5_readRing, cX5_readRing, 6, (some .int)))
def cd_X5_run : List (List (Option Ent)) := [[some (.iload_n 1, 1, 0, 0, []), some (.ifCond .lt 35, 4, 36, 0, []), none, none, some (.iload_n 1, 5, 0, 0, []), some (.bipush 40, 7, 0, 40, []), none, some (.if_icmp .gt 29, 10, 36, 0, []), none, none, some (.iload 4, 12, 0, 0, []), none, some (.ifCond .lt 24, 15, 36, 0, []), none, none, some (.iload 4, 17, 0, 0, [])],
  [none, some (.iconst 2, 18, 0, 2, []), some (.if_icmp .gt 18, 21, 36, 0, []), none, none, some (.iload 4, 23, 0, 0, []), none, some (.iconst 2, 24, 0, 2, []), some (.if_icmp .ne 15, 27, 39, 0, []), none, none, some (.aload_n 0, 28, 0, 0, []), some (.iload_n 2, 29, 0, 0, []), some (.iload_n 3, 30, 0, 0, []), some (.invokevirtual 99, 33, 0, 0, []), none],
  [none, some (.ifCond .ne 6, 36, 39, 0, []), none, none, some (.bipush (-2), 38, 0, (-2), []), none, some (.ireturn, 39, 0, 0, []), some (.aload_n 0, 40, 0, 0, []), some (.invokevirtual 160, 43, 0, 0, []), none, none, some (.astore 5, 45, 0, 0, []), none, some (.iconst 0, 46, 0, 0, []), some (.istore 6, 48, 0, 0, []), none],
  [some (.iload 6, 50, 0, 0, []), none, some (.iload_n 1, 51, 0, 0, []), some (.if_icmp .ge 15, 54, 66, 0, []), none, none, some (.aload 5, 56, 0, 0, []), none, some (.invokevirtual 141, 59, 0, 0, []), none, none, some (.pop, 60, 0, 0, []), some (.iinc 6 1, 63, 0, 1, []), none, none, some (.goto (-15), 66, 48, 0, [])],
  [none, none, some (.iload 4, 68, 0, 0, []), none, some (.lookupswitch 40 #[(0, 28), (1, 34)], 96, 108, 0, [(0, 96), (1, 102)]), none, none, none, none, none, none, none, none, none, none, none],
  [none, none, none, none, none, none, none, none, none, none, none, none, none, none, none, none],
  [some (.aload 5, 98, 0, 0, []), none, some (.invokevirtual 164, 101, 0, 0, []), none, none, some (.ireturn, 102, 0, 0, []), some (.aload 5, 104, 0, 0, []), none, some (.invokevirtual 167, 107, 0, 0, []), none, none, some (.ireturn, 108, 0, 0, []), some (.aload 5, 110, 0, 0, []), none, some (.iload_n 2, 111, 0, 0, []), some (.iload_n 3, 112, 0, 0, [])],
  [some (.invokevirtual 103, 115, 0, 0, []), none, none, some (.ireturn, 116, 0, 0, [])]]
def m_X5_run : MT := ((cd_X5_run, 5, 0, 0, 1), (yX5_run, cX5_run, 7, (some .int)))
def cd_X5_think : List (List (Option Ent)) := [[some (.aload_n 0, 1, 0, 0, []), some (.getfield 28, 4, 0, 0, []), none, none, some (.iconst 0, 5, 0, 0, []), some (.aaload, 6, 0, 0, []), some (.aload_n 0, 7, 0, 0, []), some (.getfield 21, 10, 0, 0, []), none, none, some (.invokevirtual 170, 13, 0, 0, []), none, none, some (.aload_n 0, 14, 0, 0, []), some (.getfield 28, 17, 0, 0, []), none],
  [none, some (.iconst 0, 18, 0, 0, []), some (.aaload, 19, 0, 0, []), some (.areturn, 20, 0, 0, [])]]
def m_X5_think : MT := ((cd_X5_think, 5, 0, 0, 3), (yX5_think, cX5_think, 1, (some (.object "DanceStillOwed$Floor"))))
def cd_X5_best : List (List (Option Ent)) := [[some (.iload_n 1, 1, 0, 0, []), some (.tableswitch 138 0 8 #[51, 66, 88, 93, 101, 106, 114, 122, 130], 52, 139, 0, [(0, 52), (1, 67), (2, 89), (3, 94), (4, 102), (5, 107), (6, 115), (7, 123), (8, 131)]), none, none, none, none, none, none, none, none, none, none, none, none, none, none],
  [none, none, none, none, none, none, none, none, none, none, none, none, none, none, none, none],
  [none, none, none, none, none, none, none, none, none, none, none, none, none, none, none, none],
  [none, none, none, none, some (.aload_n 0, 53, 0, 0, []), some (.getfield 21, 56, 0, 0, []), none, none, some (.invokevirtual 174, 59, 0, 0, []), none, none, some (.aload_n 0, 60, 0, 0, []), some (.getfield 21, 63, 0, 0, []), none, none, some (.invokevirtual 177, 66, 0, 0, [])],
  [none, none, some (.ireturn, 67, 0, 0, []), some (.aload_n 0, 68, 0, 0, []), some (.getfield 21, 71, 0, 0, []), none, none, some (.invokevirtual 174, 74, 0, 0, []), none, none, some (.aload_n 0, 75, 0, 0, []), some (.getfield 21, 78, 0, 0, []), none, none, some (.aload_n 0, 79, 0, 0, []), some (.getfield 21, 82, 0, 0, [])],
  [none, none, some (.invokevirtual 177, 85, 0, 0, []), none, none, some (.invokevirtual 180, 88, 0, 0, []), none, none, some (.ireturn, 89, 0, 0, []), some (.aload_n 0, 90, 0, 0, []), some (.invokevirtual 183, 93, 0, 0, []), none, none, some (.ireturn, 94, 0, 0, []), some (.aload_n 0, 95, 0, 0, []), some (.invokevirtual 160, 98, 0, 0, [])],
  [none, none, some (.invokevirtual 141, 101, 0, 0, []), none, none, some (.ireturn, 102, 0, 0, []), some (.aload_n 0, 103, 0, 0, []), some (.invokevirtual 186, 106, 0, 0, []), none, none, some (.ireturn, 107, 0, 0, []), some (.aload_n 0, 108, 0, 0, []), some (.getfield 21, 111, 0, 0, []), none, none, some (.invokevirtual 189, 114, 0, 0, [])],
  [none, none, some (.ireturn, 115, 0, 0, []), some (.aload_n 0, 116, 0, 0, []), some (.getfield 21, 119, 0, 0, []), none, none, some (.invokevirtual 192, 122, 0, 0, []), none, none, some (.ireturn, 123, 0, 0, []), some (.aload_n 0, 124, 0, 0, []), some (.invokevirtual 160, 127, 0, 0, []), none, none, some (.invokevirtual 194, 130, 0, 0, [])],
  [none, none, some (.ireturn, 131, 0, 0, []), some (.aload_n 0, 132, 0, 0, []), some (.getfield 21, 135, 0, 0, []), none, none, some (.invokevirtual 197, 138, 0, 0, []), none, none, some (.ireturn, 139, 0, 0, []), some (.bipush (-2), 141, 0, (-2), []), none, some (.ireturn, 142, 0, 0, [])]]
def m_X5_best : MT := ((cd_X5_best, 5, 0, 0, 1), (yX5_best, cX5_best, 2, (some .int)))
def cd_X5_share : List (List (Option Ent)) := [[some (.aload_n 0, 1, 0, 0, []), some (.getfield 21, 4, 0, 0, []), none, none, some (.invokevirtual 164, 7, 0, 0, []), none, none, some (.istore_n 3, 8, 0, 0, []), some (.aload_n 0, 9, 0, 0, []), some (.iload_n 1, 10, 0, 0, []), some (.invokevirtual 83, 13, 0, 0, []), none, none, some (.ifCond .eq 16, 16, 29, 0, []), none, none],
  [some (.iload_n 2, 17, 0, 0, []), some (.ifCond .lt 12, 20, 29, 0, []), none, none, some (.iload_n 2, 21, 0, 0, []), some (.iconst 1, 22, 0, 1, []), some (.if_icmp .gt 7, 25, 29, 0, []), none, none, some (.iload_n 3, 26, 0, 0, []), some (.ifCond .ne 7, 29, 33, 0, []), none, none, some (.ldc2_w 200, 32, 0, 0, []), none, none],
  [some (.lreturn, 33, 0, 0, []), some (.aload_n 0, 34, 0, 0, []), some (.getfield 21, 37, 0, 0, []), none, none, some (.iload_n 1, 38, 0, 0, []), some (.invokevirtual 93, 41, 0, 0, []), none, none, some (.iload_n 3, 42, 0, 0, []), some (.iload_n 2, 43, 0, 0, []), some (.invokestatic 202, 46, 0, 0, []), none, none, some (.lreturn, 47, 0, 0, [])]]
def m_X5_share : MT := ((cd_X5_share, 5, 0, 0, 2), (yX5_share, cX5_share, 4, (some .long)))
def cd_X5_sitters : List (List (Option Ent)) := [[some (.aload_n 0, 1, 0, 0, []), some (.invokevirtual 160, 4, 0, 0, []), none, none, some (.astore_n 1, 5, 0, 0, []), some (.aload_n 1, 6, 0, 0, []), some (.invokevirtual 141, 9, 0, 0, []), none, none, some (.pop, 10, 0, 0, []), some (.iconst 1, 11, 0, 1, []), some (.aload_n 1, 12, 0, 0, []), some (.getfield 77, 15, 0, 0, []), none, none, some (.ishl, 16, 0, 0, [])],
  [some (.iconst 1, 17, 0, 1, []), some (.isub, 18, 0, 0, []), some (.aload_n 1, 19, 0, 0, []), some (.getfield 206, 22, 0, 0, []), none, none, some (.iconst (-1), 23, 0, (-1), []), some (.ixor, 24, 0, 0, []), some (.iand, 25, 0, 0, []), some (.ireturn, 26, 0, 0, [])]]
def m_X5_sitters : MT := ((cd_X5_sitters, 5, 0, 0, 1), (yX5_sitters, cX5_sitters, 2, (some .int)))
def cd_X5_soonest : List (List (Option Ent)) := [[some (.aload_n 0, 1, 0, 0, []), some (.invokevirtual 160, 4, 0, 0, []), none, none, some (.pop, 5, 0, 0, []), some (.iconst 0, 6, 0, 0, []), some (.istore_n 1, 7, 0, 0, []), some (.iload_n 1, 8, 0, 0, []), some (.iconst 3, 9, 0, 3, []), some (.if_icmp .gt 20, 12, 29, 0, []), none, none, some (.aload_n 0, 13, 0, 0, []), some (.iconst 0, 14, 0, 0, []), some (.iload_n 1, 15, 0, 0, []), some (.invokevirtual 209, 18, 0, 0, [])],
  [none, none, some (.ifCond .eq 5, 21, 23, 0, []), none, none, some (.iload_n 1, 22, 0, 0, []), some (.ireturn, 23, 0, 0, []), some (.iinc 1 1, 26, 0, 1, []), none, none, some (.goto (-19), 29, 7, 0, []), none, none, some (.iconst (-1), 30, 0, (-1), []), some (.ireturn, 31, 0, 0, [])]]
def m_X5_soonest : MT := ((cd_X5_soonest, 5, 0, 0, 1), (yX5_soonest, cX5_soonest, 2, (some .int)))
def cd_X5_clears : List (List (Option Ent)) := [[some (.aload_n 0, 1, 0, 0, []), some (.getfield 28, 4, 0, 0, []), none, none, some (.iload_n 1, 5, 0, 0, []), some (.aaload, 6, 0, 0, []), some (.astore_n 3, 7, 0, 0, []), some (.aload_n 3, 8, 0, 0, []), some (.invokevirtual 164, 11, 0, 0, []), none, none, some (.istore 4, 13, 0, 0, []), none, some (.iload 4, 15, 0, 0, []), none, some (.ifCond .ne 5, 18, 20, 0, [])],
  [none, none, some (.iconst 1, 19, 0, 1, []), some (.ireturn, 20, 0, 0, []), some (.iload_n 2, 21, 0, 0, []), some (.aload_n 3, 22, 0, 0, []), some (.invokevirtual 212, 25, 0, 0, []), none, none, some (.if_icmp .ge 5, 28, 30, 0, []), none, none, some (.iconst 0, 29, 0, 0, []), some (.ireturn, 30, 0, 0, []), some (.aload_n 3, 31, 0, 0, []), some (.invokevirtual 174, 34, 0, 0, [])],
  [none, none, some (.iload_n 2, 35, 0, 0, []), some (.iconst 1, 36, 0, 1, []), some (.if_icmp .ne 22, 39, 58, 0, []), none, none, some (.aload_n 3, 40, 0, 0, []), some (.aload_n 3, 41, 0, 0, []), some (.invokevirtual 177, 44, 0, 0, []), none, none, some (.invokevirtual 180, 47, 0, 0, []), none, none, some (.iload 4, 49, 0, 0, [])],
  [none, some (.if_icmp .ne 7, 52, 56, 0, []), none, none, some (.iconst 1, 53, 0, 1, []), some (.goto 4, 56, 57, 0, []), none, none, some (.iconst 0, 57, 0, 0, []), some (.ireturn, 58, 0, 0, []), some (.iload_n 1, 59, 0, 0, []), some (.iconst 1, 60, 0, 1, []), some (.iadd, 61, 0, 0, []), some (.aload_n 0, 62, 0, 0, []), some (.getfield 28, 65, 0, 0, []), none],
  [none, some (.arraylength, 66, 0, 0, []), some (.if_icmp .lt 5, 69, 71, 0, []), none, none, some (.iconst 0, 70, 0, 0, []), some (.ireturn, 71, 0, 0, []), some (.aload_n 0, 72, 0, 0, []), some (.getfield 28, 75, 0, 0, []), none, none, some (.iload_n 1, 76, 0, 0, []), some (.iconst 1, 77, 0, 1, []), some (.iadd, 78, 0, 0, []), some (.aaload, 79, 0, 0, []), some (.astore 5, 81, 0, 0, [])],
  [none, some (.iconst 0, 82, 0, 0, []), some (.istore 6, 84, 0, 0, []), none, some (.iload 6, 86, 0, 0, []), none, some (.getstatic 215, 89, 0, 0, []), none, none, some (.arraylength, 90, 0, 0, []), some (.if_icmp .ge 55, 93, 145, 0, []), none, none, some (.aload_n 3, 94, 0, 0, []), some (.getstatic 215, 97, 0, 0, []), none],
  [none, some (.iload 6, 99, 0, 0, []), none, some (.iaload, 100, 0, 0, []), some (.invokevirtual 218, 103, 0, 0, []), none, none, some (.ifCond .eq 36, 106, 139, 0, []), none, none, some (.aload 5, 108, 0, 0, []), none, some (.aload_n 3, 109, 0, 0, []), some (.invokevirtual 170, 112, 0, 0, []), none, none],
  [some (.aload 5, 114, 0, 0, []), none, some (.getstatic 215, 117, 0, 0, []), none, none, some (.iload 6, 119, 0, 0, []), none, some (.iaload, 120, 0, 0, []), some (.aload_n 3, 121, 0, 0, []), some (.invokevirtual 221, 124, 0, 0, []), none, none, some (.aload_n 0, 125, 0, 0, []), some (.iload_n 1, 126, 0, 0, []), some (.iconst 1, 127, 0, 1, []), some (.iadd, 128, 0, 0, [])],
  [some (.iload_n 2, 129, 0, 0, []), some (.iconst 1, 130, 0, 1, []), some (.isub, 131, 0, 0, []), some (.invokevirtual 209, 134, 0, 0, []), none, none, some (.ifCond .eq 5, 137, 139, 0, []), none, none, some (.iconst 1, 138, 0, 1, []), some (.ireturn, 139, 0, 0, []), some (.iinc 6 1, 142, 0, 1, []), none, none, some (.goto (-58), 145, 84, 0, []), none],
  [none, some (.iconst 0, 146, 0, 0, []), some (.ireturn, 147, 0, 0, [])]]
def m_X5_clears : MT := ((cd_X5_clears, 5, 0, 0, 4), (yX5_clears, cX5_clears, 7, (some .boolean)))
def cd_X5_lowest : List (List (Option Ent)) := [[some (.iload_n 1, 1, 0, 0, []), some (.istore_n 3, 2, 0, 0, []), some (.iload_n 0, 3, 0, 0, []), some (.istore 4, 5, 0, 0, []), none, some (.iconst 0, 6, 0, 0, []), some (.istore 5, 8, 0, 0, []), none, some (.iload 5, 10, 0, 0, []), none, some (.bipush 64, 12, 0, 64, []), none, some (.if_icmp .ge 27, 15, 39, 0, []), none, none, some (.iload 4, 17, 0, 0, [])],
  [none, some (.ifCond .eq 22, 20, 39, 0, []), none, none, some (.iload_n 3, 21, 0, 0, []), some (.iload 4, 23, 0, 0, []), none, some (.irem, 24, 0, 0, []), some (.istore 6, 26, 0, 0, []), none, some (.iload 4, 28, 0, 0, []), none, some (.istore_n 3, 29, 0, 0, []), some (.iload 6, 31, 0, 0, []), none, some (.istore 4, 33, 0, 0, [])],
  [none, some (.iinc 5 1, 36, 0, 1, []), none, none, some (.goto (-28), 39, 8, 0, []), none, none, some (.iload_n 2, 40, 0, 0, []), some (.ifCond .ne 7, 43, 47, 0, []), none, none, some (.iload_n 0, 44, 0, 0, []), some (.goto 4, 47, 48, 0, []), none, none, some (.iload_n 1, 48, 0, 0, [])],
  [some (.istore 5, 50, 0, 0, []), none, some (.iload_n 3, 51, 0, 0, []), some (.ifCond .ne 9, 54, 60, 0, []), none, none, some (.iload 5, 56, 0, 0, []), none, some (.i2l, 57, 0, 0, []), some (.goto 8, 60, 65, 0, []), none, none, some (.iload 5, 62, 0, 0, []), none, some (.iload_n 3, 63, 0, 0, []), some (.idiv, 64, 0, 0, [])],
  [some (.i2l, 65, 0, 0, []), some (.lreturn, 66, 0, 0, [])]]
def m_X5_lowest : MT := ((cd_X5_lowest, 5, 0, 0, 2), (yX5_lowest, cX5_lowest, 7, (some .long)))
def cd_X5_tells : List (List (Option Ent)) := [[some (.iload_n 1, 1, 0, 0, []), some (.invokestatic 225, 4, 0, 0, []), none, none, some (.ifCond .eq 24, 7, 28, 0, []), none, none, some (.aload_n 0, 8, 0, 0, []), some (.iload_n 2, 9, 0, 0, []), some (.iload_n 3, 10, 0, 0, []), some (.invokevirtual 99, 13, 0, 0, []), none, none, some (.ifCond .eq 15, 16, 28, 0, []), none, none],
  [some (.iload 4, 18, 0, 0, []), none, some (.ifCond .lt 10, 21, 28, 0, []), none, none, some (.iload 4, 23, 0, 0, []), none, some (.bipush 8, 25, 0, 8, []), none, some (.if_icmp .le 6, 28, 31, 0, []), none, none, some (.bipush (-2), 30, 0, (-2), []), none, some (.ireturn, 31, 0, 0, []), some (.aload_n 0, 32, 0, 0, [])],
  [some (.getfield 42, 35, 0, 0, []), none, none, some (.iload_n 1, 36, 0, 0, []), some (.aaload, 37, 0, 0, []), some (.astore 5, 39, 0, 0, []), none, some (.aload 5, 41, 0, 0, []), none, some (.getfield 228, 44, 0, 0, []), none, none, some (.iconst (-1), 45, 0, (-1), []), some (.if_icmp .ne 6, 48, 51, 0, []), none, none],
  [some (.bipush (-11), 50, 0, (-11), []), none, some (.ireturn, 51, 0, 0, []), some (.aload 5, 53, 0, 0, []), none, some (.getfield 231, 56, 0, 0, []), none, none, some (.bipush 30, 58, 0, 30, []), none, some (.if_icmp .le 6, 61, 64, 0, []), none, none, some (.bipush (-2), 63, 0, (-2), []), none, some (.ireturn, 64, 0, 0, [])],
  [some (.iload 4, 66, 0, 0, []), none, some (.tableswitch 120 0 7 #[46, 57, 65, 73, 73, 92, 92, 112], 112, 186, 0, [(0, 112), (1, 123), (2, 131), (3, 139), (4, 139), (5, 158), (6, 158), (7, 178)]), none, none, none, none, none, none, none, none, none, none, none, none, none],
  [none, none, none, none, none, none, none, none, none, none, none, none, none, none, none, none],
  [none, none, none, none, none, none, none, none, none, none, none, none, none, none, none, none],
  [some (.aload_n 0, 113, 0, 0, []), some (.getfield 21, 116, 0, 0, []), none, none, some (.aload 5, 118, 0, 0, []), none, some (.iload_n 2, 119, 0, 0, []), some (.invokevirtual 232, 122, 0, 0, []), none, none, some (.ireturn, 123, 0, 0, []), some (.aload_n 0, 124, 0, 0, []), some (.aload 5, 126, 0, 0, []), none, some (.iload_n 2, 127, 0, 0, []), some (.invokevirtual 236, 130, 0, 0, [])],
  [none, none, some (.ireturn, 131, 0, 0, []), some (.aload_n 0, 132, 0, 0, []), some (.aload 5, 134, 0, 0, []), none, some (.iload_n 2, 135, 0, 0, []), some (.invokevirtual 239, 138, 0, 0, []), none, none, some (.ireturn, 139, 0, 0, []), some (.aload_n 0, 140, 0, 0, []), some (.aload 5, 142, 0, 0, []), none, some (.iload_n 2, 143, 0, 0, []), some (.iload 4, 145, 0, 0, [])],
  [none, some (.iconst 4, 146, 0, 4, []), some (.if_icmp .ne 7, 149, 153, 0, []), none, none, some (.iconst 1, 150, 0, 1, []), some (.goto 4, 153, 154, 0, []), none, none, some (.iconst 0, 154, 0, 0, []), some (.invokevirtual 242, 157, 0, 0, []), none, none, some (.ireturn, 158, 0, 0, []), some (.aload_n 0, 159, 0, 0, []), some (.aload 5, 161, 0, 0, [])],
  [none, some (.iload_n 2, 162, 0, 0, []), some (.iload 4, 164, 0, 0, []), none, some (.bipush 6, 166, 0, 6, []), none, some (.if_icmp .ne 7, 169, 173, 0, []), none, none, some (.iconst 1, 170, 0, 1, []), some (.goto 4, 173, 174, 0, []), none, none, some (.iconst 0, 174, 0, 0, []), some (.invokevirtual 246, 177, 0, 0, []), none],
  [none, some (.ireturn, 178, 0, 0, []), some (.aload_n 0, 179, 0, 0, []), some (.aload 5, 181, 0, 0, []), none, some (.iload_n 2, 182, 0, 0, []), some (.invokevirtual 249, 185, 0, 0, []), none, none, some (.ireturn, 186, 0, 0, []), some (.aload_n 0, 187, 0, 0, []), some (.aload 5, 189, 0, 0, []), none, some (.iload_n 3, 190, 0, 0, []), some (.invokevirtual 252, 193, 0, 0, []), none],
  [none, some (.ireturn, 194, 0, 0, [])]]
def m_X5_tells : MT := ((cd_X5_tells, 5, 0, 0, 1), (yX5_tells, cX5_tells, 6, (some .int)))
def cd_X5_kindsTold : List (List (Option Ent)) := [[some (.aload_n 0, 1, 0, 0, []), some (.invokevirtual 160, 4, 0, 0, []), none, none, some (.astore_n 3, 5, 0, 0, []), some (.iconst 0, 6, 0, 0, []), some (.istore 4, 8, 0, 0, []), none, some (.iconst 0, 9, 0, 0, []), some (.istore 5, 11, 0, 0, []), none, some (.iload 5, 13, 0, 0, []), none, some (.bipush 6, 15, 0, 6, []), none, some (.if_icmp .ge 35, 18, 50, 0, [])],
  [none, none, some (.aload_n 3, 19, 0, 0, []), some (.getfield 87, 22, 0, 0, []), none, none, some (.iload_n 2, 23, 0, 0, []), some (.iload 5, 25, 0, 0, []), none, some (.iastore, 26, 0, 0, []), some (.aload_n 3, 27, 0, 0, []), some (.aload_n 1, 28, 0, 0, []), some (.iload_n 2, 29, 0, 0, []), some (.invokevirtual 255, 32, 0, 0, []), none, none],
  [some (.ifCond .eq 12, 35, 44, 0, []), none, none, some (.iload 4, 37, 0, 0, []), none, some (.iconst 1, 38, 0, 1, []), some (.iload 5, 40, 0, 0, []), none, some (.ishl, 41, 0, 0, []), some (.ior, 42, 0, 0, []), some (.istore 4, 44, 0, 0, []), none, some (.iinc 5 1, 47, 0, 1, []), none, none, some (.goto (-36), 50, 11, 0, [])],
  [none, none, some (.iload 4, 52, 0, 0, []), none, some (.ireturn, 53, 0, 0, [])]]
def m_X5_kindsTold : MT := ((cd_X5_kindsTold, 5, 0, 0, 1), (yX5_kindsTold, cX5_kindsTold, 6, (some .int)))
def cd_X5_numbersTold : List (List (Option Ent)) := [[some (.aload_n 0, 1, 0, 0, []), some (.invokevirtual 160, 4, 0, 0, []), none, none, some (.astore_n 3, 5, 0, 0, []), some (.iconst 0, 6, 0, 0, []), some (.istore 4, 8, 0, 0, []), none, some (.iconst 0, 9, 0, 0, []), some (.istore 5, 11, 0, 0, []), none, some (.iload 5, 13, 0, 0, []), none, some (.bipush 9, 15, 0, 9, []), none, some (.if_icmp .gt 35, 18, 50, 0, [])],
  [none, none, some (.aload_n 3, 19, 0, 0, []), some (.getfield 64, 22, 0, 0, []), none, none, some (.iload_n 2, 23, 0, 0, []), some (.iload 5, 25, 0, 0, []), none, some (.iastore, 26, 0, 0, []), some (.aload_n 3, 27, 0, 0, []), some (.aload_n 1, 28, 0, 0, []), some (.iload_n 2, 29, 0, 0, []), some (.invokevirtual 255, 32, 0, 0, []), none, none],
  [some (.ifCond .eq 12, 35, 44, 0, []), none, none, some (.iload 4, 37, 0, 0, []), none, some (.iconst 1, 38, 0, 1, []), some (.iload 5, 40, 0, 0, []), none, some (.ishl, 41, 0, 0, []), some (.ior, 42, 0, 0, []), some (.istore 4, 44, 0, 0, []), none, some (.iinc 5 1, 47, 0, 1, []), none, none, some (.goto (-36), 50, 11, 0, [])],
  [none, none, some (.iload 4, 52, 0, 0, []), none, some (.ireturn, 53, 0, 0, [])]]
def m_X5_numbersTold : MT := ((cd_X5_numbersTold, 5, 0, 0, 1), (yX5_numbersTold, cX5_numbersTold, 6, (some .int)))
def cd_X5_roundsTold : List (List (Option Ent)) := [[some (.aload_n 0, 1, 0, 0, []), some (.invokevirtual 160, 4, 0, 0, []), none, none, some (.astore 4, 6, 0, 0, []), none, some (.iconst 0, 7, 0, 0, []), some (.istore 5, 9, 0, 0, []), none, some (.iconst 0, 10, 0, 0, []), some (.istore 6, 12, 0, 0, []), none, some (.iload 6, 14, 0, 0, []), none, some (.bipush 100, 16, 0, 100, []), none],
  [some (.if_icmp .ge 36, 19, 52, 0, []), none, none, some (.aload 4, 21, 0, 0, []), none, some (.iload 6, 23, 0, 0, []), none, some (.putfield 57, 26, 0, 0, []), none, none, some (.aload 4, 28, 0, 0, []), none, some (.aload_n 1, 29, 0, 0, []), some (.iload_n 2, 30, 0, 0, []), some (.invokevirtual 255, 33, 0, 0, []), none],
  [none, some (.ifCond .eq 13, 36, 46, 0, []), none, none, some (.iload_n 3, 37, 0, 0, []), some (.ifCond .eq 6, 40, 43, 0, []), none, none, some (.iload 6, 42, 0, 0, []), none, some (.ireturn, 43, 0, 0, []), some (.iinc 5 1, 46, 0, 1, []), none, none, some (.iinc 6 1, 49, 0, 1, []), none],
  [none, some (.goto (-37), 52, 12, 0, []), none, none, some (.iload_n 3, 53, 0, 0, []), some (.ifCond .eq 7, 56, 60, 0, []), none, none, some (.iconst (-1), 57, 0, (-1), []), some (.goto 5, 60, 62, 0, []), none, none, some (.iload 5, 62, 0, 0, []), none, some (.ireturn, 63, 0, 0, [])]]
def m_X5_roundsTold : MT := ((cd_X5_roundsTold, 5, 0, 0, 1), (yX5_roundsTold, cX5_roundsTold, 7, (some .int)))
def cd_X5_donesTold : List (List (Option Ent)) := [[some (.aload_n 0, 1, 0, 0, []), some (.invokevirtual 160, 4, 0, 0, []), none, none, some (.astore 4, 6, 0, 0, []), none, some (.iconst 0, 7, 0, 0, []), some (.istore 5, 9, 0, 0, []), none, some (.iconst 0, 10, 0, 0, []), some (.istore 6, 12, 0, 0, []), none, some (.iload 6, 14, 0, 0, []), none, some (.bipush 100, 16, 0, 100, []), none],
  [some (.if_icmp .ge 38, 19, 54, 0, []), none, none, some (.aload 4, 21, 0, 0, []), none, some (.getfield 67, 24, 0, 0, []), none, none, some (.iload_n 2, 25, 0, 0, []), some (.iload 6, 27, 0, 0, []), none, some (.iastore, 28, 0, 0, []), some (.aload 4, 30, 0, 0, []), none, some (.aload_n 1, 31, 0, 0, []), some (.iload_n 2, 32, 0, 0, [])],
  [some (.invokevirtual 255, 35, 0, 0, []), none, none, some (.ifCond .eq 13, 38, 48, 0, []), none, none, some (.iload_n 3, 39, 0, 0, []), some (.ifCond .eq 6, 42, 45, 0, []), none, none, some (.iload 6, 44, 0, 0, []), none, some (.ireturn, 45, 0, 0, []), some (.iinc 5 1, 48, 0, 1, []), none, none],
  [some (.iinc 6 1, 51, 0, 1, []), none, none, some (.goto (-39), 54, 12, 0, []), none, none, some (.iload_n 3, 55, 0, 0, []), some (.ifCond .eq 7, 58, 62, 0, []), none, none, some (.iconst (-1), 59, 0, (-1), []), some (.goto 5, 62, 64, 0, []), none, none, some (.iload 5, 64, 0, 0, []), none],
  [some (.ireturn, 65, 0, 0, [])]]
def m_X5_donesTold : MT := ((cd_X5_donesTold, 5, 0, 0, 1), (yX5_donesTold, cX5_donesTold, 7, (some .int)))
def cd_X5_textsTold : List (List (Option Ent)) := [[some (.aload_n 0, 1, 0, 0, []), some (.invokevirtual 160, 4, 0, 0, []), none, none, some (.astore_n 3, 5, 0, 0, []), some (.iconst 0, 6, 0, 0, []), some (.istore 4, 8, 0, 0, []), none, some (.iconst 0, 9, 0, 0, []), some (.istore 5, 11, 0, 0, []), none, some (.iload 5, 13, 0, 0, []), none, some (.aload_n 0, 14, 0, 0, []), some (.getfield 10, 17, 0, 0, []), none],
  [none, some (.getfield 121, 20, 0, 0, []), none, none, some (.if_icmp .ge 33, 23, 53, 0, []), none, none, some (.aload_n 3, 24, 0, 0, []), some (.iload 5, 26, 0, 0, []), none, some (.putfield 135, 29, 0, 0, []), none, none, some (.aload_n 3, 30, 0, 0, []), some (.aload_n 1, 31, 0, 0, []), some (.iload_n 2, 32, 0, 0, [])],
  [some (.invokevirtual 255, 35, 0, 0, []), none, none, some (.ifCond .eq 12, 38, 47, 0, []), none, none, some (.iload 4, 40, 0, 0, []), none, some (.iconst 1, 41, 0, 1, []), some (.iload 5, 43, 0, 0, []), none, some (.ishl, 44, 0, 0, []), some (.ior, 45, 0, 0, []), some (.istore 4, 47, 0, 0, []), none, some (.iinc 5 1, 50, 0, 1, [])],
  [none, none, some (.goto (-39), 53, 11, 0, []), none, none, some (.iload 4, 55, 0, 0, []), none, some (.ireturn, 56, 0, 0, [])]]
def m_X5_textsTold : MT := ((cd_X5_textsTold, 5, 0, 0, 1), (yX5_textsTold, cX5_textsTold, 6, (some .int)))
def cd_X5_dancersTold : List (List (Option Ent)) := [[some (.iconst 0, 1, 0, 0, []), some (.istore_n 3, 2, 0, 0, []), some (.iconst 0, 3, 0, 0, []), some (.istore 4, 5, 0, 0, []), none, some (.iload 4, 7, 0, 0, []), none, some (.aload_n 0, 8, 0, 0, []), some (.getfield 21, 11, 0, 0, []), none, none, some (.getfield 77, 14, 0, 0, []), none, none, some (.if_icmp .ge 35, 17, 49, 0, []), none],
  [none, some (.iload 4, 19, 0, 0, []), none, some (.iload_n 2, 20, 0, 0, []), some (.if_icmp .eq 23, 23, 43, 0, []), none, none, some (.aload_n 0, 24, 0, 0, []), some (.getfield 21, 27, 0, 0, []), none, none, some (.aload_n 1, 28, 0, 0, []), some (.iload 4, 30, 0, 0, []), none, some (.invokevirtual 255, 33, 0, 0, []), none],
  [none, some (.ifCond .eq 10, 36, 43, 0, []), none, none, some (.iload_n 3, 37, 0, 0, []), some (.iconst 1, 38, 0, 1, []), some (.iload 4, 40, 0, 0, []), none, some (.ishl, 41, 0, 0, []), some (.ior, 42, 0, 0, []), some (.istore_n 3, 43, 0, 0, []), some (.iinc 4 1, 46, 0, 1, []), none, none, some (.goto (-41), 49, 5, 0, []), none],
  [none, some (.iload_n 3, 50, 0, 0, []), some (.ireturn, 51, 0, 0, [])]]
def m_X5_dancersTold : MT := ((cd_X5_dancersTold, 5, 0, 0, 1), (yX5_dancersTold, cX5_dancersTold, 5, (some .int)))
def cd_X5_film : List (List (Option Ent)) := [[some (.iload_n 1, 1, 0, 0, []), some (.invokestatic 225, 4, 0, 0, []), none, none, some (.ifCond .eq 24, 7, 28, 0, []), none, none, some (.aload_n 0, 8, 0, 0, []), some (.iload_n 2, 9, 0, 0, []), some (.iload_n 3, 10, 0, 0, []), some (.invokevirtual 99, 13, 0, 0, []), none, none, some (.ifCond .eq 15, 16, 28, 0, []), none, none],
  [some (.iload 4, 18, 0, 0, []), none, some (.ifCond .lt 10, 21, 28, 0, []), none, none, some (.iload 4, 23, 0, 0, []), none, some (.bipush 30, 25, 0, 30, []), none, some (.if_icmp .le 6, 28, 31, 0, []), none, none, some (.bipush (-2), 30, 0, (-2), []), none, some (.ireturn, 31, 0, 0, []), some (.aload_n 0, 32, 0, 0, [])],
  [some (.getfield 42, 35, 0, 0, []), none, none, some (.iload_n 1, 36, 0, 0, []), some (.aaload, 37, 0, 0, []), some (.astore 5, 39, 0, 0, []), none, some (.aload 5, 41, 0, 0, []), none, some (.iconst 0, 42, 0, 0, []), some (.iload 4, 44, 0, 0, []), none, some (.invokevirtual 259, 47, 0, 0, []), none, none, some (.iconst 0, 48, 0, 0, [])],
  [some (.istore 6, 50, 0, 0, []), none, some (.iconst 0, 51, 0, 0, []), some (.istore 7, 53, 0, 0, []), none, some (.iload 7, 55, 0, 0, []), none, some (.iload 4, 57, 0, 0, []), none, some (.if_icmp .ge 37, 60, 94, 0, []), none, none, some (.aload_n 0, 61, 0, 0, []), some (.getfield 21, 64, 0, 0, []), none, none],
  [some (.iload_n 2, 65, 0, 0, []), some (.iload 7, 67, 0, 0, []), none, some (.invokevirtual 106, 70, 0, 0, []), none, none, some (.istore 8, 72, 0, 0, []), none, some (.aload 5, 74, 0, 0, []), none, some (.iload 7, 76, 0, 0, []), none, some (.iload 8, 78, 0, 0, []), none, some (.invokevirtual 263, 81, 0, 0, []), none],
  [none, some (.iload 6, 83, 0, 0, []), none, some (.iload 8, 85, 0, 0, []), none, some (.iadd, 86, 0, 0, []), some (.istore 6, 88, 0, 0, []), none, some (.iinc 7 1, 91, 0, 1, []), none, none, some (.goto (-38), 94, 53, 0, []), none, none, some (.iload 6, 96, 0, 0, []), none],
  [some (.ireturn, 97, 0, 0, [])]]
def m_X5_film : MT := ((cd_X5_film, 5, 0, 0, 1), (yX5_film, cX5_film, 9, (some .int)))
def cd_X5_drawn : List (List (Option Ent)) := [[some (.aload_n 0, 1, 0, 0, []), some (.invokevirtual 160, 4, 0, 0, []), none, none, some (.astore_n 2, 5, 0, 0, []), some (.aload_n 2, 6, 0, 0, []), some (.iload_n 1, 7, 0, 0, []), some (.invokevirtual 266, 10, 0, 0, []), none, none, some (.aload_n 2, 11, 0, 0, []), some (.invokevirtual 194, 14, 0, 0, []), none, none, some (.ireturn, 15, 0, 0, [])]]
def m_X5_drawn : MT := ((cd_X5_drawn, 5, 0, 0, 1), (yX5_drawn, cX5_drawn, 3, (some .int)))
def cd_X5_chance : List (List (Option Ent)) := [[some (.iload_n 2, 1, 0, 0, []), some (.iconst 1, 2, 0, 1, []), some (.if_icmp .lt 30, 5, 32, 0, []), none, none, some (.iload_n 2, 6, 0, 0, []), some (.bipush 10, 8, 0, 10, []), none, some (.if_icmp .gt 24, 11, 32, 0, []), none, none, some (.iload_n 3, 12, 0, 0, []), some (.ifCond .lt 20, 15, 32, 0, []), none, none, some (.iload_n 3, 16, 0, 0, [])],
  [some (.bipush 61, 18, 0, 61, []), none, some (.if_icmp .gt 14, 21, 32, 0, []), none, none, some (.iload 4, 23, 0, 0, []), none, some (.ifCond .lt 9, 26, 32, 0, []), none, none, some (.iload 4, 28, 0, 0, []), none, some (.iconst 1, 29, 0, 1, []), some (.if_icmp .le 7, 32, 36, 0, []), none, none],
  [some (.ldc2_w 200, 35, 0, 0, []), none, none, some (.lreturn, 36, 0, 0, []), some (.iconst 0, 37, 0, 0, []), some (.istore 5, 39, 0, 0, []), none, some (.iconst 0, 40, 0, 0, []), some (.istore 6, 42, 0, 0, []), none, some (.iload 6, 44, 0, 0, []), none, some (.iload_n 2, 45, 0, 0, []), some (.if_icmp .ge 51, 48, 96, 0, []), none, none],
  [some (.aload_n 0, 49, 0, 0, []), some (.invokevirtual 160, 52, 0, 0, []), none, none, some (.astore 7, 54, 0, 0, []), none, some (.aload 7, 56, 0, 0, []), none, some (.iload_n 1, 57, 0, 0, []), some (.iload 6, 59, 0, 0, []), none, some (.iadd, 60, 0, 0, []), some (.invokevirtual 266, 63, 0, 0, []), none, none, some (.aload 7, 65, 0, 0, [])],
  [none, some (.invokevirtual 194, 68, 0, 0, []), none, none, some (.istore 8, 70, 0, 0, []), none, some (.iload 8, 72, 0, 0, []), none, some (.iconst (-1), 73, 0, (-1), []), some (.if_icmp .ne 8, 76, 81, 0, []), none, none, some (.bipush 61, 78, 0, 61, []), none, some (.goto 5, 81, 83, 0, []), none],
  [none, some (.iload 8, 83, 0, 0, []), none, some (.iload_n 3, 84, 0, 0, []), some (.if_icmp .gt 6, 87, 90, 0, []), none, none, some (.iinc 5 1, 90, 0, 1, []), none, none, some (.iinc 6 1, 93, 0, 1, []), none, none, some (.goto (-51), 96, 42, 0, []), none, none],
  [some (.iload 5, 98, 0, 0, []), none, some (.iload_n 2, 99, 0, 0, []), some (.iload 4, 101, 0, 0, []), none, some (.invokestatic 202, 104, 0, 0, []), none, none, some (.lreturn, 105, 0, 0, [])]]
def m_X5_chance : MT := ((cd_X5_chance, 5, 0, 0, 2), (yX5_chance, cX5_chance, 9, (some .long)))
def cd_X5_image : List (List (Option Ent)) := [[some (.aload_n 0, 1, 0, 0, []), some (.getfield 25, 4, 0, 0, []), none, none, some (.aload_n 0, 5, 0, 0, []), some (.getfield 21, 8, 0, 0, []), none, none, some (.invokevirtual 170, 11, 0, 0, []), none, none, some (.aload_n 0, 12, 0, 0, []), some (.iconst 1, 13, 0, 1, []), some (.putfield 270, 16, 0, 0, []), none, none],
  [some (.aload_n 0, 17, 0, 0, []), some (.getfield 25, 20, 0, 0, []), none, none, some (.getfield 77, 23, 0, 0, []), none, none, some (.ireturn, 24, 0, 0, [])]]
def m_X5_image : MT := ((cd_X5_image, 5, 0, 0, 1), (yX5_image, cX5_image, 1, (some .int)))
def cd_X5_back : List (List (Option Ent)) := [[some (.aload_n 0, 1, 0, 0, []), some (.getfield 270, 4, 0, 0, []), none, none, some (.ifCond .ne 6, 7, 10, 0, []), none, none, some (.bipush (-3), 9, 0, (-3), []), none, some (.ireturn, 10, 0, 0, []), some (.aload_n 0, 11, 0, 0, []), some (.getfield 21, 14, 0, 0, []), none, none, some (.aload_n 0, 15, 0, 0, []), some (.getfield 25, 18, 0, 0, [])],
  [none, none, some (.invokevirtual 170, 21, 0, 0, []), none, none, some (.aload_n 0, 22, 0, 0, []), some (.getfield 21, 25, 0, 0, []), none, none, some (.getfield 77, 28, 0, 0, []), none, none, some (.ireturn, 29, 0, 0, [])]]
def m_X5_back : MT := ((cd_X5_back, 5, 0, 0, 1), (yX5_back, cX5_back, 1, (some .int)))
def cd_X5_count : List (List (Option Ent)) := [[some (.iload_n 1, 1, 0, 0, []), some (.tableswitch 87 0 5 #[39, 47, 55, 63, 71, 79], 40, 88, 0, [(0, 40), (1, 48), (2, 56), (3, 64), (4, 72), (5, 80)]), none, none, none, none, none, none, none, none, none, none, none, none, none, none],
  [none, none, none, none, none, none, none, none, none, none, none, none, none, none, none, none],
  [none, none, none, none, none, none, none, none, some (.aload_n 0, 41, 0, 0, []), some (.getfield 21, 44, 0, 0, []), none, none, some (.getfield 77, 47, 0, 0, []), none, none, some (.ireturn, 48, 0, 0, [])],
  [some (.aload_n 0, 49, 0, 0, []), some (.getfield 21, 52, 0, 0, []), none, none, some (.invokevirtual 164, 55, 0, 0, []), none, none, some (.ireturn, 56, 0, 0, []), some (.aload_n 0, 57, 0, 0, []), some (.getfield 21, 60, 0, 0, []), none, none, some (.getfield 57, 63, 0, 0, []), none, none, some (.ireturn, 64, 0, 0, [])],
  [some (.aload_n 0, 65, 0, 0, []), some (.getfield 10, 68, 0, 0, []), none, none, some (.getfield 121, 71, 0, 0, []), none, none, some (.ireturn, 72, 0, 0, []), some (.aload_n 0, 73, 0, 0, []), some (.getfield 35, 76, 0, 0, []), none, none, some (.getfield 118, 79, 0, 0, []), none, none, some (.ireturn, 80, 0, 0, [])],
  [some (.aload_n 0, 81, 0, 0, []), some (.getfield 21, 84, 0, 0, []), none, none, some (.getfield 135, 87, 0, 0, []), none, none, some (.ireturn, 88, 0, 0, []), some (.bipush (-2), 90, 0, (-2), []), none, some (.ireturn, 91, 0, 0, [])]]
def m_X5_count : MT := ((cd_X5_count, 5, 0, 0, 1), (yX5_count, cX5_count, 2, (some .int)))
def cd_X5_sheet : List (List (Option Ent)) := [[some (.iload_n 1, 1, 0, 0, []), some (.invokestatic 225, 4, 0, 0, []), none, none, some (.ifCond .eq 15, 7, 19, 0, []), none, none, some (.iload_n 2, 8, 0, 0, []), some (.iconst (-1), 9, 0, (-1), []), some (.if_icmp .eq 13, 12, 22, 0, []), none, none, some (.iload_n 2, 13, 0, 0, []), some (.invokestatic 274, 16, 0, 0, []), none, none],
  [some (.ifCond .ne 6, 19, 22, 0, []), none, none, some (.bipush (-2), 21, 0, (-2), []), none, some (.ireturn, 22, 0, 0, []), some (.iload_n 2, 23, 0, 0, []), some (.iconst (-1), 24, 0, (-1), []), some (.if_icmp .ne 16, 27, 40, 0, []), none, none, some (.aload_n 0, 28, 0, 0, []), some (.getfield 42, 31, 0, 0, []), none, none, some (.iload_n 1, 32, 0, 0, [])],
  [some (.aaload, 33, 0, 0, []), some (.iconst (-1), 34, 0, (-1), []), some (.iconst 0, 35, 0, 0, []), some (.invokevirtual 259, 38, 0, 0, []), none, none, some (.iconst 1, 39, 0, 1, []), some (.ireturn, 40, 0, 0, []), some (.iload_n 3, 41, 0, 0, []), some (.bipush 40, 43, 0, 40, []), none, some (.if_icmp .le 6, 46, 49, 0, []), none, none, some (.bipush (-2), 48, 0, (-2), []), none],
  [some (.ireturn, 49, 0, 0, []), some (.iload_n 3, 50, 0, 0, []), some (.ifCond .ge 6, 53, 56, 0, []), none, none, some (.bipush (-14), 55, 0, (-14), []), none, some (.ireturn, 56, 0, 0, []), some (.aload_n 0, 57, 0, 0, []), some (.getfield 42, 60, 0, 0, []), none, none, some (.iload_n 1, 61, 0, 0, []), some (.aaload, 62, 0, 0, []), some (.iload_n 2, 63, 0, 0, []), some (.iload_n 3, 64, 0, 0, [])],
  [some (.invokevirtual 259, 67, 0, 0, []), none, none, some (.iconst 1, 68, 0, 1, []), some (.ireturn, 69, 0, 0, [])]]
def m_X5_sheet : MT := ((cd_X5_sheet, 5, 0, 0, 1), (yX5_sheet, cX5_sheet, 4, (some .int)))
def cd_X5_cell : List (List (Option Ent)) := [[some (.iload_n 1, 1, 0, 0, []), some (.invokestatic 225, 4, 0, 0, []), none, none, some (.ifCond .ne 6, 7, 10, 0, []), none, none, some (.bipush (-2), 9, 0, (-2), []), none, some (.ireturn, 10, 0, 0, []), some (.aload_n 0, 11, 0, 0, []), some (.getfield 42, 14, 0, 0, []), none, none, some (.iload_n 1, 15, 0, 0, []), some (.aaload, 16, 0, 0, [])],
  [some (.astore 4, 18, 0, 0, []), none, some (.aload 4, 20, 0, 0, []), none, some (.getfield 228, 23, 0, 0, []), none, none, some (.iconst (-1), 24, 0, (-1), []), some (.if_icmp .ne 6, 27, 30, 0, []), none, none, some (.bipush (-11), 29, 0, (-11), []), none, some (.ireturn, 30, 0, 0, []), some (.aload 4, 32, 0, 0, []), none],
  [some (.iload_n 2, 33, 0, 0, []), some (.iconst 1, 34, 0, 1, []), some (.invokevirtual 277, 37, 0, 0, []), none, none, some (.ifCond .ne 6, 40, 43, 0, []), none, none, some (.bipush (-12), 42, 0, (-12), []), none, some (.ireturn, 43, 0, 0, []), some (.aload 4, 45, 0, 0, []), none, some (.iload_n 2, 46, 0, 0, []), some (.iload_n 3, 47, 0, 0, []), some (.invokevirtual 263, 50, 0, 0, [])],
  [none, none, some (.iconst 1, 51, 0, 1, []), some (.ireturn, 52, 0, 0, [])]]
def m_X5_cell : MT := ((cd_X5_cell, 5, 0, 0, 1), (yX5_cell, cX5_cell, 5, (some .int)))
def cd_X5_copy : List (List (Option Ent)) := [[some (.iload_n 1, 1, 0, 0, []), some (.invokestatic 225, 4, 0, 0, []), none, none, some (.ifCond .eq 10, 7, 14, 0, []), none, none, some (.iload_n 3, 8, 0, 0, []), some (.invokestatic 225, 11, 0, 0, []), none, none, some (.ifCond .ne 6, 14, 17, 0, []), none, none, some (.bipush (-2), 16, 0, (-2), []), none],
  [some (.ireturn, 17, 0, 0, []), some (.aload_n 0, 18, 0, 0, []), some (.getfield 42, 21, 0, 0, []), none, none, some (.iload_n 1, 22, 0, 0, []), some (.aaload, 23, 0, 0, []), some (.astore 6, 25, 0, 0, []), none, some (.aload_n 0, 26, 0, 0, []), some (.getfield 42, 29, 0, 0, []), none, none, some (.iload_n 3, 30, 0, 0, []), some (.aaload, 31, 0, 0, []), some (.astore 7, 33, 0, 0, [])],
  [none, some (.aload 6, 35, 0, 0, []), none, some (.getfield 228, 38, 0, 0, []), none, none, some (.iconst (-1), 39, 0, (-1), []), some (.if_icmp .eq 12, 42, 51, 0, []), none, none, some (.aload 7, 44, 0, 0, []), none, some (.getfield 228, 47, 0, 0, []), none, none, some (.iconst (-1), 48, 0, (-1), [])],
  [some (.if_icmp .ne 6, 51, 54, 0, []), none, none, some (.bipush (-11), 53, 0, (-11), []), none, some (.ireturn, 54, 0, 0, []), some (.aload 6, 56, 0, 0, []), none, some (.getfield 228, 59, 0, 0, []), none, none, some (.aload 7, 61, 0, 0, []), none, some (.getfield 228, 64, 0, 0, []), none, none],
  [some (.if_icmp .eq 6, 67, 70, 0, []), none, none, some (.bipush (-13), 69, 0, (-13), []), none, some (.ireturn, 70, 0, 0, []), some (.aload 6, 72, 0, 0, []), none, some (.iload_n 2, 73, 0, 0, []), some (.iload 5, 75, 0, 0, []), none, some (.invokevirtual 277, 78, 0, 0, []), none, none, some (.ifCond .eq 15, 81, 93, 0, []), none],
  [none, some (.aload 7, 83, 0, 0, []), none, some (.iload 4, 85, 0, 0, []), none, some (.iload 5, 87, 0, 0, []), none, some (.invokevirtual 277, 90, 0, 0, []), none, none, some (.ifCond .ne 6, 93, 96, 0, []), none, none, some (.bipush (-12), 95, 0, (-12), []), none, some (.ireturn, 96, 0, 0, [])],
  [some (.aload 6, 98, 0, 0, []), none, some (.getfield 280, 101, 0, 0, []), none, none, some (.iload_n 2, 102, 0, 0, []), some (.aload 7, 104, 0, 0, []), none, some (.getfield 280, 107, 0, 0, []), none, none, some (.iload 4, 109, 0, 0, []), none, some (.iload 5, 111, 0, 0, []), none, some (.invokestatic 283, 114, 0, 0, [])],
  [none, none, some (.iload 5, 116, 0, 0, []), none, some (.ireturn, 117, 0, 0, [])]]
def m_X5_copy : MT := ((cd_X5_copy, 5, 0, 0, 1), (yX5_copy, cX5_copy, 8, (some .int)))
def cd_X5_room : List (List (Option Ent)) := [[some (.iload_n 1, 1, 0, 0, []), some (.invokestatic 225, 4, 0, 0, []), none, none, some (.ifCond .eq 21, 7, 25, 0, []), none, none, some (.iload_n 2, 8, 0, 0, []), some (.invokestatic 274, 11, 0, 0, []), none, none, some (.ifCond .eq 14, 14, 25, 0, []), none, none, some (.iload 4, 16, 0, 0, []), none],
  [some (.ifCond .lt 9, 19, 25, 0, []), none, none, some (.iload 4, 21, 0, 0, []), none, some (.iconst 5, 22, 0, 5, []), some (.if_icmp .le 6, 25, 28, 0, []), none, none, some (.bipush (-2), 27, 0, (-2), []), none, some (.ireturn, 28, 0, 0, []), some (.aload_n 0, 29, 0, 0, []), some (.getfield 42, 32, 0, 0, []), none, none],
  [some (.iload_n 1, 33, 0, 0, []), some (.aaload, 34, 0, 0, []), some (.astore 5, 36, 0, 0, []), none, some (.aload 5, 38, 0, 0, []), none, some (.getfield 228, 41, 0, 0, []), none, none, some (.iconst (-1), 42, 0, (-1), []), some (.if_icmp .ne 6, 45, 48, 0, []), none, none, some (.bipush (-11), 47, 0, (-11), []), none, some (.ireturn, 48, 0, 0, [])],
  [some (.aload 5, 50, 0, 0, []), none, some (.getfield 228, 53, 0, 0, []), none, none, some (.iload_n 2, 54, 0, 0, []), some (.if_icmp .eq 6, 57, 60, 0, []), none, none, some (.bipush (-13), 59, 0, (-13), []), none, some (.ireturn, 60, 0, 0, []), some (.iconst 0, 61, 0, 0, []), some (.istore 6, 63, 0, 0, []), none, some (.iconst 0, 64, 0, 0, [])],
  [some (.istore 7, 66, 0, 0, []), none, some (.iload 7, 68, 0, 0, []), none, some (.iload 4, 70, 0, 0, []), none, some (.if_icmp .ge 59, 73, 129, 0, []), none, none, some (.iload_n 3, 74, 0, 0, []), some (.iconst 2, 75, 0, 2, []), some (.iload 7, 77, 0, 0, []), none, some (.imul, 78, 0, 0, []), some (.iadd, 79, 0, 0, []), some (.istore 8, 81, 0, 0, [])],
  [none, some (.aload 5, 83, 0, 0, []), none, some (.iload 8, 85, 0, 0, []), none, some (.iconst 2, 86, 0, 2, []), some (.invokevirtual 277, 89, 0, 0, []), none, none, some (.ifCond .ne 6, 92, 95, 0, []), none, none, some (.bipush (-12), 94, 0, (-12), []), none, some (.ireturn, 95, 0, 0, []), some (.aload_n 0, 96, 0, 0, [])],
  [some (.aload 5, 98, 0, 0, []), none, some (.getfield 280, 101, 0, 0, []), none, none, some (.iload 8, 103, 0, 0, []), none, some (.iaload, 104, 0, 0, []), some (.aload 5, 106, 0, 0, []), none, some (.getfield 280, 109, 0, 0, []), none, none, some (.iload 8, 111, 0, 0, []), none, some (.iconst 1, 112, 0, 1, [])],
  [some (.iadd, 113, 0, 0, []), some (.iaload, 114, 0, 0, []), some (.invokevirtual 289, 117, 0, 0, []), none, none, some (.ifCond .lt 6, 120, 123, 0, []), none, none, some (.iinc 6 1, 123, 0, 1, []), none, none, some (.iinc 7 1, 126, 0, 1, []), none, none, some (.goto (-60), 129, 66, 0, []), none],
  [none, some (.iload 6, 131, 0, 0, []), none, some (.ireturn, 132, 0, 0, [])]]
def m_X5_room : MT := ((cd_X5_room, 5, 0, 0, 1), (yX5_room, cX5_room, 9, (some .int)))
def cd_X5_taken : List (List (Option Ent)) := [[some (.iload_n 2, 1, 0, 0, []), some (.ifCond .lt 9, 4, 10, 0, []), none, none, some (.iload_n 2, 5, 0, 0, []), some (.bipush 6, 7, 0, 6, []), none, some (.if_icmp .lt 6, 10, 13, 0, []), none, none, some (.bipush (-2), 12, 0, (-2), []), none, some (.ireturn, 13, 0, 0, []), some (.aload_n 0, 14, 0, 0, []), some (.iload_n 1, 15, 0, 0, []), some (.invokevirtual 83, 18, 0, 0, [])],
  [none, none, some (.ifCond .ne 6, 21, 24, 0, []), none, none, some (.bipush (-11), 23, 0, (-11), []), none, some (.ireturn, 24, 0, 0, []), some (.aload_n 0, 25, 0, 0, []), some (.getfield 21, 28, 0, 0, []), none, none, some (.getfield 87, 31, 0, 0, []), none, none, some (.iload_n 1, 32, 0, 0, [])],
  [some (.iaload, 33, 0, 0, []), some (.istore_n 3, 34, 0, 0, []), some (.iconst 0, 35, 0, 0, []), some (.istore 4, 37, 0, 0, []), none, some (.iload 4, 39, 0, 0, []), none, some (.bipush 6, 41, 0, 6, []), none, some (.if_icmp .ge 34, 44, 75, 0, []), none, none, some (.iload_n 3, 45, 0, 0, []), some (.ifCond .lt 30, 48, 75, 0, []), none, none],
  [some (.iload_n 3, 49, 0, 0, []), some (.iload_n 2, 50, 0, 0, []), some (.if_icmp .ne 13, 53, 63, 0, []), none, none, some (.aload_n 0, 54, 0, 0, []), some (.getfield 21, 57, 0, 0, []), none, none, some (.getfield 64, 60, 0, 0, []), none, none, some (.iload_n 1, 61, 0, 0, []), some (.iaload, 62, 0, 0, []), some (.ireturn, 63, 0, 0, []), some (.getstatic 292, 66, 0, 0, [])],
  [none, none, some (.iload_n 3, 67, 0, 0, []), some (.iaload, 68, 0, 0, []), some (.istore_n 3, 69, 0, 0, []), some (.iinc 4 1, 72, 0, 1, []), none, none, some (.goto (-35), 75, 37, 0, []), none, none, some (.bipush (-13), 77, 0, (-13), []), none, some (.ireturn, 78, 0, 0, [])]]
def m_X5_taken : MT := ((cd_X5_taken, 5, 0, 0, 1), (yX5_taken, cX5_taken, 5, (some .int)))
def cd_X5_isSheet : List (List (Option Ent)) := [[some (.iload_n 0, 1, 0, 0, []), some (.ifCond .lt 12, 4, 13, 0, []), none, none, some (.iload_n 0, 5, 0, 0, []), some (.iconst 4, 6, 0, 4, []), some (.if_icmp .ge 7, 9, 13, 0, []), none, none, some (.iconst 1, 10, 0, 1, []), some (.goto 4, 13, 14, 0, []), none, none, some (.iconst 0, 14, 0, 0, []), some (.ireturn, 15, 0, 0, [])]]
def m_X5_isSheet : MT := ((cd_X5_isSheet, 5, 0, 0, 4), (yX5_isSheet, cX5_isSheet, 1, (some .boolean)))
def cd_X5_isSort : List (List (Option Ent)) := [[some (.iload_n 0, 1, 0, 0, []), some (.ifCond .lt 12, 4, 13, 0, []), none, none, some (.iload_n 0, 5, 0, 0, []), some (.iconst 2, 6, 0, 2, []), some (.if_icmp .gt 7, 9, 13, 0, []), none, none, some (.iconst 1, 10, 0, 1, []), some (.goto 4, 13, 14, 0, []), none, none, some (.iconst 0, 14, 0, 0, []), some (.ireturn, 15, 0, 0, [])]]
def m_X5_isSort : MT := ((cd_X5_isSort, 5, 0, 0, 4), (yX5_isSort, cX5_isSort, 1, (some .boolean)))
def cd_X5_within : List (List (Option Ent)) := [[some (.iload_n 0, 1, 0, 0, []), some (.ifCond .ge 7, 4, 8, 0, []), none, none, some (.iconst 0, 5, 0, 0, []), some (.goto 13, 8, 18, 0, []), none, none, some (.iload_n 0, 9, 0, 0, []), some (.iload_n 1, 10, 0, 0, []), some (.if_icmp .le 7, 13, 17, 0, []), none, none, some (.iload_n 1, 14, 0, 0, []), some (.goto 4, 17, 18, 0, []), none],
  [none, some (.iload_n 0, 18, 0, 0, []), some (.ireturn, 19, 0, 0, [])]]
def m_X5_within : MT := ((cd_X5_within, 5, 0, 0, 1), (yX5_within, cX5_within, 2, (some .int)))
def cd_X6_in : List (List (Option Ent)) := [[some (.lload_n 0, 1, 0, 0, []), some (.lload_n 2, 2, 0, 0, []), some (.lcmp, 3, 0, 0, []), some (.ifCond .lt 14, 6, 17, 0, []), none, none, some (.lload_n 0, 7, 0, 0, []), some (.lload 4, 9, 0, 0, []), none, some (.lcmp, 10, 0, 0, []), some (.ifCond .gt 7, 13, 17, 0, []), none, none, some (.iconst 1, 14, 0, 1, []), some (.goto 4, 17, 18, 0, []), none],
  [none, some (.iconst 0, 18, 0, 0, []), some (.ireturn, 19, 0, 0, [])]]
def m_X6_in : MT := ((cd_X6_in, 6, 0, 0, 4), (yX6_in, cX6_in, 6, (some .boolean)))
def cd_X6_within : List (List (Option Ent)) := [[some (.iload_n 0, 1, 0, 0, []), some (.iload_n 1, 2, 0, 0, []), some (.if_icmp .ge 7, 5, 9, 0, []), none, none, some (.iload_n 1, 6, 0, 0, []), some (.goto 13, 9, 19, 0, []), none, none, some (.iload_n 0, 10, 0, 0, []), some (.iload_n 2, 11, 0, 0, []), some (.if_icmp .le 7, 14, 18, 0, []), none, none, some (.iload_n 2, 15, 0, 0, []), some (.goto 4, 18, 19, 0, [])],
  [none, none, some (.iload_n 0, 19, 0, 0, []), some (.ireturn, 20, 0, 0, [])]]
def m_X6_within : MT := ((cd_X6_within, 6, 0, 0, 1), (yX6_within, cX6_within, 3, (some .int)))
def cd_X6_init : List (List (Option Ent)) := [[some (.aload_n 0, 1, 0, 0, []), some (.invokespecial 7, 4, 0, 0, []), none, none, some (.aload_n 0, 5, 0, 0, []), some (.sipush 960, 8, 0, 960, []), none, none, some (.newarray .int, 10, 0, 0, []), none, some (.putfield 13, 13, 0, 0, []), none, none, some (.aload_n 0, 14, 0, 0, []), some (.bipush 6, 16, 0, 6, []), none],
  [some (.newarray .int, 18, 0, 0, []), none, some (.putfield 17, 21, 0, 0, []), none, none, some (.aload_n 0, 22, 0, 0, []), some (.sipush 160, 25, 0, 160, []), none, none, some (.newarray .int, 27, 0, 0, []), none, some (.putfield 20, 30, 0, 0, []), none, none, some (.aload_n 0, 31, 0, 0, []), some (.iconst 5, 32, 0, 5, [])],
  [some (.newarray .int, 34, 0, 0, []), none, some (.putfield 23, 37, 0, 0, []), none, none, some (.aload_n 0, 38, 0, 0, []), some (.bipush 10, 40, 0, 10, []), none, some (.newarray .int, 42, 0, 0, []), none, some (.putfield 26, 45, 0, 0, []), none, none, some (.aload_n 0, 46, 0, 0, []), some (.bipush 25, 48, 0, 25, []), none],
  [some (.newarray .int, 50, 0, 0, []), none, some (.putfield 29, 53, 0, 0, []), none, none, some (.aload_n 0, 54, 0, 0, []), some (.bipush 26, 56, 0, 26, []), none, some (.newarray .int, 58, 0, 0, []), none, some (.putfield 32, 61, 0, 0, []), none, none, some (.aload_n 0, 62, 0, 0, []), some (.iconst 5, 63, 0, 5, []), some (.newarray .int, 65, 0, 0, [])],
  [none, some (.putfield 35, 68, 0, 0, []), none, none, some (.aload_n 0, 69, 0, 0, []), some (.bipush 37, 71, 0, 37, []), none, some (.newarray .int, 73, 0, 0, []), none, some (.putfield 38, 76, 0, 0, []), none, none, some (.aload_n 0, 77, 0, 0, []), some (.bipush 100, 79, 0, 100, []), none, some (.newarray .int, 81, 0, 0, [])],
  [none, some (.putfield 41, 84, 0, 0, []), none, none, some (.aload_n 0, 85, 0, 0, []), some (.bipush 40, 87, 0, 40, []), none, some (.newarray .int, 89, 0, 0, []), none, some (.putfield 44, 92, 0, 0, []), none, none, some (.aload_n 0, 93, 0, 0, []), some (.bipush 25, 95, 0, 25, []), none, some (.newarray .int, 97, 0, 0, [])],
  [none, some (.putfield 47, 100, 0, 0, []), none, none, some (.aload_n 0, 101, 0, 0, []), some (.bipush 25, 103, 0, 25, []), none, some (.newarray .int, 105, 0, 0, []), none, some (.putfield 50, 108, 0, 0, []), none, none, some (.aload_n 0, 109, 0, 0, []), some (.bipush 10, 111, 0, 10, []), none, some (.newarray .int, 113, 0, 0, [])],
  [none, some (.putfield 53, 116, 0, 0, []), none, none, some (.aload_n 0, 117, 0, 0, []), some (.iconst (-1), 118, 0, (-1), []), some (.putfield 56, 121, 0, 0, []), none, none, some (.aload_n 0, 122, 0, 0, []), some (.iconst 4, 123, 0, 4, []), some (.newarray .boolean, 125, 0, 0, []), none, some (.putfield 59, 128, 0, 0, []), none, none],
  [some (.aload_n 0, 129, 0, 0, []), some (.iconst 4, 130, 0, 4, []), some (.newarray .int, 132, 0, 0, []), none, some (.putfield 63, 135, 0, 0, []), none, none, some (.aload_n 0, 136, 0, 0, []), some (.iconst 4, 137, 0, 4, []), some (.newarray .int, 139, 0, 0, []), none, some (.putfield 66, 142, 0, 0, []), none, none, some (.aload_n 0, 143, 0, 0, []), some (.sipush 160, 146, 0, 160, [])],
  [none, none, some (.newarray .int, 148, 0, 0, []), none, some (.putfield 69, 151, 0, 0, []), none, none, some (.iconst 0, 152, 0, 0, []), some (.istore_n 1, 153, 0, 0, []), some (.iconst 0, 154, 0, 0, []), some (.istore_n 2, 155, 0, 0, []), some (.iload_n 2, 156, 0, 0, []), some (.sipush 1024, 159, 0, 1024, []), none, none, some (.if_icmp .ge 26, 162, 185, 0, [])],
  [none, none, some (.iload_n 2, 163, 0, 0, []), some (.invokestatic 72, 166, 0, 0, []), none, none, some (.ifCond .eq 13, 169, 179, 0, []), none, none, some (.aload_n 0, 170, 0, 0, []), some (.getfield 32, 173, 0, 0, []), none, none, some (.iload_n 1, 174, 0, 0, []), some (.iload_n 2, 175, 0, 0, []), some (.iastore, 176, 0, 0, [])],
  [some (.iinc 1 1, 179, 0, 1, []), none, none, some (.iinc 2 1, 182, 0, 1, []), none, none, some (.goto (-27), 185, 155, 0, []), none, none, some (.aload_n 0, 186, 0, 0, []), some (.iconst 0, 187, 0, 0, []), some (.bipush 112, 189, 0, 112, []), none, some (.bipush 97, 191, 0, 97, []), none, some (.bipush 121, 193, 0, 121, [])],
  [none, some (.bipush 115, 195, 0, 115, []), none, some (.bipush 32, 197, 0, 32, []), none, some (.bipush 49, 199, 0, 49, []), none, some (.bipush 32, 201, 0, 32, []), none, some (.bipush 59, 203, 0, 59, []), none, some (.invokevirtual 76, 206, 0, 0, []), none, none, some (.aload_n 0, 207, 0, 0, []), some (.bipush 8, 209, 0, 8, [])],
  [none, some (.bipush 32, 211, 0, 32, []), none, some (.bipush 119, 213, 0, 119, []), none, some (.bipush 105, 215, 0, 105, []), none, some (.bipush 108, 217, 0, 108, []), none, some (.bipush 108, 219, 0, 108, []), none, some (.bipush 115, 221, 0, 115, []), none, some (.bipush 32, 223, 0, 32, []), none, some (.bipush 49, 225, 0, 49, [])],
  [none, some (.invokevirtual 76, 228, 0, 0, []), none, none, some (.aload_n 0, 229, 0, 0, []), some (.bipush 16, 231, 0, 16, []), none, some (.bipush 32, 233, 0, 32, []), none, some (.bipush 59, 235, 0, 59, []), none, some (.bipush 32, 237, 0, 32, []), none, some (.bipush 98, 239, 0, 98, []), none, some (.bipush 114, 241, 0, 114, [])],
  [none, some (.bipush 101, 243, 0, 101, []), none, some (.bipush 97, 245, 0, 97, []), none, some (.bipush 116, 247, 0, 116, []), none, some (.invokevirtual 76, 250, 0, 0, []), none, none, some (.aload_n 0, 251, 0, 0, []), some (.bipush 24, 253, 0, 24, []), none, some (.bipush 104, 255, 0, 104, []), none, some (.bipush 32, 257, 0, 32, [])],
  [none, some (.bipush 52, 259, 0, 52, []), none, some (.bipush 32, 261, 0, 32, []), none, some (.bipush 59, 263, 0, 59, []), none, some (.bipush 32, 265, 0, 32, []), none, some (.bipush 32, 267, 0, 32, []), none, some (.bipush 32, 269, 0, 32, []), none, some (.invokevirtual 76, 272, 0, 0, []), none, none],
  [some (.aload_n 0, 273, 0, 0, []), some (.getfield 17, 276, 0, 0, []), none, none, some (.iconst 0, 277, 0, 0, []), some (.bipush 32, 279, 0, 32, []), none, some (.iastore, 280, 0, 0, []), some (.aload_n 0, 281, 0, 0, []), some (.iconst 1, 282, 0, 1, []), some (.putfield 80, 285, 0, 0, []), none, none, some (.return_, 286, 0, 0, [])]]
def m_X6_init : MT := ((cd_X6_init, 6, 18, 1606, 0), (yX6_init, cX6_init, 3, none))
def cd_X6_spell : List (List (Option Ent)) := [[some (.aload_n 0, 1, 0, 0, []), some (.getfield 13, 4, 0, 0, []), none, none, some (.iload_n 1, 5, 0, 0, []), some (.iload_n 2, 6, 0, 0, []), some (.iastore, 7, 0, 0, []), some (.aload_n 0, 8, 0, 0, []), some (.getfield 13, 11, 0, 0, []), none, none, some (.iload_n 1, 12, 0, 0, []), some (.iconst 1, 13, 0, 1, []), some (.iadd, 14, 0, 0, []), some (.iload_n 3, 15, 0, 0, []), some (.iastore, 16, 0, 0, [])],
  [some (.aload_n 0, 17, 0, 0, []), some (.getfield 13, 20, 0, 0, []), none, none, some (.iload_n 1, 21, 0, 0, []), some (.iconst 2, 22, 0, 2, []), some (.iadd, 23, 0, 0, []), some (.iload 4, 25, 0, 0, []), none, some (.iastore, 26, 0, 0, []), some (.aload_n 0, 27, 0, 0, []), some (.getfield 13, 30, 0, 0, []), none, none, some (.iload_n 1, 31, 0, 0, []), some (.iconst 3, 32, 0, 3, [])],
  [some (.iadd, 33, 0, 0, []), some (.iload 5, 35, 0, 0, []), none, some (.iastore, 36, 0, 0, []), some (.aload_n 0, 37, 0, 0, []), some (.getfield 13, 40, 0, 0, []), none, none, some (.iload_n 1, 41, 0, 0, []), some (.iconst 4, 42, 0, 4, []), some (.iadd, 43, 0, 0, []), some (.iload 6, 45, 0, 0, []), none, some (.iastore, 46, 0, 0, []), some (.aload_n 0, 47, 0, 0, []), some (.getfield 13, 50, 0, 0, [])],
  [none, none, some (.iload_n 1, 51, 0, 0, []), some (.iconst 5, 52, 0, 5, []), some (.iadd, 53, 0, 0, []), some (.iload 7, 55, 0, 0, []), none, some (.iastore, 56, 0, 0, []), some (.aload_n 0, 57, 0, 0, []), some (.getfield 13, 60, 0, 0, []), none, none, some (.iload_n 1, 61, 0, 0, []), some (.bipush 6, 63, 0, 6, []), none, some (.iadd, 64, 0, 0, [])],
  [some (.iload 8, 66, 0, 0, []), none, some (.iastore, 67, 0, 0, []), some (.aload_n 0, 68, 0, 0, []), some (.getfield 13, 71, 0, 0, []), none, none, some (.iload_n 1, 72, 0, 0, []), some (.bipush 7, 74, 0, 7, []), none, some (.iadd, 75, 0, 0, []), some (.iload 9, 77, 0, 0, []), none, some (.iastore, 78, 0, 0, []), some (.return_, 79, 0, 0, [])]]
def m_X6_spell : MT := ((cd_X6_spell, 6, 0, 0, 0), (yX6_spell, cX6_spell, 10, none))
def cd_X6_isOne : List (List (Option Ent)) := [[some (.iload_n 1, 1, 0, 0, []), some (.i2l, 2, 0, 0, []), some (.lconst 0, 3, 0, 0, []), some (.aload_n 0, 4, 0, 0, []), some (.getfield 83, 7, 0, 0, []), none, none, some (.iconst 1, 8, 0, 1, []), some (.isub, 9, 0, 0, []), some (.i2l, 10, 0, 0, []), some (.invokestatic 86, 13, 0, 0, []), none, none, some (.ireturn, 14, 0, 0, [])]]
def m_X6_isOne : MT := ((cd_X6_isOne, 6, 0, 0, 4), (yX6_isOne, cX6_isOne, 2, (some .boolean)))
def cd_X6_areTwo : List (List (Option Ent)) := [[some (.aload_n 0, 1, 0, 0, []), some (.iload_n 1, 2, 0, 0, []), some (.invokevirtual 90, 5, 0, 0, []), none, none, some (.ifCond .eq 20, 8, 25, 0, []), none, none, some (.aload_n 0, 9, 0, 0, []), some (.iload_n 2, 10, 0, 0, []), some (.invokevirtual 90, 13, 0, 0, []), none, none, some (.ifCond .eq 12, 16, 25, 0, []), none, none],
  [some (.iload_n 1, 17, 0, 0, []), some (.iload_n 2, 18, 0, 0, []), some (.if_icmp .eq 7, 21, 25, 0, []), none, none, some (.iconst 1, 22, 0, 1, []), some (.goto 4, 25, 26, 0, []), none, none, some (.iconst 0, 26, 0, 0, []), some (.ireturn, 27, 0, 0, [])]]
def m_X6_areTwo : MT := ((cd_X6_areTwo, 6, 0, 0, 4), (yX6_areTwo, cX6_areTwo, 3, (some .boolean)))
def cd_X6_isOf : List (List (Option Ent)) := [[some (.iload_n 1, 1, 0, 0, []), some (.iconst 2, 2, 0, 2, []), some (.if_icmp .lt 38, 5, 40, 0, []), none, none, some (.iload_n 1, 6, 0, 0, []), some (.iconst 4, 7, 0, 4, []), some (.if_icmp .ne 25, 10, 32, 0, []), none, none, some (.iload_n 2, 11, 0, 0, []), some (.ifCond .lt 33, 14, 44, 0, []), none, none, some (.aload_n 0, 15, 0, 0, []), some (.iload_n 2, 16, 0, 0, [])],
  [some (.bipush 10, 18, 0, 10, []), none, some (.idiv, 19, 0, 0, []), some (.iload_n 2, 20, 0, 0, []), some (.bipush 10, 22, 0, 10, []), none, some (.irem, 23, 0, 0, []), some (.invokevirtual 93, 26, 0, 0, []), none, none, some (.ifCond .eq 18, 29, 44, 0, []), none, none, some (.goto 11, 32, 40, 0, []), none, none],
  [some (.aload_n 0, 33, 0, 0, []), some (.iload_n 2, 34, 0, 0, []), some (.invokevirtual 90, 37, 0, 0, []), none, none, some (.ifCond .eq 7, 40, 44, 0, []), none, none, some (.iconst 1, 41, 0, 1, []), some (.goto 4, 44, 45, 0, []), none, none, some (.iconst 0, 45, 0, 0, []), some (.ireturn, 46, 0, 0, [])]]
def m_X6_isOf : MT := ((cd_X6_isOf, 6, 0, 0, 4), (yX6_isOf, cX6_isOf, 3, (some .boolean)))
def cd_X6_placeOf : List (List (Option Ent)) := [[some (.iconst 5, 1, 0, 5, []), some (.iload_n 0, 2, 0, 0, []), some (.bipush 10, 4, 0, 10, []), none, some (.idiv, 5, 0, 0, []), some (.imul, 6, 0, 0, []), some (.iload_n 0, 7, 0, 0, []), some (.bipush 10, 9, 0, 10, []), none, some (.irem, 10, 0, 0, []), some (.iadd, 11, 0, 0, []), some (.ireturn, 12, 0, 0, [])]]
def m_X6_placeOf : MT := ((cd_X6_placeOf, 6, 0, 0, 1), (yX6_placeOf, cX6_placeOf, 1, (some .int)))
def cd_X6_mostOf : List (List (Option Ent)) := [[some (.iload_n 0, 1, 0, 0, []), some (.iconst 2, 2, 0, 2, []), some (.if_icmp .ge 9, 5, 11, 0, []), none, none, some (.sipush 999, 8, 0, 999, []), none, none, some (.goto 15, 11, 23, 0, []), none, none, some (.iload_n 0, 12, 0, 0, []), some (.iconst 2, 13, 0, 2, []), some (.if_icmp .ne 8, 16, 21, 0, []), none, none],
  [some (.bipush 9, 18, 0, 9, []), none, some (.goto 5, 21, 23, 0, []), none, none, some (.bipush 99, 23, 0, 99, []), none, some (.ireturn, 24, 0, 0, [])]]
def m_X6_mostOf : MT := ((cd_X6_mostOf, 6, 0, 0, 1), (yX6_mostOf, cX6_mostOf, 1, (some .int)))
def cd_X6_set : List (List (Option Ent)) := [[some (.iload_n 1, 1, 0, 0, []), some (.i2l, 2, 0, 0, []), some (.lconst 0, 3, 0, 0, []), some (.ldc2_w 97, 6, 0, 0, []), none, none, some (.invokestatic 86, 9, 0, 0, []), none, none, some (.ifCond .eq 26, 12, 35, 0, []), none, none, some (.aload_n 0, 13, 0, 0, []), some (.iload_n 1, 14, 0, 0, []), some (.iload_n 2, 15, 0, 0, []), some (.invokevirtual 99, 18, 0, 0, [])],
  [none, none, some (.ifCond .eq 17, 21, 35, 0, []), none, none, some (.iload_n 3, 22, 0, 0, []), some (.i2l, 23, 0, 0, []), some (.lconst 0, 24, 0, 0, []), some (.iload_n 1, 25, 0, 0, []), some (.invokestatic 102, 28, 0, 0, []), none, none, some (.i2l, 29, 0, 0, []), some (.invokestatic 86, 32, 0, 0, []), none, none],
  [some (.ifCond .ne 6, 35, 38, 0, []), none, none, some (.bipush (-2), 37, 0, (-2), []), none, some (.ireturn, 38, 0, 0, []), some (.aload_n 0, 39, 0, 0, []), some (.iload_n 2, 40, 0, 0, []), some (.iload_n 1, 41, 0, 0, []), some (.invokevirtual 106, 44, 0, 0, []), none, none, some (.istore 4, 46, 0, 0, []), none, some (.aload_n 0, 47, 0, 0, []), some (.iload_n 1, 48, 0, 0, [])],
  [some (.iload_n 2, 49, 0, 0, []), some (.iload_n 3, 50, 0, 0, []), some (.invokevirtual 110, 53, 0, 0, []), none, none, some (.iload 4, 55, 0, 0, []), none, some (.ireturn, 56, 0, 0, [])]]
def m_X6_set : MT := ((cd_X6_set, 6, 0, 0, 1), (yX6_set, cX6_set, 5, (some .int)))
def cd_X6_lays : List (List (Option Ent)) := [[some (.iload_n 1, 1, 0, 0, []), some (.iconst 2, 2, 0, 2, []), some (.if_icmp .ge 39, 5, 41, 0, []), none, none, some (.aload_n 0, 6, 0, 0, []), some (.iload_n 1, 7, 0, 0, []), some (.ifCond .ne 7, 10, 14, 0, []), none, none, some (.iload_n 3, 11, 0, 0, []), some (.goto 7, 14, 18, 0, []), none, none, some (.aload_n 0, 15, 0, 0, []), some (.getfield 114, 18, 0, 0, [])],
  [none, none, some (.putfield 114, 21, 0, 0, []), none, none, some (.aload_n 0, 22, 0, 0, []), some (.iload_n 1, 23, 0, 0, []), some (.iconst 1, 24, 0, 1, []), some (.if_icmp .ne 7, 27, 31, 0, []), none, none, some (.iload_n 3, 28, 0, 0, []), some (.goto 7, 31, 35, 0, []), none, none, some (.aload_n 0, 32, 0, 0, [])],
  [some (.getfield 117, 35, 0, 0, []), none, none, some (.putfield 117, 38, 0, 0, []), none, none, some (.goto 62, 41, 100, 0, []), none, none, some (.iload_n 1, 42, 0, 0, []), some (.iconst 4, 43, 0, 4, []), some (.if_icmp .ge 19, 46, 62, 0, []), none, none, some (.aload_n 0, 47, 0, 0, []), some (.getfield 26, 50, 0, 0, [])],
  [none, none, some (.iconst 2, 51, 0, 2, []), some (.iload_n 2, 52, 0, 0, []), some (.imul, 53, 0, 0, []), some (.iload_n 1, 54, 0, 0, []), some (.iadd, 55, 0, 0, []), some (.iconst 2, 56, 0, 2, []), some (.isub, 57, 0, 0, []), some (.iload_n 3, 58, 0, 0, []), some (.iastore, 59, 0, 0, []), some (.goto 41, 62, 100, 0, []), none, none, some (.iload_n 1, 63, 0, 0, []), some (.iconst 4, 64, 0, 4, [])],
  [some (.if_icmp .ne 16, 67, 80, 0, []), none, none, some (.aload_n 0, 68, 0, 0, []), some (.getfield 29, 71, 0, 0, []), none, none, some (.iload_n 2, 72, 0, 0, []), some (.invokestatic 120, 75, 0, 0, []), none, none, some (.iload_n 3, 76, 0, 0, []), some (.iastore, 77, 0, 0, []), some (.goto 23, 80, 100, 0, []), none, none],
  [some (.iload_n 1, 81, 0, 0, []), some (.iconst 5, 82, 0, 5, []), some (.if_icmp .ne 13, 85, 95, 0, []), none, none, some (.aload_n 0, 86, 0, 0, []), some (.getfield 23, 89, 0, 0, []), none, none, some (.iload_n 2, 90, 0, 0, []), some (.iload_n 3, 91, 0, 0, []), some (.iastore, 92, 0, 0, []), some (.goto 8, 95, 100, 0, []), none, none, some (.aload_n 0, 96, 0, 0, [])],
  [some (.iload_n 3, 97, 0, 0, []), some (.putfield 123, 100, 0, 0, []), none, none, some (.return_, 101, 0, 0, [])]]
def m_X6_lays : MT := ((cd_X6_lays, 6, 0, 0, 0), (yX6_lays, cX6_lays, 4, none))
def cd_X6_dancer : List (List (Option Ent)) := [[some (.iload_n 1, 1, 0, 0, []), some (.i2l, 2, 0, 0, []), some (.lconst 0, 3, 0, 0, []), some (.ldc2_w 126, 6, 0, 0, []), none, none, some (.invokestatic 86, 9, 0, 0, []), none, none, some (.ifCond .eq 15, 12, 24, 0, []), none, none, some (.iload_n 2, 13, 0, 0, []), some (.i2l, 14, 0, 0, []), some (.lconst 0, 15, 0, 0, []), some (.ldc2_w 128, 18, 0, 0, [])],
  [none, none, some (.invokestatic 86, 21, 0, 0, []), none, none, some (.ifCond .ne 6, 24, 27, 0, []), none, none, some (.bipush (-2), 26, 0, (-2), []), none, some (.ireturn, 27, 0, 0, []), some (.aload_n 0, 28, 0, 0, []), some (.getfield 83, 31, 0, 0, []), none, none, some (.iconst 5, 32, 0, 5, [])],
  [some (.if_icmp .ne 6, 35, 38, 0, []), none, none, some (.bipush (-4), 37, 0, (-4), []), none, some (.ireturn, 38, 0, 0, []), some (.aload_n 0, 39, 0, 0, []), some (.getfield 23, 42, 0, 0, []), none, none, some (.aload_n 0, 43, 0, 0, []), some (.getfield 83, 46, 0, 0, []), none, none, some (.iload_n 1, 47, 0, 0, []), some (.iastore, 48, 0, 0, [])],
  [some (.aload_n 0, 49, 0, 0, []), some (.getfield 26, 52, 0, 0, []), none, none, some (.iconst 2, 53, 0, 2, []), some (.aload_n 0, 54, 0, 0, []), some (.getfield 83, 57, 0, 0, []), none, none, some (.imul, 58, 0, 0, []), some (.iload_n 2, 59, 0, 0, []), some (.iastore, 60, 0, 0, []), some (.aload_n 0, 61, 0, 0, []), some (.getfield 26, 64, 0, 0, []), none, none],
  [some (.iconst 2, 65, 0, 2, []), some (.aload_n 0, 66, 0, 0, []), some (.getfield 83, 69, 0, 0, []), none, none, some (.imul, 70, 0, 0, []), some (.iconst 1, 71, 0, 1, []), some (.iadd, 72, 0, 0, []), some (.iconst 0, 73, 0, 0, []), some (.iastore, 74, 0, 0, []), some (.iconst 0, 75, 0, 0, []), some (.istore_n 3, 76, 0, 0, []), some (.iload_n 3, 77, 0, 0, []), some (.iconst 5, 78, 0, 5, []), some (.if_icmp .ge 37, 81, 115, 0, []), none],
  [none, some (.aload_n 0, 82, 0, 0, []), some (.getfield 29, 85, 0, 0, []), none, none, some (.iconst 5, 86, 0, 5, []), some (.iload_n 3, 87, 0, 0, []), some (.imul, 88, 0, 0, []), some (.aload_n 0, 89, 0, 0, []), some (.getfield 83, 92, 0, 0, []), none, none, some (.iadd, 93, 0, 0, []), some (.iconst 0, 94, 0, 0, []), some (.iastore, 95, 0, 0, []), some (.aload_n 0, 96, 0, 0, [])],
  [some (.getfield 29, 99, 0, 0, []), none, none, some (.iconst 5, 100, 0, 5, []), some (.aload_n 0, 101, 0, 0, []), some (.getfield 83, 104, 0, 0, []), none, none, some (.imul, 105, 0, 0, []), some (.iload_n 3, 106, 0, 0, []), some (.iadd, 107, 0, 0, []), some (.iconst 0, 108, 0, 0, []), some (.iastore, 109, 0, 0, []), some (.iinc 3 1, 112, 0, 1, []), none, none],
  [some (.goto (-36), 115, 76, 0, []), none, none, some (.aload_n 0, 116, 0, 0, []), some (.dup, 117, 0, 0, []), some (.getfield 83, 120, 0, 0, []), none, none, some (.iconst 1, 121, 0, 1, []), some (.iadd, 122, 0, 0, []), some (.putfield 83, 125, 0, 0, []), none, none, some (.aload_n 0, 126, 0, 0, []), some (.getfield 83, 129, 0, 0, []), none],
  [none, some (.iconst 1, 130, 0, 1, []), some (.isub, 131, 0, 0, []), some (.ireturn, 132, 0, 0, [])]]
def m_X6_dancer : MT := ((cd_X6_dancer, 6, 0, 0, 1), (yX6_dancer, cX6_dancer, 4, (some .int)))
def cd_X6_told : List (List (Option Ent)) := [[some (.iload_n 2, 1, 0, 0, []), some (.i2l, 2, 0, 0, []), some (.lconst 0, 3, 0, 0, []), some (.ldc2_w 130, 6, 0, 0, []), none, none, some (.invokestatic 86, 9, 0, 0, []), none, none, some (.ifCond .eq 12, 12, 21, 0, []), none, none, some (.aload_n 0, 13, 0, 0, []), some (.iload_n 2, 14, 0, 0, []), some (.iload_n 1, 15, 0, 0, []), some (.invokevirtual 99, 18, 0, 0, [])],
  [none, none, some (.ifCond .ne 6, 21, 24, 0, []), none, none, some (.bipush (-2), 23, 0, (-2), []), none, some (.ireturn, 24, 0, 0, []), some (.iload_n 2, 25, 0, 0, []), some (.iconst 5, 26, 0, 5, []), some (.if_icmp .ge 56, 29, 82, 0, []), none, none, some (.iload_n 2, 30, 0, 0, []), some (.ifCond .ne 10, 33, 40, 0, []), none],
  [none, some (.aload_n 0, 34, 0, 0, []), some (.getfield 114, 37, 0, 0, []), none, none, some (.goto 44, 40, 81, 0, []), none, none, some (.iload_n 2, 41, 0, 0, []), some (.iconst 1, 42, 0, 1, []), some (.if_icmp .ne 10, 45, 52, 0, []), none, none, some (.aload_n 0, 46, 0, 0, []), some (.getfield 117, 49, 0, 0, []), none],
  [none, some (.goto 32, 52, 81, 0, []), none, none, some (.iload_n 2, 53, 0, 0, []), some (.iconst 4, 54, 0, 4, []), some (.if_icmp .ge 18, 57, 72, 0, []), none, none, some (.aload_n 0, 58, 0, 0, []), some (.getfield 26, 61, 0, 0, []), none, none, some (.iconst 2, 62, 0, 2, []), some (.iload_n 1, 63, 0, 0, []), some (.imul, 64, 0, 0, [])],
  [some (.iload_n 2, 65, 0, 0, []), some (.iadd, 66, 0, 0, []), some (.iconst 2, 67, 0, 2, []), some (.isub, 68, 0, 0, []), some (.iaload, 69, 0, 0, []), some (.goto 12, 72, 81, 0, []), none, none, some (.aload_n 0, 73, 0, 0, []), some (.getfield 29, 76, 0, 0, []), none, none, some (.iload_n 1, 77, 0, 0, []), some (.invokestatic 120, 80, 0, 0, []), none, none],
  [some (.iaload, 81, 0, 0, []), some (.ireturn, 82, 0, 0, []), some (.iload_n 2, 83, 0, 0, []), some (.iconst 5, 84, 0, 5, []), some (.if_icmp .ne 12, 87, 96, 0, []), none, none, some (.aload_n 0, 88, 0, 0, []), some (.getfield 23, 91, 0, 0, []), none, none, some (.iload_n 1, 92, 0, 0, []), some (.iaload, 93, 0, 0, []), some (.goto 36, 96, 129, 0, []), none, none],
  [some (.iload_n 2, 97, 0, 0, []), some (.bipush 6, 99, 0, 6, []), none, some (.if_icmp .ne 11, 102, 110, 0, []), none, none, some (.aload_n 0, 103, 0, 0, []), some (.iload_n 1, 104, 0, 0, []), some (.invokevirtual 132, 107, 0, 0, []), none, none, some (.goto 22, 110, 129, 0, []), none, none, some (.iload_n 2, 111, 0, 0, []), some (.bipush 7, 113, 0, 7, [])],
  [none, some (.if_icmp .ne 11, 116, 124, 0, []), none, none, some (.aload_n 0, 117, 0, 0, []), some (.iload_n 1, 118, 0, 0, []), some (.invokevirtual 135, 121, 0, 0, []), none, none, some (.goto 8, 124, 129, 0, []), none, none, some (.aload_n 0, 125, 0, 0, []), some (.iload_n 1, 126, 0, 0, []), some (.invokevirtual 138, 129, 0, 0, []), none],
  [none, some (.ireturn, 130, 0, 0, [])]]
def m_X6_told : MT := ((cd_X6_told, 6, 0, 0, 1), (yX6_told, cX6_told, 3, (some .int)))
def cd_X6_debtOf : List (List (Option Ent)) := [[some (.aload_n 0, 1, 0, 0, []), some (.getfield 29, 4, 0, 0, []), none, none, some (.iconst 5, 5, 0, 5, []), some (.iload_n 1, 6, 0, 0, []), some (.imul, 7, 0, 0, []), some (.iload_n 2, 8, 0, 0, []), some (.iadd, 9, 0, 0, []), some (.iaload, 10, 0, 0, []), some (.ireturn, 11, 0, 0, [])]]
def m_X6_debtOf : MT := ((cd_X6_debtOf, 6, 0, 0, 1), (yX6_debtOf, cX6_debtOf, 3, (some .int)))
def cd_X6_owesOf : List (List (Option Ent)) := [[some (.iconst 0, 1, 0, 0, []), some (.istore_n 2, 2, 0, 0, []), some (.iconst 0, 3, 0, 0, []), some (.istore_n 3, 4, 0, 0, []), some (.iload_n 3, 5, 0, 0, []), some (.aload_n 0, 6, 0, 0, []), some (.getfield 83, 9, 0, 0, []), none, none, some (.if_icmp .ge 18, 12, 27, 0, []), none, none, some (.iload_n 2, 13, 0, 0, []), some (.aload_n 0, 14, 0, 0, []), some (.iload_n 1, 15, 0, 0, []), some (.iload_n 3, 16, 0, 0, [])],
  [some (.invokevirtual 141, 19, 0, 0, []), none, none, some (.iadd, 20, 0, 0, []), some (.istore_n 2, 21, 0, 0, []), some (.iinc 3 1, 24, 0, 1, []), none, none, some (.goto (-20), 27, 4, 0, []), none, none, some (.iload_n 2, 28, 0, 0, []), some (.ireturn, 29, 0, 0, [])]]
def m_X6_owesOf : MT := ((cd_X6_owesOf, 6, 0, 0, 1), (yX6_owesOf, cX6_owesOf, 4, (some .int)))
def cd_X6_owedTo : List (List (Option Ent)) := [[some (.iconst 0, 1, 0, 0, []), some (.istore_n 2, 2, 0, 0, []), some (.iconst 0, 3, 0, 0, []), some (.istore_n 3, 4, 0, 0, []), some (.iload_n 3, 5, 0, 0, []), some (.aload_n 0, 6, 0, 0, []), some (.getfield 83, 9, 0, 0, []), none, none, some (.if_icmp .ge 18, 12, 27, 0, []), none, none, some (.iload_n 2, 13, 0, 0, []), some (.aload_n 0, 14, 0, 0, []), some (.iload_n 3, 15, 0, 0, []), some (.iload_n 1, 16, 0, 0, [])],
  [some (.invokevirtual 141, 19, 0, 0, []), none, none, some (.iadd, 20, 0, 0, []), some (.istore_n 2, 21, 0, 0, []), some (.iinc 3 1, 24, 0, 1, []), none, none, some (.goto (-20), 27, 4, 0, []), none, none, some (.iload_n 2, 28, 0, 0, []), some (.ireturn, 29, 0, 0, [])]]
def m_X6_owedTo : MT := ((cd_X6_owedTo, 6, 0, 0, 1), (yX6_owedTo, cX6_owedTo, 4, (some .int)))
def cd_X6_owedAll : List (List (Option Ent)) := [[some (.iconst 0, 1, 0, 0, []), some (.istore_n 1, 2, 0, 0, []), some (.iconst 0, 3, 0, 0, []), some (.istore_n 2, 4, 0, 0, []), some (.iload_n 2, 5, 0, 0, []), some (.aload_n 0, 6, 0, 0, []), some (.getfield 83, 9, 0, 0, []), none, none, some (.if_icmp .ge 17, 12, 26, 0, []), none, none, some (.iload_n 1, 13, 0, 0, []), some (.aload_n 0, 14, 0, 0, []), some (.iload_n 2, 15, 0, 0, []), some (.invokevirtual 135, 18, 0, 0, [])],
  [none, none, some (.iadd, 19, 0, 0, []), some (.istore_n 1, 20, 0, 0, []), some (.iinc 2 1, 23, 0, 1, []), none, none, some (.goto (-19), 26, 4, 0, []), none, none, some (.iload_n 1, 27, 0, 0, []), some (.ireturn, 28, 0, 0, [])]]
def m_X6_owedAll : MT := ((cd_X6_owedAll, 6, 0, 0, 1), (yX6_owedAll, cX6_owedAll, 3, (some .int)))
def cd_X6_feed : List (List (Option Ent)) := [[some (.iload_n 1, 1, 0, 0, []), some (.i2l, 2, 0, 0, []), some (.lconst 0, 3, 0, 0, []), some (.ldc2_w 144, 6, 0, 0, []), none, none, some (.invokestatic 86, 9, 0, 0, []), none, none, some (.ifCond .ne 6, 12, 15, 0, []), none, none, some (.bipush (-2), 14, 0, (-2), []), none, some (.ireturn, 15, 0, 0, []), some (.aload_n 0, 16, 0, 0, [])],
  [some (.getfield 146, 19, 0, 0, []), none, none, some (.sipush 160, 22, 0, 160, []), none, none, some (.if_icmp .ne 6, 25, 28, 0, []), none, none, some (.bipush (-4), 27, 0, (-4), []), none, some (.ireturn, 28, 0, 0, []), some (.aload_n 0, 29, 0, 0, []), some (.getfield 20, 32, 0, 0, []), none, none],
  [some (.aload_n 0, 33, 0, 0, []), some (.getfield 146, 36, 0, 0, []), none, none, some (.iload_n 1, 37, 0, 0, []), some (.iastore, 38, 0, 0, []), some (.aload_n 0, 39, 0, 0, []), some (.dup, 40, 0, 0, []), some (.getfield 146, 43, 0, 0, []), none, none, some (.iconst 1, 44, 0, 1, []), some (.iadd, 45, 0, 0, []), some (.putfield 146, 48, 0, 0, []), none, none],
  [some (.aload_n 0, 49, 0, 0, []), some (.getfield 146, 52, 0, 0, []), none, none, some (.ireturn, 53, 0, 0, [])]]
def m_X6_feed : MT := ((cd_X6_feed, 6, 0, 0, 1), (yX6_feed, cX6_feed, 2, (some .int)))
def cd_X6_byteAt : List (List (Option Ent)) := [[some (.iload_n 1, 1, 0, 0, []), some (.aload_n 0, 2, 0, 0, []), some (.getfield 149, 5, 0, 0, []), none, none, some (.if_icmp .ge 17, 8, 22, 0, []), none, none, some (.aload_n 0, 9, 0, 0, []), some (.getfield 13, 12, 0, 0, []), none, none, some (.aload_n 0, 13, 0, 0, []), some (.getfield 152, 16, 0, 0, []), none, none],
  [some (.iload_n 1, 17, 0, 0, []), some (.iadd, 18, 0, 0, []), some (.iaload, 19, 0, 0, []), some (.goto 4, 22, 23, 0, []), none, none, some (.iconst (-1), 23, 0, (-1), []), some (.ireturn, 24, 0, 0, [])]]
def m_X6_byteAt : MT := ((cd_X6_byteAt, 6, 0, 0, 1), (yX6_byteAt, cX6_byteAt, 2, (some .int)))
def cd_X6_next : List (List (Option Ent)) := [[some (.aload_n 0, 1, 0, 0, []), some (.aload_n 0, 2, 0, 0, []), some (.getfield 155, 5, 0, 0, []), none, none, some (.invokevirtual 158, 8, 0, 0, []), none, none, some (.bipush 32, 10, 0, 32, []), none, some (.if_icmp .eq 16, 13, 26, 0, []), none, none, some (.aload_n 0, 14, 0, 0, []), some (.aload_n 0, 15, 0, 0, []), some (.getfield 155, 18, 0, 0, [])],
  [none, none, some (.invokevirtual 158, 21, 0, 0, []), none, none, some (.bipush 10, 23, 0, 10, []), none, some (.if_icmp .ne 16, 26, 39, 0, []), none, none, some (.aload_n 0, 27, 0, 0, []), some (.dup, 28, 0, 0, []), some (.getfield 155, 31, 0, 0, []), none, none, some (.iconst 1, 32, 0, 1, [])],
  [some (.iadd, 33, 0, 0, []), some (.putfield 155, 36, 0, 0, []), none, none, some (.goto (-36), 39, 0, 0, []), none, none, some (.aload_n 0, 40, 0, 0, []), some (.aload_n 0, 41, 0, 0, []), some (.getfield 155, 44, 0, 0, []), none, none, some (.putfield 161, 47, 0, 0, []), none, none, some (.aload_n 0, 48, 0, 0, [])],
  [some (.aload_n 0, 49, 0, 0, []), some (.getfield 155, 52, 0, 0, []), none, none, some (.invokevirtual 158, 55, 0, 0, []), none, none, some (.istore_n 1, 56, 0, 0, []), some (.aload_n 0, 57, 0, 0, []), some (.iconst 4, 58, 0, 4, []), some (.putfield 164, 61, 0, 0, []), none, none, some (.iload_n 1, 62, 0, 0, []), some (.ifCond .ge 19, 65, 81, 0, []), none],
  [none, some (.aload_n 0, 66, 0, 0, []), some (.iconst 0, 67, 0, 0, []), some (.putfield 164, 70, 0, 0, []), none, none, some (.aload_n 0, 71, 0, 0, []), some (.aload_n 0, 72, 0, 0, []), some (.getfield 149, 75, 0, 0, []), none, none, some (.putfield 161, 78, 0, 0, []), none, none, some (.goto 243, 81, 321, 0, []), none],
  [none, some (.iload_n 1, 82, 0, 0, []), some (.i2l, 83, 0, 0, []), some (.ldc2_w 167, 86, 0, 0, []), none, none, some (.ldc2_w 169, 89, 0, 0, []), none, none, some (.invokestatic 86, 92, 0, 0, []), none, none, some (.ifCond .eq 42, 95, 134, 0, []), none, none, some (.aload_n 0, 96, 0, 0, [])],
  [some (.iconst 1, 97, 0, 1, []), some (.putfield 164, 100, 0, 0, []), none, none, some (.aload_n 0, 101, 0, 0, []), some (.aload_n 0, 102, 0, 0, []), some (.getfield 155, 105, 0, 0, []), none, none, some (.invokevirtual 158, 108, 0, 0, []), none, none, some (.i2l, 109, 0, 0, []), some (.ldc2_w 167, 112, 0, 0, []), none, none],
  [some (.ldc2_w 169, 115, 0, 0, []), none, none, some (.invokestatic 86, 118, 0, 0, []), none, none, some (.ifCond .eq 203, 121, 321, 0, []), none, none, some (.aload_n 0, 122, 0, 0, []), some (.dup, 123, 0, 0, []), some (.getfield 155, 126, 0, 0, []), none, none, some (.iconst 1, 127, 0, 1, []), some (.iadd, 128, 0, 0, [])],
  [some (.putfield 155, 131, 0, 0, []), none, none, some (.goto (-31), 134, 100, 0, []), none, none, some (.iload_n 1, 135, 0, 0, []), some (.i2l, 136, 0, 0, []), some (.ldc2_w 171, 139, 0, 0, []), none, none, some (.ldc2_w 173, 142, 0, 0, []), none, none, some (.invokestatic 86, 145, 0, 0, []), none],
  [none, some (.ifCond .eq 107, 148, 252, 0, []), none, none, some (.aload_n 0, 149, 0, 0, []), some (.iconst 2, 150, 0, 2, []), some (.putfield 164, 153, 0, 0, []), none, none, some (.aload_n 0, 154, 0, 0, []), some (.lconst 0, 155, 0, 0, []), some (.putfield 175, 158, 0, 0, []), none, none, some (.iconst 0, 159, 0, 0, []), some (.istore_n 2, 160, 0, 0, [])],
  [some (.aload_n 0, 161, 0, 0, []), some (.aload_n 0, 162, 0, 0, []), some (.getfield 155, 165, 0, 0, []), none, none, some (.invokevirtual 158, 168, 0, 0, []), none, none, some (.i2l, 169, 0, 0, []), some (.ldc2_w 171, 172, 0, 0, []), none, none, some (.ldc2_w 173, 175, 0, 0, []), none, none, some (.invokestatic 86, 178, 0, 0, [])],
  [none, none, some (.ifCond .eq 57, 181, 235, 0, []), none, none, some (.aload_n 0, 182, 0, 0, []), some (.iload_n 2, 183, 0, 0, []), some (.iconst 4, 184, 0, 4, []), some (.if_icmp .ge 28, 187, 212, 0, []), none, none, some (.ldc2_w 179, 190, 0, 0, []), none, none, some (.aload_n 0, 191, 0, 0, []), some (.getfield 175, 194, 0, 0, [])],
  [none, none, some (.lmul, 195, 0, 0, []), some (.aload_n 0, 196, 0, 0, []), some (.aload_n 0, 197, 0, 0, []), some (.getfield 155, 200, 0, 0, []), none, none, some (.invokevirtual 158, 203, 0, 0, []), none, none, some (.i2l, 204, 0, 0, []), some (.ladd, 205, 0, 0, []), some (.ldc2_w 171, 208, 0, 0, []), none, none],
  [some (.lsub, 209, 0, 0, []), some (.goto 7, 212, 216, 0, []), none, none, some (.aload_n 0, 213, 0, 0, []), some (.getfield 175, 216, 0, 0, []), none, none, some (.putfield 175, 219, 0, 0, []), none, none, some (.iinc 2 1, 222, 0, 1, []), none, none, some (.aload_n 0, 223, 0, 0, []), some (.dup, 224, 0, 0, [])],
  [some (.getfield 155, 227, 0, 0, []), none, none, some (.iconst 1, 228, 0, 1, []), some (.iadd, 229, 0, 0, []), some (.putfield 155, 232, 0, 0, []), none, none, some (.goto (-72), 235, 160, 0, []), none, none, some (.aload_n 0, 236, 0, 0, []), some (.iload_n 2, 237, 0, 0, []), some (.iconst 4, 238, 0, 4, []), some (.if_icmp .le 7, 241, 245, 0, []), none],
  [none, some (.iconst 4, 242, 0, 4, []), some (.goto 4, 245, 246, 0, []), none, none, some (.iconst 2, 246, 0, 2, []), some (.putfield 164, 249, 0, 0, []), none, none, some (.goto 72, 252, 321, 0, []), none, none, some (.iload_n 1, 253, 0, 0, []), some (.bipush 40, 255, 0, 40, []), none, some (.if_icmp .eq 45, 258, 300, 0, [])],
  [none, none, some (.iload_n 1, 259, 0, 0, []), some (.bipush 41, 261, 0, 41, []), none, some (.if_icmp .eq 39, 264, 300, 0, []), none, none, some (.iload_n 1, 265, 0, 0, []), some (.bipush 59, 267, 0, 59, []), none, some (.if_icmp .eq 33, 270, 300, 0, []), none, none, some (.iload_n 1, 271, 0, 0, []), some (.bipush 43, 273, 0, 43, [])],
  [none, some (.if_icmp .eq 27, 276, 300, 0, []), none, none, some (.iload_n 1, 277, 0, 0, []), some (.bipush 45, 279, 0, 45, []), none, some (.if_icmp .eq 21, 282, 300, 0, []), none, none, some (.iload_n 1, 283, 0, 0, []), some (.bipush 42, 285, 0, 42, []), none, some (.if_icmp .eq 15, 288, 300, 0, []), none, none],
  [some (.iload_n 1, 289, 0, 0, []), some (.bipush 60, 291, 0, 60, []), none, some (.if_icmp .eq 9, 294, 300, 0, []), none, none, some (.iload_n 1, 295, 0, 0, []), some (.bipush 61, 297, 0, 61, []), none, some (.if_icmp .ne 24, 300, 321, 0, []), none, none, some (.aload_n 0, 301, 0, 0, []), some (.iconst 3, 302, 0, 3, []), some (.putfield 164, 305, 0, 0, []), none],
  [none, some (.aload_n 0, 306, 0, 0, []), some (.iload_n 1, 307, 0, 0, []), some (.i2l, 308, 0, 0, []), some (.putfield 175, 311, 0, 0, []), none, none, some (.aload_n 0, 312, 0, 0, []), some (.dup, 313, 0, 0, []), some (.getfield 155, 316, 0, 0, []), none, none, some (.iconst 1, 317, 0, 1, []), some (.iadd, 318, 0, 0, []), some (.putfield 155, 321, 0, 0, []), none],
  [none, some (.return_, 322, 0, 0, [])]]
def m_X6_next : MT := ((cd_X6_next, 6, 0, 0, 0), (yX6_next, cX6_next, 3, none))
def cd_X6_fail : List (List (Option Ent)) := [[some (.aload_n 0, 1, 0, 0, []), some (.getfield 181, 4, 0, 0, []), none, none, some (.ifCond .ne 16, 7, 20, 0, []), none, none, some (.aload_n 0, 8, 0, 0, []), some (.iconst 1, 9, 0, 1, []), some (.putfield 181, 12, 0, 0, []), none, none, some (.aload_n 0, 13, 0, 0, []), some (.aload_n 0, 14, 0, 0, []), some (.getfield 161, 17, 0, 0, []), none],
  [none, some (.putfield 185, 20, 0, 0, []), none, none, some (.return_, 21, 0, 0, [])]]
def m_X6_fail : MT := ((cd_X6_fail, 6, 0, 0, 0), (yX6_fail, cX6_fail, 1, none))
def cd_X6_isLetter : List (List (Option Ent)) := [[some (.aload_n 0, 1, 0, 0, []), some (.getfield 161, 4, 0, 0, []), none, none, some (.iload_n 1, 5, 0, 0, []), some (.iadd, 6, 0, 0, []), some (.aload_n 0, 7, 0, 0, []), some (.getfield 155, 10, 0, 0, []), none, none, some (.if_icmp .ge 25, 13, 35, 0, []), none, none, some (.aload_n 0, 14, 0, 0, []), some (.aload_n 0, 15, 0, 0, []), some (.getfield 161, 18, 0, 0, [])],
  [none, none, some (.iload_n 1, 19, 0, 0, []), some (.iadd, 20, 0, 0, []), some (.invokevirtual 158, 23, 0, 0, []), none, none, some (.iload_n 2, 24, 0, 0, []), some (.if_icmp .ne 7, 27, 31, 0, []), none, none, some (.iconst 1, 28, 0, 1, []), some (.goto 16, 31, 44, 0, []), none, none, some (.iconst 0, 32, 0, 0, [])],
  [some (.goto 12, 35, 44, 0, []), none, none, some (.iload_n 2, 36, 0, 0, []), some (.ifCond .ne 7, 39, 43, 0, []), none, none, some (.iconst 1, 40, 0, 1, []), some (.goto 4, 43, 44, 0, []), none, none, some (.iconst 0, 44, 0, 0, []), some (.ireturn, 45, 0, 0, [])]]
def m_X6_isLetter : MT := ((cd_X6_isLetter, 6, 0, 0, 4), (yX6_isLetter, cX6_isLetter, 3, (some .boolean)))
def cd_X6_isWord : List (List (Option Ent)) := [[some (.aload_n 0, 1, 0, 0, []), some (.getfield 181, 4, 0, 0, []), none, none, some (.ifCond .ne 108, 7, 112, 0, []), none, none, some (.aload_n 0, 8, 0, 0, []), some (.getfield 164, 11, 0, 0, []), none, none, some (.iconst 1, 12, 0, 1, []), some (.if_icmp .ne 100, 15, 112, 0, []), none, none, some (.aload_n 0, 16, 0, 0, [])],
  [some (.getfield 155, 19, 0, 0, []), none, none, some (.aload_n 0, 20, 0, 0, []), some (.getfield 161, 23, 0, 0, []), none, none, some (.bipush 8, 25, 0, 8, []), none, some (.iadd, 26, 0, 0, []), some (.if_icmp .gt 86, 29, 112, 0, []), none, none, some (.aload_n 0, 30, 0, 0, []), some (.iconst 0, 31, 0, 0, []), some (.iload_n 1, 32, 0, 0, [])],
  [some (.invokevirtual 188, 35, 0, 0, []), none, none, some (.ifCond .eq 77, 38, 112, 0, []), none, none, some (.aload_n 0, 39, 0, 0, []), some (.iconst 1, 40, 0, 1, []), some (.iload_n 2, 41, 0, 0, []), some (.invokevirtual 188, 44, 0, 0, []), none, none, some (.ifCond .eq 68, 47, 112, 0, []), none, none, some (.aload_n 0, 48, 0, 0, [])],
  [some (.iconst 2, 49, 0, 2, []), some (.iload_n 3, 50, 0, 0, []), some (.invokevirtual 188, 53, 0, 0, []), none, none, some (.ifCond .eq 59, 56, 112, 0, []), none, none, some (.aload_n 0, 57, 0, 0, []), some (.iconst 3, 58, 0, 3, []), some (.iload 4, 60, 0, 0, []), none, some (.invokevirtual 188, 63, 0, 0, []), none, none, some (.ifCond .eq 49, 66, 112, 0, [])],
  [none, none, some (.aload_n 0, 67, 0, 0, []), some (.iconst 4, 68, 0, 4, []), some (.iload 5, 70, 0, 0, []), none, some (.invokevirtual 188, 73, 0, 0, []), none, none, some (.ifCond .eq 39, 76, 112, 0, []), none, none, some (.aload_n 0, 77, 0, 0, []), some (.iconst 5, 78, 0, 5, []), some (.iload 6, 80, 0, 0, []), none],
  [some (.invokevirtual 188, 83, 0, 0, []), none, none, some (.ifCond .eq 29, 86, 112, 0, []), none, none, some (.aload_n 0, 87, 0, 0, []), some (.bipush 6, 89, 0, 6, []), none, some (.iload 7, 91, 0, 0, []), none, some (.invokevirtual 188, 94, 0, 0, []), none, none, some (.ifCond .eq 18, 97, 112, 0, []), none],
  [none, some (.aload_n 0, 98, 0, 0, []), some (.bipush 7, 100, 0, 7, []), none, some (.iload 8, 102, 0, 0, []), none, some (.invokevirtual 188, 105, 0, 0, []), none, none, some (.ifCond .eq 7, 108, 112, 0, []), none, none, some (.iconst 1, 109, 0, 1, []), some (.goto 4, 112, 113, 0, []), none, none],
  [some (.iconst 0, 113, 0, 0, []), some (.ireturn, 114, 0, 0, [])]]
def m_X6_isWord : MT := ((cd_X6_isWord, 6, 0, 0, 4), (yX6_isWord, cX6_isWord, 9, (some .boolean)))
def cd_X6_isSign : List (List (Option Ent)) := [[some (.aload_n 0, 1, 0, 0, []), some (.getfield 181, 4, 0, 0, []), none, none, some (.ifCond .ne 25, 7, 29, 0, []), none, none, some (.aload_n 0, 8, 0, 0, []), some (.getfield 164, 11, 0, 0, []), none, none, some (.iconst 3, 12, 0, 3, []), some (.if_icmp .ne 17, 15, 29, 0, []), none, none, some (.aload_n 0, 16, 0, 0, [])],
  [some (.getfield 175, 19, 0, 0, []), none, none, some (.iload_n 1, 20, 0, 0, []), some (.i2l, 21, 0, 0, []), some (.lcmp, 22, 0, 0, []), some (.ifCond .ne 7, 25, 29, 0, []), none, none, some (.iconst 1, 26, 0, 1, []), some (.goto 4, 29, 30, 0, []), none, none, some (.iconst 0, 30, 0, 0, []), some (.ireturn, 31, 0, 0, [])]]
def m_X6_isSign : MT := ((cd_X6_isSign, 6, 0, 0, 4), (yX6_isSign, cX6_isSign, 2, (some .boolean)))
def cd_X6_opens : List (List (Option Ent)) := [[some (.aload_n 0, 1, 0, 0, []), some (.getfield 191, 4, 0, 0, []), none, none, some (.iconst 5, 5, 0, 5, []), some (.if_icmp .ne 9, 8, 14, 0, []), none, none, some (.aload_n 0, 9, 0, 0, []), some (.invokevirtual 194, 12, 0, 0, []), none, none, some (.iconst 0, 13, 0, 0, []), some (.ireturn, 14, 0, 0, []), some (.aload_n 0, 15, 0, 0, []), some (.dup, 16, 0, 0, [])],
  [some (.getfield 191, 19, 0, 0, []), none, none, some (.iconst 1, 20, 0, 1, []), some (.iadd, 21, 0, 0, []), some (.putfield 191, 24, 0, 0, []), none, none, some (.aload_n 0, 25, 0, 0, []), some (.invokevirtual 197, 28, 0, 0, []), none, none, some (.iconst 1, 29, 0, 1, []), some (.ireturn, 30, 0, 0, [])]]
def m_X6_opens : MT := ((cd_X6_opens, 6, 0, 0, 4), (yX6_opens, cX6_opens, 1, (some .boolean)))
def cd_X6_name : List (List (Option Ent)) := [[some (.aload_n 0, 1, 0, 0, []), some (.bipush 100, 3, 0, 100, []), none, some (.bipush 101, 5, 0, 101, []), none, some (.bipush 98, 7, 0, 98, []), none, some (.bipush 116, 9, 0, 116, []), none, some (.iconst 0, 10, 0, 0, []), some (.iconst 0, 11, 0, 0, []), some (.iconst 0, 12, 0, 0, []), some (.iconst 0, 13, 0, 0, []), some (.invokevirtual 200, 16, 0, 0, []), none, none],
  [some (.ifCond .eq 8, 19, 24, 0, []), none, none, some (.aload_n 0, 20, 0, 0, []), some (.getfield 204, 23, 0, 0, []), none, none, some (.ireturn, 24, 0, 0, []), some (.aload_n 0, 25, 0, 0, []), some (.bipush 111, 27, 0, 111, []), none, some (.bipush 119, 29, 0, 119, []), none, some (.bipush 101, 31, 0, 101, []), none, some (.bipush 100, 33, 0, 100, [])],
  [none, some (.iconst 0, 34, 0, 0, []), some (.iconst 0, 35, 0, 0, []), some (.iconst 0, 36, 0, 0, []), some (.iconst 0, 37, 0, 0, []), some (.invokevirtual 200, 40, 0, 0, []), none, none, some (.ifCond .eq 8, 43, 48, 0, []), none, none, some (.aload_n 0, 44, 0, 0, []), some (.getfield 207, 47, 0, 0, []), none, none, some (.ireturn, 48, 0, 0, [])],
  [some (.aload_n 0, 49, 0, 0, []), some (.bipush 110, 51, 0, 110, []), none, some (.bipush 117, 53, 0, 117, []), none, some (.bipush 109, 55, 0, 109, []), none, some (.bipush 98, 57, 0, 98, []), none, some (.bipush 101, 59, 0, 101, []), none, some (.bipush 114, 61, 0, 114, []), none, some (.iconst 0, 62, 0, 0, []), some (.iconst 0, 63, 0, 0, []), some (.invokevirtual 200, 66, 0, 0, [])],
  [none, none, some (.ifCond .eq 8, 69, 74, 0, []), none, none, some (.aload_n 0, 70, 0, 0, []), some (.getfield 210, 73, 0, 0, []), none, none, some (.ireturn, 74, 0, 0, []), some (.aload_n 0, 75, 0, 0, []), some (.bipush 114, 77, 0, 114, []), none, some (.bipush 111, 79, 0, 111, []), none, some (.bipush 117, 81, 0, 117, [])],
  [none, some (.bipush 110, 83, 0, 110, []), none, some (.bipush 100, 85, 0, 100, []), none, some (.iconst 0, 86, 0, 0, []), some (.iconst 0, 87, 0, 0, []), some (.iconst 0, 88, 0, 0, []), some (.invokevirtual 200, 91, 0, 0, []), none, none, some (.ifCond .eq 8, 94, 99, 0, []), none, none, some (.aload_n 0, 95, 0, 0, []), some (.getfield 213, 98, 0, 0, [])],
  [none, none, some (.ireturn, 99, 0, 0, []), some (.aload_n 0, 100, 0, 0, []), some (.bipush 100, 102, 0, 100, []), none, some (.bipush 111, 104, 0, 111, []), none, some (.bipush 110, 106, 0, 110, []), none, some (.bipush 101, 108, 0, 101, []), none, some (.iconst 0, 109, 0, 0, []), some (.iconst 0, 110, 0, 0, []), some (.iconst 0, 111, 0, 0, []), some (.iconst 0, 112, 0, 0, [])],
  [some (.invokevirtual 200, 115, 0, 0, []), none, none, some (.ifCond .eq 8, 118, 123, 0, []), none, none, some (.aload_n 0, 119, 0, 0, []), some (.getfield 216, 122, 0, 0, []), none, none, some (.ireturn, 123, 0, 0, []), some (.aload_n 0, 124, 0, 0, []), some (.bipush 110, 126, 0, 110, []), none, some (.bipush 105, 128, 0, 105, []), none],
  [some (.bipush 103, 130, 0, 103, []), none, some (.bipush 104, 132, 0, 104, []), none, some (.bipush 116, 134, 0, 116, []), none, some (.iconst 0, 135, 0, 0, []), some (.iconst 0, 136, 0, 0, []), some (.iconst 0, 137, 0, 0, []), some (.invokevirtual 200, 140, 0, 0, []), none, none, some (.ifCond .eq 8, 143, 148, 0, []), none, none, some (.aload_n 0, 144, 0, 0, [])],
  [some (.getfield 219, 147, 0, 0, []), none, none, some (.ireturn, 148, 0, 0, []), some (.aload_n 0, 149, 0, 0, []), some (.invokevirtual 194, 152, 0, 0, []), none, none, some (.iconst 0, 153, 0, 0, []), some (.ireturn, 154, 0, 0, [])]]
def m_X6_name : MT := ((cd_X6_name, 6, 0, 0, 1), (yX6_name, cX6_name, 1, (some .int)))
def cd_X6_atom : List (List (Option Ent)) := [[some (.iconst 0, 1, 0, 0, []), some (.istore_n 1, 2, 0, 0, []), some (.aload_n 0, 3, 0, 0, []), some (.bipush 45, 5, 0, 45, []), none, some (.invokevirtual 222, 8, 0, 0, []), none, none, some (.ifCond .eq 29, 11, 37, 0, []), none, none, some (.aload_n 0, 12, 0, 0, []), some (.invokevirtual 225, 15, 0, 0, []), none, none, some (.ifCond .eq 146, 18, 161, 0, [])],
  [none, none, some (.aload_n 0, 19, 0, 0, []), some (.invokevirtual 229, 22, 0, 0, []), none, none, some (.ineg, 23, 0, 0, []), some (.istore_n 1, 24, 0, 0, []), some (.aload_n 0, 25, 0, 0, []), some (.dup, 26, 0, 0, []), some (.getfield 191, 29, 0, 0, []), none, none, some (.iconst 1, 30, 0, 1, []), some (.isub, 31, 0, 0, []), some (.putfield 191, 34, 0, 0, [])],
  [none, none, some (.goto 127, 37, 161, 0, []), none, none, some (.aload_n 0, 38, 0, 0, []), some (.bipush 40, 40, 0, 40, []), none, some (.invokevirtual 222, 43, 0, 0, []), none, none, some (.ifCond .eq 52, 46, 95, 0, []), none, none, some (.aload_n 0, 47, 0, 0, []), some (.invokevirtual 225, 50, 0, 0, [])],
  [none, none, some (.ifCond .eq 111, 53, 161, 0, []), none, none, some (.aload_n 0, 54, 0, 0, []), some (.invokevirtual 233, 57, 0, 0, []), none, none, some (.istore_n 1, 58, 0, 0, []), some (.aload_n 0, 59, 0, 0, []), some (.bipush 41, 61, 0, 41, []), none, some (.invokevirtual 222, 64, 0, 0, []), none, none],
  [some (.ifCond .ne 7, 67, 71, 0, []), none, none, some (.aload_n 0, 68, 0, 0, []), some (.invokevirtual 194, 71, 0, 0, []), none, none, some (.aload_n 0, 72, 0, 0, []), some (.dup, 73, 0, 0, []), some (.getfield 191, 76, 0, 0, []), none, none, some (.iconst 1, 77, 0, 1, []), some (.isub, 78, 0, 0, []), some (.putfield 191, 81, 0, 0, []), none],
  [none, some (.aload_n 0, 82, 0, 0, []), some (.getfield 181, 85, 0, 0, []), none, none, some (.ifCond .ne 76, 88, 161, 0, []), none, none, some (.aload_n 0, 89, 0, 0, []), some (.invokevirtual 197, 92, 0, 0, []), none, none, some (.goto 69, 95, 161, 0, []), none, none, some (.aload_n 0, 96, 0, 0, [])],
  [some (.getfield 181, 99, 0, 0, []), none, none, some (.ifCond .ne 24, 102, 123, 0, []), none, none, some (.aload_n 0, 103, 0, 0, []), some (.getfield 164, 106, 0, 0, []), none, none, some (.iconst 2, 107, 0, 2, []), some (.if_icmp .ne 16, 110, 123, 0, []), none, none, some (.aload_n 0, 111, 0, 0, []), some (.getfield 175, 114, 0, 0, [])],
  [none, none, some (.l2i, 115, 0, 0, []), some (.istore_n 1, 116, 0, 0, []), some (.aload_n 0, 117, 0, 0, []), some (.invokevirtual 197, 120, 0, 0, []), none, none, some (.goto 41, 123, 161, 0, []), none, none, some (.aload_n 0, 124, 0, 0, []), some (.getfield 181, 127, 0, 0, []), none, none, some (.ifCond .ne 30, 130, 157, 0, [])],
  [none, none, some (.aload_n 0, 131, 0, 0, []), some (.getfield 164, 134, 0, 0, []), none, none, some (.iconst 1, 135, 0, 1, []), some (.if_icmp .ne 22, 138, 157, 0, []), none, none, some (.aload_n 0, 139, 0, 0, []), some (.invokevirtual 236, 142, 0, 0, []), none, none, some (.istore_n 1, 143, 0, 0, []), some (.aload_n 0, 144, 0, 0, [])],
  [some (.getfield 181, 147, 0, 0, []), none, none, some (.ifCond .ne 14, 150, 161, 0, []), none, none, some (.aload_n 0, 151, 0, 0, []), some (.invokevirtual 197, 154, 0, 0, []), none, none, some (.goto 7, 157, 161, 0, []), none, none, some (.aload_n 0, 158, 0, 0, []), some (.invokevirtual 194, 161, 0, 0, []), none],
  [none, some (.iload_n 1, 162, 0, 0, []), some (.ireturn, 163, 0, 0, [])]]
def m_X6_atom : MT := ((cd_X6_atom, 6, 0, 0, 1), (yX6_atom, cX6_atom, 2, (some .int)))
def cd_X6_term : List (List (Option Ent)) := [[some (.aload_n 0, 1, 0, 0, []), some (.invokevirtual 229, 4, 0, 0, []), none, none, some (.istore_n 1, 5, 0, 0, []), some (.aload_n 0, 6, 0, 0, []), some (.bipush 42, 8, 0, 42, []), none, some (.invokevirtual 222, 11, 0, 0, []), none, none, some (.ifCond .eq 17, 14, 28, 0, []), none, none, some (.aload_n 0, 15, 0, 0, []), some (.invokevirtual 197, 18, 0, 0, [])],
  [none, none, some (.iload_n 1, 19, 0, 0, []), some (.aload_n 0, 20, 0, 0, []), some (.invokevirtual 229, 23, 0, 0, []), none, none, some (.imul, 24, 0, 0, []), some (.istore_n 1, 25, 0, 0, []), some (.goto (-20), 28, 5, 0, []), none, none, some (.iload_n 1, 29, 0, 0, []), some (.ireturn, 30, 0, 0, [])]]
def m_X6_term : MT := ((cd_X6_term, 6, 0, 0, 1), (yX6_term, cX6_term, 2, (some .int)))
def cd_X6_added : List (List (Option Ent)) := [[some (.aload_n 0, 1, 0, 0, []), some (.invokevirtual 239, 4, 0, 0, []), none, none, some (.istore_n 1, 5, 0, 0, []), some (.aload_n 0, 6, 0, 0, []), some (.bipush 43, 8, 0, 43, []), none, some (.invokevirtual 222, 11, 0, 0, []), none, none, some (.ifCond .ne 12, 14, 23, 0, []), none, none, some (.aload_n 0, 15, 0, 0, []), some (.bipush 45, 17, 0, 45, [])],
  [none, some (.invokevirtual 222, 20, 0, 0, []), none, none, some (.ifCond .eq 46, 23, 66, 0, []), none, none, some (.aload_n 0, 24, 0, 0, []), some (.getfield 175, 27, 0, 0, []), none, none, some (.ldc2_w 242, 30, 0, 0, []), none, none, some (.lcmp, 31, 0, 0, []), some (.ifCond .ne 7, 34, 38, 0, [])],
  [none, none, some (.iconst 1, 35, 0, 1, []), some (.goto 4, 38, 39, 0, []), none, none, some (.iconst 0, 39, 0, 0, []), some (.istore_n 2, 40, 0, 0, []), some (.aload_n 0, 41, 0, 0, []), some (.invokevirtual 197, 44, 0, 0, []), none, none, some (.aload_n 0, 45, 0, 0, []), some (.invokevirtual 239, 48, 0, 0, []), none, none],
  [some (.istore_n 3, 49, 0, 0, []), some (.iload_n 2, 50, 0, 0, []), some (.ifCond .eq 9, 53, 59, 0, []), none, none, some (.iload_n 1, 54, 0, 0, []), some (.iload_n 3, 55, 0, 0, []), some (.iadd, 56, 0, 0, []), some (.goto 6, 59, 62, 0, []), none, none, some (.iload_n 1, 60, 0, 0, []), some (.iload_n 3, 61, 0, 0, []), some (.isub, 62, 0, 0, []), some (.istore_n 1, 63, 0, 0, []), some (.goto (-58), 66, 5, 0, [])],
  [none, none, some (.iload_n 1, 67, 0, 0, []), some (.ireturn, 68, 0, 0, [])]]
def m_X6_added : MT := ((cd_X6_added, 6, 0, 0, 1), (yX6_added, cX6_added, 4, (some .int)))
def cd_X6_not : List (List (Option Ent)) := [[some (.aload_n 0, 1, 0, 0, []), some (.bipush 110, 3, 0, 110, []), none, some (.bipush 111, 5, 0, 111, []), none, some (.bipush 116, 7, 0, 116, []), none, some (.iconst 0, 8, 0, 0, []), some (.iconst 0, 9, 0, 0, []), some (.iconst 0, 10, 0, 0, []), some (.iconst 0, 11, 0, 0, []), some (.iconst 0, 12, 0, 0, []), some (.invokevirtual 200, 15, 0, 0, []), none, none, some (.ifCond .eq 37, 18, 52, 0, [])],
  [none, none, some (.aload_n 0, 19, 0, 0, []), some (.invokevirtual 225, 22, 0, 0, []), none, none, some (.ifCond .ne 5, 25, 27, 0, []), none, none, some (.iconst 0, 26, 0, 0, []), some (.ireturn, 27, 0, 0, []), some (.aload_n 0, 28, 0, 0, []), some (.invokevirtual 244, 31, 0, 0, []), none, none, some (.istore_n 1, 32, 0, 0, [])],
  [some (.aload_n 0, 33, 0, 0, []), some (.dup, 34, 0, 0, []), some (.getfield 191, 37, 0, 0, []), none, none, some (.iconst 1, 38, 0, 1, []), some (.isub, 39, 0, 0, []), some (.putfield 191, 42, 0, 0, []), none, none, some (.iload_n 1, 43, 0, 0, []), some (.ifCond .ne 7, 46, 50, 0, []), none, none, some (.iconst 1, 47, 0, 1, []), some (.goto 4, 50, 51, 0, [])],
  [none, none, some (.iconst 0, 51, 0, 0, []), some (.ireturn, 52, 0, 0, []), some (.aload_n 0, 53, 0, 0, []), some (.invokevirtual 247, 56, 0, 0, []), none, none, some (.istore_n 1, 57, 0, 0, []), some (.aload_n 0, 58, 0, 0, []), some (.bipush 60, 60, 0, 60, []), none, some (.invokevirtual 222, 63, 0, 0, []), none, none, some (.ifCond .ne 14, 66, 77, 0, [])],
  [none, none, some (.aload_n 0, 67, 0, 0, []), some (.bipush 61, 69, 0, 61, []), none, some (.invokevirtual 222, 72, 0, 0, []), none, none, some (.ifCond .ne 5, 75, 77, 0, []), none, none, some (.iload_n 1, 76, 0, 0, []), some (.ireturn, 77, 0, 0, []), some (.aload_n 0, 78, 0, 0, []), some (.getfield 175, 81, 0, 0, []), none],
  [none, some (.ldc2_w 250, 84, 0, 0, []), none, none, some (.lcmp, 85, 0, 0, []), some (.ifCond .ne 7, 88, 92, 0, []), none, none, some (.iconst 1, 89, 0, 1, []), some (.goto 4, 92, 93, 0, []), none, none, some (.iconst 0, 93, 0, 0, []), some (.istore_n 2, 94, 0, 0, []), some (.aload_n 0, 95, 0, 0, []), some (.invokevirtual 197, 98, 0, 0, [])],
  [none, none, some (.aload_n 0, 99, 0, 0, []), some (.invokevirtual 247, 102, 0, 0, []), none, none, some (.istore_n 3, 103, 0, 0, []), some (.iload_n 2, 104, 0, 0, []), some (.ifCond .eq 11, 107, 115, 0, []), none, none, some (.iload_n 1, 108, 0, 0, []), some (.iload_n 3, 109, 0, 0, []), some (.if_icmp .ge 15, 112, 124, 0, []), none, none],
  [some (.goto 8, 115, 120, 0, []), none, none, some (.iload_n 1, 116, 0, 0, []), some (.iload_n 3, 117, 0, 0, []), some (.if_icmp .ne 7, 120, 124, 0, []), none, none, some (.iconst 1, 121, 0, 1, []), some (.goto 4, 124, 125, 0, []), none, none, some (.iconst 0, 125, 0, 0, []), some (.ireturn, 126, 0, 0, [])]]
def m_X6_not : MT := ((cd_X6_not, 6, 0, 0, 1), (yX6_not, cX6_not, 4, (some .int)))
def cd_X6_both : List (List (Option Ent)) := [[some (.aload_n 0, 1, 0, 0, []), some (.invokevirtual 244, 4, 0, 0, []), none, none, some (.istore_n 1, 5, 0, 0, []), some (.aload_n 0, 6, 0, 0, []), some (.bipush 97, 8, 0, 97, []), none, some (.bipush 110, 10, 0, 110, []), none, some (.bipush 100, 12, 0, 100, []), none, some (.iconst 0, 13, 0, 0, []), some (.iconst 0, 14, 0, 0, []), some (.iconst 0, 15, 0, 0, []), some (.iconst 0, 16, 0, 0, [])],
  [some (.iconst 0, 17, 0, 0, []), some (.invokevirtual 200, 20, 0, 0, []), none, none, some (.ifCond .eq 29, 23, 49, 0, []), none, none, some (.aload_n 0, 24, 0, 0, []), some (.invokevirtual 197, 27, 0, 0, []), none, none, some (.aload_n 0, 28, 0, 0, []), some (.invokevirtual 244, 31, 0, 0, []), none, none, some (.istore_n 2, 32, 0, 0, [])],
  [some (.iload_n 1, 33, 0, 0, []), some (.ifCond .eq 11, 36, 44, 0, []), none, none, some (.iload_n 2, 37, 0, 0, []), some (.ifCond .eq 7, 40, 44, 0, []), none, none, some (.iconst 1, 41, 0, 1, []), some (.goto 4, 44, 45, 0, []), none, none, some (.iconst 0, 45, 0, 0, []), some (.istore_n 1, 46, 0, 0, []), some (.goto (-41), 49, 5, 0, []), none],
  [none, some (.iload_n 1, 50, 0, 0, []), some (.ireturn, 51, 0, 0, [])]]
def m_X6_both : MT := ((cd_X6_both, 6, 0, 0, 1), (yX6_both, cX6_both, 3, (some .int)))
def cd_X6_either : List (List (Option Ent)) := [[some (.aload_n 0, 1, 0, 0, []), some (.invokevirtual 252, 4, 0, 0, []), none, none, some (.istore_n 1, 5, 0, 0, []), some (.aload_n 0, 6, 0, 0, []), some (.bipush 111, 8, 0, 111, []), none, some (.bipush 114, 10, 0, 114, []), none, some (.iconst 0, 11, 0, 0, []), some (.iconst 0, 12, 0, 0, []), some (.iconst 0, 13, 0, 0, []), some (.iconst 0, 14, 0, 0, []), some (.iconst 0, 15, 0, 0, []), some (.iconst 0, 16, 0, 0, [])],
  [some (.invokevirtual 200, 19, 0, 0, []), none, none, some (.ifCond .eq 29, 22, 48, 0, []), none, none, some (.aload_n 0, 23, 0, 0, []), some (.invokevirtual 197, 26, 0, 0, []), none, none, some (.aload_n 0, 27, 0, 0, []), some (.invokevirtual 252, 30, 0, 0, []), none, none, some (.istore_n 2, 31, 0, 0, []), some (.iload_n 1, 32, 0, 0, [])],
  [some (.ifCond .ne 7, 35, 39, 0, []), none, none, some (.iload_n 2, 36, 0, 0, []), some (.ifCond .eq 7, 39, 43, 0, []), none, none, some (.iconst 1, 40, 0, 1, []), some (.goto 4, 43, 44, 0, []), none, none, some (.iconst 0, 44, 0, 0, []), some (.istore_n 1, 45, 0, 0, []), some (.goto (-40), 48, 5, 0, []), none, none],
  [some (.iload_n 1, 49, 0, 0, []), some (.ireturn, 50, 0, 0, [])]]
def m_X6_either : MT := ((cd_X6_either, 6, 0, 0, 1), (yX6_either, cX6_either, 3, (some .int)))
def cd_X6_part : List (List (Option Ent)) := [[some (.iload_n 1, 1, 0, 0, []), some (.ifCond .ne 7, 4, 8, 0, []), none, none, some (.aload_n 0, 5, 0, 0, []), some (.invokevirtual 194, 8, 0, 0, []), none, none, some (.aload_n 0, 9, 0, 0, []), some (.getfield 181, 12, 0, 0, []), none, none, some (.ifCond .ne 7, 15, 19, 0, []), none, none, some (.aload_n 0, 16, 0, 0, [])],
  [some (.invokevirtual 197, 19, 0, 0, []), none, none, some (.aload_n 0, 20, 0, 0, []), some (.getfield 181, 23, 0, 0, []), none, none, some (.ifCond .eq 7, 26, 30, 0, []), none, none, some (.iconst 0, 27, 0, 0, []), some (.goto 7, 30, 34, 0, []), none, none, some (.aload_n 0, 31, 0, 0, []), some (.invokevirtual 233, 34, 0, 0, [])],
  [none, none, some (.istore_n 2, 35, 0, 0, []), some (.aload_n 0, 36, 0, 0, []), some (.bipush 59, 38, 0, 59, []), none, some (.invokevirtual 222, 41, 0, 0, []), none, none, some (.ifCond .ne 7, 44, 48, 0, []), none, none, some (.aload_n 0, 45, 0, 0, []), some (.invokevirtual 194, 48, 0, 0, []), none, none],
  [some (.aload_n 0, 49, 0, 0, []), some (.getfield 181, 52, 0, 0, []), none, none, some (.ifCond .ne 7, 55, 59, 0, []), none, none, some (.aload_n 0, 56, 0, 0, []), some (.invokevirtual 197, 59, 0, 0, []), none, none, some (.iload_n 2, 60, 0, 0, []), some (.ireturn, 61, 0, 0, [])]]
def m_X6_part : MT := ((cd_X6_part, 6, 0, 0, 1), (yX6_part, cX6_part, 3, (some .int)))
def cd_X6_read : List (List (Option Ent)) := [[some (.aload_n 0, 1, 0, 0, []), some (.sipush 160, 4, 0, 160, []), none, none, some (.iload_n 1, 5, 0, 0, []), some (.imul, 6, 0, 0, []), some (.putfield 152, 9, 0, 0, []), none, none, some (.aload_n 0, 10, 0, 0, []), some (.aload_n 0, 11, 0, 0, []), some (.getfield 17, 14, 0, 0, []), none, none, some (.iload_n 1, 15, 0, 0, []), some (.iaload, 16, 0, 0, [])],
  [some (.putfield 149, 19, 0, 0, []), none, none, some (.aload_n 0, 20, 0, 0, []), some (.iconst 0, 21, 0, 0, []), some (.putfield 155, 24, 0, 0, []), none, none, some (.aload_n 0, 25, 0, 0, []), some (.iconst 0, 26, 0, 0, []), some (.putfield 191, 29, 0, 0, []), none, none, some (.aload_n 0, 30, 0, 0, []), some (.iconst 0, 31, 0, 0, []), some (.putfield 181, 34, 0, 0, [])],
  [none, none, some (.aload_n 0, 35, 0, 0, []), some (.invokevirtual 197, 38, 0, 0, []), none, none, some (.aload_n 0, 39, 0, 0, []), some (.aload_n 0, 40, 0, 0, []), some (.bipush 112, 42, 0, 112, []), none, some (.bipush 97, 44, 0, 97, []), none, some (.bipush 121, 46, 0, 121, []), none, some (.bipush 115, 48, 0, 115, []), none],
  [some (.iconst 0, 49, 0, 0, []), some (.iconst 0, 50, 0, 0, []), some (.iconst 0, 51, 0, 0, []), some (.iconst 0, 52, 0, 0, []), some (.invokevirtual 200, 55, 0, 0, []), none, none, some (.invokevirtual 255, 58, 0, 0, []), none, none, some (.istore_n 3, 59, 0, 0, []), some (.aload_n 0, 60, 0, 0, []), some (.getfield 181, 63, 0, 0, []), none, none, some (.ifCond .eq 7, 66, 70, 0, [])],
  [none, none, some (.iconst 0, 67, 0, 0, []), some (.goto 24, 70, 91, 0, []), none, none, some (.aload_n 0, 71, 0, 0, []), some (.aload_n 0, 72, 0, 0, []), some (.bipush 119, 74, 0, 119, []), none, some (.bipush 105, 76, 0, 105, []), none, some (.bipush 108, 78, 0, 108, []), none, some (.bipush 108, 80, 0, 108, []), none],
  [some (.bipush 115, 82, 0, 115, []), none, some (.iconst 0, 83, 0, 0, []), some (.iconst 0, 84, 0, 0, []), some (.iconst 0, 85, 0, 0, []), some (.invokevirtual 200, 88, 0, 0, []), none, none, some (.invokevirtual 255, 91, 0, 0, []), none, none, some (.istore 4, 93, 0, 0, []), none, some (.aload_n 0, 94, 0, 0, []), some (.getfield 181, 97, 0, 0, []), none],
  [none, some (.ifCond .eq 7, 100, 104, 0, []), none, none, some (.iconst 0, 101, 0, 0, []), some (.goto 25, 104, 126, 0, []), none, none, some (.aload_n 0, 105, 0, 0, []), some (.aload_n 0, 106, 0, 0, []), some (.bipush 98, 108, 0, 98, []), none, some (.bipush 114, 110, 0, 114, []), none, some (.bipush 101, 112, 0, 101, []), none],
  [some (.bipush 97, 114, 0, 97, []), none, some (.bipush 116, 116, 0, 116, []), none, some (.bipush 104, 118, 0, 104, []), none, some (.iconst 0, 119, 0, 0, []), some (.iconst 0, 120, 0, 0, []), some (.invokevirtual 200, 123, 0, 0, []), none, none, some (.invokevirtual 255, 126, 0, 0, []), none, none, some (.istore 5, 128, 0, 0, []), none],
  [some (.aload_n 0, 129, 0, 0, []), some (.getfield 181, 132, 0, 0, []), none, none, some (.ifCond .ne 14, 135, 146, 0, []), none, none, some (.aload_n 0, 136, 0, 0, []), some (.getfield 164, 139, 0, 0, []), none, none, some (.ifCond .eq 7, 142, 146, 0, []), none, none, some (.aload_n 0, 143, 0, 0, []), some (.invokevirtual 194, 146, 0, 0, [])],
  [none, none, some (.iload_n 2, 147, 0, 0, []), some (.ifCond .ne 7, 150, 154, 0, []), none, none, some (.iload_n 3, 151, 0, 0, []), some (.goto 15, 154, 166, 0, []), none, none, some (.iload_n 2, 155, 0, 0, []), some (.iconst 1, 156, 0, 1, []), some (.if_icmp .ne 8, 159, 164, 0, []), none, none, some (.iload 4, 161, 0, 0, [])],
  [none, some (.goto 5, 164, 166, 0, []), none, none, some (.iload 5, 166, 0, 0, []), none, some (.ireturn, 167, 0, 0, [])]]
def m_X6_read : MT := ((cd_X6_read, 6, 0, 0, 1), (yX6_read, cX6_read, 6, (some .int)))
def cd_X6_text : List (List (Option Ent)) := [[some (.aload_n 0, 1, 0, 0, []), some (.getfield 80, 4, 0, 0, []), none, none, some (.bipush 6, 6, 0, 6, []), none, some (.if_icmp .ne 6, 9, 12, 0, []), none, none, some (.bipush (-4), 11, 0, (-4), []), none, some (.ireturn, 12, 0, 0, []), some (.iconst 0, 13, 0, 0, []), some (.istore_n 1, 14, 0, 0, []), some (.iload_n 1, 15, 0, 0, []), some (.aload_n 0, 16, 0, 0, [])],
  [some (.getfield 146, 19, 0, 0, []), none, none, some (.if_icmp .ge 30, 22, 49, 0, []), none, none, some (.aload_n 0, 23, 0, 0, []), some (.getfield 13, 26, 0, 0, []), none, none, some (.sipush 160, 29, 0, 160, []), none, none, some (.aload_n 0, 30, 0, 0, []), some (.getfield 80, 33, 0, 0, []), none],
  [none, some (.imul, 34, 0, 0, []), some (.iload_n 1, 35, 0, 0, []), some (.iadd, 36, 0, 0, []), some (.aload_n 0, 37, 0, 0, []), some (.getfield 20, 40, 0, 0, []), none, none, some (.iload_n 1, 41, 0, 0, []), some (.iaload, 42, 0, 0, []), some (.iastore, 43, 0, 0, []), some (.iinc 1 1, 46, 0, 1, []), none, none, some (.goto (-32), 49, 14, 0, []), none],
  [none, some (.aload_n 0, 50, 0, 0, []), some (.getfield 17, 53, 0, 0, []), none, none, some (.aload_n 0, 54, 0, 0, []), some (.getfield 80, 57, 0, 0, []), none, none, some (.aload_n 0, 58, 0, 0, []), some (.getfield 146, 61, 0, 0, []), none, none, some (.iastore, 62, 0, 0, []), some (.aload_n 0, 63, 0, 0, []), some (.iconst 0, 64, 0, 0, [])],
  [some (.putfield 146, 67, 0, 0, []), none, none, some (.aload_n 0, 68, 0, 0, []), some (.aload_n 0, 69, 0, 0, []), some (.getfield 80, 72, 0, 0, []), none, none, some (.iconst 0, 73, 0, 0, []), some (.invokevirtual 259, 76, 0, 0, []), none, none, some (.istore_n 1, 77, 0, 0, []), some (.aload_n 0, 78, 0, 0, []), some (.getfield 181, 81, 0, 0, []), none],
  [none, some (.ifCond .eq 11, 84, 92, 0, []), none, none, some (.bipush (-100), 86, 0, (-100), []), none, some (.aload_n 0, 87, 0, 0, []), some (.getfield 185, 90, 0, 0, []), none, none, some (.isub, 91, 0, 0, []), some (.ireturn, 92, 0, 0, []), some (.aload_n 0, 93, 0, 0, []), some (.dup, 94, 0, 0, []), some (.getfield 80, 97, 0, 0, []), none],
  [none, some (.iconst 1, 98, 0, 1, []), some (.iadd, 99, 0, 0, []), some (.putfield 80, 102, 0, 0, []), none, none, some (.aload_n 0, 103, 0, 0, []), some (.getfield 80, 106, 0, 0, []), none, none, some (.iconst 1, 107, 0, 1, []), some (.isub, 108, 0, 0, []), some (.ireturn, 109, 0, 0, [])]]
def m_X6_text : MT := ((cd_X6_text, 6, 0, 0, 1), (yX6_text, cX6_text, 2, (some .int)))
def cd_X6_force : List (List (Option Ent)) := [[some (.iload_n 1, 1, 0, 0, []), some (.i2l, 2, 0, 0, []), some (.lconst 0, 3, 0, 0, []), some (.aload_n 0, 4, 0, 0, []), some (.getfield 80, 7, 0, 0, []), none, none, some (.iconst 1, 8, 0, 1, []), some (.isub, 9, 0, 0, []), some (.i2l, 10, 0, 0, []), some (.invokestatic 86, 13, 0, 0, []), none, none, some (.ifCond .ne 6, 16, 19, 0, []), none, none],
  [some (.bipush (-2), 18, 0, (-2), []), none, some (.ireturn, 19, 0, 0, []), some (.aload_n 0, 20, 0, 0, []), some (.getfield 123, 23, 0, 0, []), none, none, some (.istore_n 2, 24, 0, 0, []), some (.aload_n 0, 25, 0, 0, []), some (.iload_n 1, 26, 0, 0, []), some (.putfield 123, 29, 0, 0, []), none, none, some (.iload_n 2, 30, 0, 0, []), some (.ireturn, 31, 0, 0, [])]]
def m_X6_force : MT := ((cd_X6_force, 6, 0, 0, 1), (yX6_force, cX6_force, 3, (some .int)))
def cd_X6_says : List (List (Option Ent)) := [[some (.aload_n 0, 1, 0, 0, []), some (.iload_n 3, 2, 0, 0, []), some (.putfield 204, 5, 0, 0, []), none, none, some (.aload_n 0, 6, 0, 0, []), some (.aload_n 0, 7, 0, 0, []), some (.iload_n 2, 8, 0, 0, []), some (.invokevirtual 138, 11, 0, 0, []), none, none, some (.putfield 207, 14, 0, 0, []), none, none, some (.aload_n 0, 15, 0, 0, []), some (.aload_n 0, 16, 0, 0, [])],
  [some (.getfield 26, 19, 0, 0, []), none, none, some (.iconst 2, 20, 0, 2, []), some (.iload_n 2, 21, 0, 0, []), some (.imul, 22, 0, 0, []), some (.iaload, 23, 0, 0, []), some (.putfield 210, 26, 0, 0, []), none, none, some (.aload_n 0, 27, 0, 0, []), some (.aload_n 0, 28, 0, 0, []), some (.getfield 114, 31, 0, 0, []), none, none, some (.putfield 213, 34, 0, 0, [])],
  [none, none, some (.aload_n 0, 35, 0, 0, []), some (.aload_n 0, 36, 0, 0, []), some (.getfield 26, 39, 0, 0, []), none, none, some (.iconst 2, 40, 0, 2, []), some (.iload_n 2, 41, 0, 0, []), some (.imul, 42, 0, 0, []), some (.iconst 1, 43, 0, 1, []), some (.iadd, 44, 0, 0, []), some (.iaload, 45, 0, 0, []), some (.putfield 216, 48, 0, 0, []), none, none],
  [some (.aload_n 0, 49, 0, 0, []), some (.aload_n 0, 50, 0, 0, []), some (.getfield 117, 53, 0, 0, []), none, none, some (.putfield 219, 56, 0, 0, []), none, none, some (.aload_n 0, 57, 0, 0, []), some (.aload_n 0, 58, 0, 0, []), some (.getfield 123, 61, 0, 0, []), none, none, some (.iload_n 1, 62, 0, 0, []), some (.invokevirtual 259, 65, 0, 0, []), none],
  [none, some (.istore 4, 67, 0, 0, []), none, some (.iload_n 1, 68, 0, 0, []), some (.iconst 1, 69, 0, 1, []), some (.if_icmp .ne 8, 72, 77, 0, []), none, none, some (.iload 4, 74, 0, 0, []), none, some (.goto 11, 77, 85, 0, []), none, none, some (.iload 4, 79, 0, 0, []), none, some (.iconst 0, 80, 0, 0, [])],
  [some (.bipush 99, 82, 0, 99, []), none, some (.invokestatic 262, 85, 0, 0, []), none, none, some (.ireturn, 86, 0, 0, [])]]
def m_X6_says : MT := ((cd_X6_says, 6, 0, 0, 1), (yX6_says, cX6_says, 5, (some .int)))
def cd_X6_paysOf : List (List (Option Ent)) := [[some (.aload_n 0, 1, 0, 0, []), some (.getfield 23, 4, 0, 0, []), none, none, some (.iload_n 1, 5, 0, 0, []), some (.iaload, 6, 0, 0, []), some (.istore_n 3, 7, 0, 0, []), some (.iload_n 3, 8, 0, 0, []), some (.iconst 4, 9, 0, 4, []), some (.if_icmp .eq 8, 12, 17, 0, []), none, none, some (.iload_n 3, 13, 0, 0, []), some (.iconst 5, 14, 0, 5, []), some (.if_icmp .ne 14, 17, 28, 0, []), none],
  [none, some (.iload_n 3, 18, 0, 0, []), some (.iconst 5, 19, 0, 5, []), some (.if_icmp .ne 7, 22, 26, 0, []), none, none, some (.iconst 0, 23, 0, 0, []), some (.goto 4, 26, 27, 0, []), none, none, some (.iload_n 2, 27, 0, 0, []), some (.ireturn, 28, 0, 0, []), some (.iload_n 3, 29, 0, 0, []), some (.iconst 2, 30, 0, 2, []), some (.if_icmp .ne 10, 33, 40, 0, []), none],
  [none, some (.iconst 1, 34, 0, 1, []), some (.iconst 0, 35, 0, 0, []), some (.iload_n 2, 36, 0, 0, []), some (.invokestatic 262, 39, 0, 0, []), none, none, some (.ireturn, 40, 0, 0, []), some (.aload_n 0, 41, 0, 0, []), some (.iconst 0, 42, 0, 0, []), some (.iload_n 1, 43, 0, 0, []), some (.iload_n 2, 44, 0, 0, []), some (.invokevirtual 266, 47, 0, 0, []), none, none, some (.istore 4, 49, 0, 0, [])],
  [none, some (.iload_n 3, 50, 0, 0, []), some (.ifCond .ne 8, 53, 58, 0, []), none, none, some (.iload 4, 55, 0, 0, []), none, some (.goto 37, 58, 92, 0, []), none, none, some (.iload_n 3, 59, 0, 0, []), some (.iconst 3, 60, 0, 3, []), some (.if_icmp .ne 28, 63, 88, 0, []), none, none, some (.aload_n 0, 64, 0, 0, [])],
  [some (.getfield 114, 67, 0, 0, []), none, none, some (.iconst 2, 68, 0, 2, []), some (.irem, 69, 0, 0, []), some (.ifCond .ne 19, 72, 88, 0, []), none, none, some (.iconst 2, 73, 0, 2, []), some (.iload 4, 75, 0, 0, []), none, some (.imul, 76, 0, 0, []), some (.aload_n 0, 77, 0, 0, []), some (.getfield 26, 80, 0, 0, []), none, none],
  [some (.iconst 2, 81, 0, 2, []), some (.iload_n 1, 82, 0, 0, []), some (.imul, 83, 0, 0, []), some (.iaload, 84, 0, 0, []), some (.iadd, 85, 0, 0, []), some (.goto 7, 88, 92, 0, []), none, none, some (.iconst 2, 89, 0, 2, []), some (.iload 4, 91, 0, 0, []), none, some (.imul, 92, 0, 0, []), some (.iconst 0, 93, 0, 0, []), some (.iload_n 2, 94, 0, 0, []), some (.invokestatic 262, 97, 0, 0, []), none],
  [none, some (.ireturn, 98, 0, 0, [])]]
def m_X6_paysOf : MT := ((cd_X6_paysOf, 6, 0, 0, 1), (yX6_paysOf, cX6_paysOf, 5, (some .int)))
def cd_X6_willOf : List (List (Option Ent)) := [[some (.aload_n 0, 1, 0, 0, []), some (.getfield 23, 4, 0, 0, []), none, none, some (.iload_n 1, 5, 0, 0, []), some (.iaload, 6, 0, 0, []), some (.istore_n 3, 7, 0, 0, []), some (.iload_n 3, 8, 0, 0, []), some (.iconst 5, 9, 0, 5, []), some (.if_icmp .eq 8, 12, 17, 0, []), none, none, some (.iload_n 3, 13, 0, 0, []), some (.iconst 1, 14, 0, 1, []), some (.if_icmp .ne 14, 17, 28, 0, []), none],
  [none, some (.iload_n 3, 18, 0, 0, []), some (.iconst 1, 19, 0, 1, []), some (.if_icmp .ne 7, 22, 26, 0, []), none, none, some (.iconst 1, 23, 0, 1, []), some (.goto 4, 26, 27, 0, []), none, none, some (.iconst 0, 27, 0, 0, []), some (.ireturn, 28, 0, 0, []), some (.iload_n 3, 29, 0, 0, []), some (.iconst 3, 30, 0, 3, []), some (.if_icmp .ne 30, 33, 60, 0, []), none],
  [none, some (.aload_n 0, 34, 0, 0, []), some (.getfield 26, 37, 0, 0, []), none, none, some (.iconst 2, 38, 0, 2, []), some (.iload_n 1, 39, 0, 0, []), some (.imul, 40, 0, 0, []), some (.iconst 1, 41, 0, 1, []), some (.iadd, 42, 0, 0, []), some (.iaload, 43, 0, 0, []), some (.aload_n 0, 44, 0, 0, []), some (.getfield 26, 47, 0, 0, []), none, none, some (.iconst 2, 48, 0, 2, [])],
  [some (.iload_n 1, 49, 0, 0, []), some (.imul, 50, 0, 0, []), some (.iaload, 51, 0, 0, []), some (.if_icmp .eq 7, 54, 58, 0, []), none, none, some (.iconst 1, 55, 0, 1, []), some (.goto 4, 58, 59, 0, []), none, none, some (.iconst 0, 59, 0, 0, []), some (.ireturn, 60, 0, 0, []), some (.iload_n 3, 61, 0, 0, []), some (.iconst 4, 62, 0, 4, []), some (.if_icmp .ne 13, 65, 75, 0, []), none],
  [none, some (.aload_n 0, 66, 0, 0, []), some (.iload_n 1, 67, 0, 0, []), some (.invokevirtual 138, 70, 0, 0, []), none, none, some (.ifCond .ne 5, 73, 75, 0, []), none, none, some (.iconst 1, 74, 0, 1, []), some (.ireturn, 75, 0, 0, []), some (.aload_n 0, 76, 0, 0, []), some (.iconst 1, 77, 0, 1, []), some (.iload_n 1, 78, 0, 0, []), some (.aload_n 0, 79, 0, 0, []), some (.iload_n 1, 80, 0, 0, [])],
  [some (.iload_n 2, 81, 0, 0, []), some (.invokevirtual 141, 84, 0, 0, []), none, none, some (.invokevirtual 266, 87, 0, 0, []), none, none, some (.ifCond .eq 7, 90, 94, 0, []), none, none, some (.iconst 1, 91, 0, 1, []), some (.goto 4, 94, 95, 0, []), none, none, some (.iconst 0, 95, 0, 0, []), some (.istore 4, 97, 0, 0, [])],
  [none, some (.iload_n 3, 98, 0, 0, []), some (.ifCond .ne 8, 101, 106, 0, []), none, none, some (.iload 4, 103, 0, 0, []), none, some (.goto 22, 106, 125, 0, []), none, none, some (.iload 4, 108, 0, 0, []), none, some (.ifCond .eq 16, 111, 124, 0, []), none, none, some (.aload_n 0, 112, 0, 0, [])],
  [some (.iload_n 2, 113, 0, 0, []), some (.iload_n 1, 114, 0, 0, []), some (.invokevirtual 141, 117, 0, 0, []), none, none, some (.ifCond .le 7, 120, 124, 0, []), none, none, some (.iconst 1, 121, 0, 1, []), some (.goto 4, 124, 125, 0, []), none, none, some (.iconst 0, 125, 0, 0, []), some (.ireturn, 126, 0, 0, [])]]
def m_X6_willOf : MT := ((cd_X6_willOf, 6, 0, 0, 4), (yX6_willOf, cX6_willOf, 5, (some .boolean)))
def cd_X6_breathOf : List (List (Option Ent)) := [[some (.aload_n 0, 1, 0, 0, []), some (.getfield 23, 4, 0, 0, []), none, none, some (.iload_n 1, 5, 0, 0, []), some (.iaload, 6, 0, 0, []), some (.istore_n 2, 7, 0, 0, []), some (.iload_n 2, 8, 0, 0, []), some (.iconst 4, 9, 0, 4, []), some (.if_icmp .eq 8, 12, 17, 0, []), none, none, some (.iload_n 2, 13, 0, 0, []), some (.iconst 5, 14, 0, 5, []), some (.if_icmp .ne 22, 17, 36, 0, []), none],
  [none, some (.iload_n 2, 18, 0, 0, []), some (.iconst 5, 19, 0, 5, []), some (.if_icmp .ne 14, 22, 33, 0, []), none, none, some (.aload_n 0, 23, 0, 0, []), some (.getfield 26, 26, 0, 0, []), none, none, some (.iconst 2, 27, 0, 2, []), some (.iload_n 1, 28, 0, 0, []), some (.imul, 29, 0, 0, []), some (.iaload, 30, 0, 0, []), some (.goto 5, 33, 35, 0, []), none],
  [none, some (.bipush 99, 35, 0, 99, []), none, some (.ireturn, 36, 0, 0, []), some (.aload_n 0, 37, 0, 0, []), some (.iconst 2, 38, 0, 2, []), some (.iload_n 1, 39, 0, 0, []), some (.iconst 0, 40, 0, 0, []), some (.invokevirtual 266, 43, 0, 0, []), none, none, some (.istore_n 3, 44, 0, 0, []), some (.iload_n 2, 45, 0, 0, []), some (.iconst 2, 46, 0, 2, []), some (.if_icmp .ne 9, 49, 55, 0, []), none],
  [none, some (.iload_n 3, 50, 0, 0, []), some (.iconst 2, 51, 0, 2, []), some (.idiv, 52, 0, 0, []), some (.goto 14, 55, 66, 0, []), none, none, some (.iload_n 2, 56, 0, 0, []), some (.ifCond .ne 7, 59, 63, 0, []), none, none, some (.iload_n 3, 60, 0, 0, []), some (.goto 6, 63, 66, 0, []), none, none, some (.iload_n 3, 64, 0, 0, [])],
  [some (.iconst 3, 65, 0, 3, []), some (.iadd, 66, 0, 0, []), some (.iconst 0, 67, 0, 0, []), some (.bipush 99, 69, 0, 99, []), none, some (.invokestatic 262, 72, 0, 0, []), none, none, some (.ireturn, 73, 0, 0, [])]]
def m_X6_breathOf : MT := ((cd_X6_breathOf, 6, 0, 0, 1), (yX6_breathOf, cX6_breathOf, 4, (some .int)))
def cd_X6_hasBreath : List (List (Option Ent)) := [[some (.aload_n 0, 1, 0, 0, []), some (.getfield 26, 4, 0, 0, []), none, none, some (.iconst 2, 5, 0, 2, []), some (.iload_n 1, 6, 0, 0, []), some (.imul, 7, 0, 0, []), some (.iconst 1, 8, 0, 1, []), some (.iadd, 9, 0, 0, []), some (.iaload, 10, 0, 0, []), some (.aload_n 0, 11, 0, 0, []), some (.iload_n 1, 12, 0, 0, []), some (.invokevirtual 132, 15, 0, 0, []), none, none, some (.if_icmp .ge 7, 18, 22, 0, [])],
  [none, none, some (.iconst 1, 19, 0, 1, []), some (.goto 4, 22, 23, 0, []), none, none, some (.iconst 0, 23, 0, 0, []), some (.ireturn, 24, 0, 0, [])]]
def m_X6_hasBreath : MT := ((cd_X6_hasBreath, 6, 0, 0, 4), (yX6_hasBreath, cX6_hasBreath, 2, (some .boolean)))
def cd_X6_mayDance : List (List (Option Ent)) := [[some (.aload_n 0, 1, 0, 0, []), some (.iload_n 1, 2, 0, 0, []), some (.iload_n 2, 3, 0, 0, []), some (.invokevirtual 141, 6, 0, 0, []), none, none, some (.ifCond .gt 12, 9, 18, 0, []), none, none, some (.aload_n 0, 10, 0, 0, []), some (.iload_n 2, 11, 0, 0, []), some (.iload_n 1, 12, 0, 0, []), some (.invokevirtual 141, 15, 0, 0, []), none, none, some (.ifCond .le 41, 18, 56, 0, [])],
  [none, none, some (.aload_n 0, 19, 0, 0, []), some (.iload_n 1, 20, 0, 0, []), some (.iload_n 2, 21, 0, 0, []), some (.invokevirtual 269, 24, 0, 0, []), none, none, some (.ifCond .eq 32, 27, 56, 0, []), none, none, some (.aload_n 0, 28, 0, 0, []), some (.iload_n 2, 29, 0, 0, []), some (.iload_n 1, 30, 0, 0, []), some (.invokevirtual 269, 33, 0, 0, []), none],
  [none, some (.ifCond .eq 23, 36, 56, 0, []), none, none, some (.aload_n 0, 37, 0, 0, []), some (.iload_n 1, 38, 0, 0, []), some (.invokevirtual 272, 41, 0, 0, []), none, none, some (.ifCond .eq 15, 44, 56, 0, []), none, none, some (.aload_n 0, 45, 0, 0, []), some (.iload_n 2, 46, 0, 0, []), some (.invokevirtual 272, 49, 0, 0, []), none],
  [none, some (.ifCond .eq 7, 52, 56, 0, []), none, none, some (.iconst 1, 53, 0, 1, []), some (.goto 4, 56, 57, 0, []), none, none, some (.iconst 0, 57, 0, 0, []), some (.ireturn, 58, 0, 0, [])]]
def m_X6_mayDance : MT := ((cd_X6_mayDance, 6, 0, 0, 4), (yX6_mayDance, cX6_mayDance, 3, (some .boolean)))
def cd_X6_asks : List (List (Option Ent)) := [[some (.aload_n 0, 1, 0, 0, []), some (.iload_n 1, 2, 0, 0, []), some (.iload_n 2, 3, 0, 0, []), some (.invokevirtual 93, 6, 0, 0, []), none, none, some (.ifCond .eq 15, 9, 21, 0, []), none, none, some (.iload_n 3, 10, 0, 0, []), some (.i2l, 11, 0, 0, []), some (.lconst 0, 12, 0, 0, []), some (.ldc2_w 275, 15, 0, 0, []), none, none, some (.invokestatic 86, 18, 0, 0, [])],
  [none, none, some (.ifCond .ne 6, 21, 24, 0, []), none, none, some (.bipush (-2), 23, 0, (-2), []), none, some (.ireturn, 24, 0, 0, []), some (.iload_n 3, 25, 0, 0, []), some (.ifCond .ne 17, 28, 42, 0, []), none, none, some (.aload_n 0, 29, 0, 0, []), some (.iload_n 1, 30, 0, 0, []), some (.aload_n 0, 31, 0, 0, []), some (.iload_n 1, 32, 0, 0, [])],
  [some (.iload_n 2, 33, 0, 0, []), some (.invokevirtual 141, 36, 0, 0, []), none, none, some (.invokevirtual 277, 39, 0, 0, []), none, none, some (.goto 34, 42, 73, 0, []), none, none, some (.iload_n 3, 43, 0, 0, []), some (.iconst 1, 44, 0, 1, []), some (.if_icmp .ne 15, 47, 59, 0, []), none, none, some (.aload_n 0, 48, 0, 0, [])],
  [some (.iload_n 1, 49, 0, 0, []), some (.iload_n 2, 50, 0, 0, []), some (.invokevirtual 269, 53, 0, 0, []), none, none, some (.ifCond .eq 19, 56, 72, 0, []), none, none, some (.goto 12, 59, 68, 0, []), none, none, some (.aload_n 0, 60, 0, 0, []), some (.iload_n 1, 61, 0, 0, []), some (.iload_n 2, 62, 0, 0, []), some (.invokevirtual 280, 65, 0, 0, []), none],
  [none, some (.ifCond .eq 7, 68, 72, 0, []), none, none, some (.iconst 1, 69, 0, 1, []), some (.goto 4, 72, 73, 0, []), none, none, some (.iconst 0, 73, 0, 0, []), some (.ireturn, 74, 0, 0, [])]]
def m_X6_asks : MT := ((cd_X6_asks, 6, 0, 0, 1), (yX6_asks, cX6_asks, 4, (some .int)))
def cd_X6_dances : List (List (Option Ent)) := [[some (.aload_n 0, 1, 0, 0, []), some (.getfield 26, 4, 0, 0, []), none, none, some (.iconst 2, 5, 0, 2, []), some (.iload_n 1, 6, 0, 0, []), some (.imul, 7, 0, 0, []), some (.iconst 1, 8, 0, 1, []), some (.iadd, 9, 0, 0, []), some (.aload_n 0, 10, 0, 0, []), some (.getfield 26, 13, 0, 0, []), none, none, some (.iconst 2, 14, 0, 2, []), some (.iload_n 1, 15, 0, 0, []), some (.imul, 16, 0, 0, [])],
  [some (.iconst 1, 17, 0, 1, []), some (.iadd, 18, 0, 0, []), some (.iaload, 19, 0, 0, []), some (.iconst 1, 20, 0, 1, []), some (.iadd, 21, 0, 0, []), some (.iconst 0, 22, 0, 0, []), some (.bipush 99, 24, 0, 99, []), none, some (.invokestatic 262, 27, 0, 0, []), none, none, some (.iastore, 28, 0, 0, []), some (.return_, 29, 0, 0, [])]]
def m_X6_dances : MT := ((cd_X6_dances, 6, 0, 0, 0), (yX6_dances, cX6_dances, 2, none))
def cd_X6_danceBoth : List (List (Option Ent)) := [[some (.aload_n 0, 1, 0, 0, []), some (.iload_n 1, 2, 0, 0, []), some (.aload_n 0, 3, 0, 0, []), some (.iload_n 1, 4, 0, 0, []), some (.iload_n 2, 5, 0, 0, []), some (.invokevirtual 141, 8, 0, 0, []), none, none, some (.invokevirtual 277, 11, 0, 0, []), none, none, some (.istore_n 3, 12, 0, 0, []), some (.aload_n 0, 13, 0, 0, []), some (.iload_n 2, 14, 0, 0, []), some (.aload_n 0, 15, 0, 0, []), some (.iload_n 2, 16, 0, 0, [])],
  [some (.iload_n 1, 17, 0, 0, []), some (.invokevirtual 141, 20, 0, 0, []), none, none, some (.invokevirtual 277, 23, 0, 0, []), none, none, some (.istore 4, 25, 0, 0, []), none, some (.aload_n 0, 26, 0, 0, []), some (.getfield 29, 29, 0, 0, []), none, none, some (.iconst 5, 30, 0, 5, []), some (.iload_n 1, 31, 0, 0, []), some (.imul, 32, 0, 0, [])],
  [some (.iload_n 2, 33, 0, 0, []), some (.iadd, 34, 0, 0, []), some (.dup2, 35, 0, 0, []), some (.iaload, 36, 0, 0, []), some (.iload_n 3, 37, 0, 0, []), some (.isub, 38, 0, 0, []), some (.iastore, 39, 0, 0, []), some (.aload_n 0, 40, 0, 0, []), some (.getfield 29, 43, 0, 0, []), none, none, some (.iconst 5, 44, 0, 5, []), some (.iload_n 2, 45, 0, 0, []), some (.imul, 46, 0, 0, []), some (.iload_n 1, 47, 0, 0, []), some (.iadd, 48, 0, 0, [])],
  [some (.dup2, 49, 0, 0, []), some (.iaload, 50, 0, 0, []), some (.iload 4, 52, 0, 0, []), none, some (.isub, 53, 0, 0, []), some (.iastore, 54, 0, 0, []), some (.aload_n 0, 55, 0, 0, []), some (.iload_n 1, 56, 0, 0, []), some (.invokevirtual 283, 59, 0, 0, []), none, none, some (.aload_n 0, 60, 0, 0, []), some (.iload_n 2, 61, 0, 0, []), some (.invokevirtual 283, 64, 0, 0, []), none, none],
  [some (.iload_n 3, 65, 0, 0, []), some (.iload 4, 67, 0, 0, []), none, some (.iadd, 68, 0, 0, []), some (.ireturn, 69, 0, 0, [])]]
def m_X6_danceBoth : MT := ((cd_X6_danceBoth, 6, 0, 0, 1), (yX6_danceBoth, cX6_danceBoth, 5, (some .int)))
def cd_X6_dance : List (List (Option Ent)) := [[some (.aload_n 0, 1, 0, 0, []), some (.iload_n 1, 2, 0, 0, []), some (.iload_n 2, 3, 0, 0, []), some (.invokevirtual 93, 6, 0, 0, []), none, none, some (.ifCond .ne 6, 9, 12, 0, []), none, none, some (.bipush (-2), 11, 0, (-2), []), none, some (.ireturn, 12, 0, 0, []), some (.aload_n 0, 13, 0, 0, []), some (.iload_n 1, 14, 0, 0, []), some (.iload_n 2, 15, 0, 0, []), some (.invokevirtual 280, 18, 0, 0, [])],
  [none, none, some (.ifCond .eq 12, 21, 30, 0, []), none, none, some (.aload_n 0, 22, 0, 0, []), some (.iload_n 1, 23, 0, 0, []), some (.iload_n 2, 24, 0, 0, []), some (.invokevirtual 287, 27, 0, 0, []), none, none, some (.goto 5, 30, 32, 0, []), none, none, some (.bipush (-3), 32, 0, (-3), []), none],
  [some (.ireturn, 33, 0, 0, [])]]
def m_X6_dance : MT := ((cd_X6_dance, 6, 0, 0, 1), (yX6_dance, cX6_dance, 3, (some .int)))
def cd_X6_passes : List (List (Option Ent)) := [[some (.aload_n 0, 1, 0, 0, []), some (.iconst 0, 2, 0, 0, []), some (.putfield 290, 5, 0, 0, []), none, none, some (.iconst 0, 6, 0, 0, []), some (.istore_n 1, 7, 0, 0, []), some (.iconst 0, 8, 0, 0, []), some (.istore_n 2, 9, 0, 0, []), some (.iload_n 2, 10, 0, 0, []), some (.aload_n 0, 11, 0, 0, []), some (.getfield 83, 14, 0, 0, []), none, none, some (.if_icmp .ge 75, 17, 89, 0, []), none],
  [none, some (.iload_n 2, 18, 0, 0, []), some (.iconst 1, 19, 0, 1, []), some (.iadd, 20, 0, 0, []), some (.istore_n 3, 21, 0, 0, []), some (.iload_n 3, 22, 0, 0, []), some (.aload_n 0, 23, 0, 0, []), some (.getfield 83, 26, 0, 0, []), none, none, some (.if_icmp .ge 57, 29, 83, 0, []), none, none, some (.iconst 1, 30, 0, 1, []), some (.iload_n 2, 31, 0, 0, []), some (.ishl, 32, 0, 0, [])],
  [some (.iconst 1, 33, 0, 1, []), some (.iload_n 3, 34, 0, 0, []), some (.ishl, 35, 0, 0, []), some (.ior, 36, 0, 0, []), some (.istore 4, 38, 0, 0, []), none, some (.aload_n 0, 39, 0, 0, []), some (.getfield 290, 42, 0, 0, []), none, none, some (.iload 4, 44, 0, 0, []), none, some (.iand, 45, 0, 0, []), some (.ifCond .ne 32, 48, 77, 0, []), none, none],
  [some (.aload_n 0, 49, 0, 0, []), some (.iload_n 2, 50, 0, 0, []), some (.iload_n 3, 51, 0, 0, []), some (.invokevirtual 280, 54, 0, 0, []), none, none, some (.ifCond .eq 23, 57, 77, 0, []), none, none, some (.iload_n 1, 58, 0, 0, []), some (.aload_n 0, 59, 0, 0, []), some (.iload_n 2, 60, 0, 0, []), some (.iload_n 3, 61, 0, 0, []), some (.invokevirtual 287, 64, 0, 0, []), none, none],
  [some (.iadd, 65, 0, 0, []), some (.istore_n 1, 66, 0, 0, []), some (.aload_n 0, 67, 0, 0, []), some (.dup, 68, 0, 0, []), some (.getfield 290, 71, 0, 0, []), none, none, some (.iload 4, 73, 0, 0, []), none, some (.ior, 74, 0, 0, []), some (.putfield 290, 77, 0, 0, []), none, none, some (.iinc 3 1, 80, 0, 1, []), none, none],
  [some (.goto (-59), 83, 21, 0, []), none, none, some (.iinc 2 1, 86, 0, 1, []), none, none, some (.goto (-77), 89, 9, 0, []), none, none, some (.aload_n 0, 90, 0, 0, []), some (.dup, 91, 0, 0, []), some (.getfield 114, 94, 0, 0, []), none, none, some (.iconst 1, 95, 0, 1, []), some (.iadd, 96, 0, 0, [])],
  [some (.putfield 114, 99, 0, 0, []), none, none, some (.iload_n 1, 100, 0, 0, []), some (.ireturn, 101, 0, 0, [])]]
def m_X6_passes : MT := ((cd_X6_passes, 6, 0, 0, 1), (yX6_passes, cX6_passes, 5, (some .int)))
def cd_X6_round : List (List (Option Ent)) := [[some (.aload_n 0, 1, 0, 0, []), some (.getfield 114, 4, 0, 0, []), none, none, some (.sipush 999, 7, 0, 999, []), none, none, some (.if_icmp .ne 8, 10, 15, 0, []), none, none, some (.bipush (-3), 12, 0, (-3), []), none, some (.goto 7, 15, 19, 0, []), none, none, some (.aload_n 0, 16, 0, 0, [])],
  [some (.invokevirtual 293, 19, 0, 0, []), none, none, some (.ireturn, 20, 0, 0, [])]]
def m_X6_round : MT := ((cd_X6_round, 6, 0, 0, 1), (yX6_round, cX6_round, 1, (some .int)))
def cd_X6_night : List (List (Option Ent)) := [[some (.aload_n 0, 1, 0, 0, []), some (.getfield 117, 4, 0, 0, []), none, none, some (.sipush 999, 7, 0, 999, []), none, none, some (.if_icmp .ne 6, 10, 13, 0, []), none, none, some (.bipush (-3), 12, 0, (-3), []), none, some (.ireturn, 13, 0, 0, []), some (.iconst 0, 14, 0, 0, []), some (.istore_n 1, 15, 0, 0, []), some (.iconst 0, 16, 0, 0, [])],
  [some (.istore_n 2, 17, 0, 0, []), some (.iload_n 2, 18, 0, 0, []), some (.aload_n 0, 19, 0, 0, []), some (.getfield 83, 22, 0, 0, []), none, none, some (.if_icmp .ge 33, 25, 55, 0, []), none, none, some (.iload_n 1, 26, 0, 0, []), some (.aload_n 0, 27, 0, 0, []), some (.getfield 26, 30, 0, 0, []), none, none, some (.iconst 2, 31, 0, 2, []), some (.iload_n 2, 32, 0, 0, [])],
  [some (.imul, 33, 0, 0, []), some (.iconst 1, 34, 0, 1, []), some (.iadd, 35, 0, 0, []), some (.iaload, 36, 0, 0, []), some (.iadd, 37, 0, 0, []), some (.istore_n 1, 38, 0, 0, []), some (.aload_n 0, 39, 0, 0, []), some (.getfield 26, 42, 0, 0, []), none, none, some (.iconst 2, 43, 0, 2, []), some (.iload_n 2, 44, 0, 0, []), some (.imul, 45, 0, 0, []), some (.iconst 1, 46, 0, 1, []), some (.iadd, 47, 0, 0, []), some (.iconst 0, 48, 0, 0, [])],
  [some (.iastore, 49, 0, 0, []), some (.iinc 2 1, 52, 0, 1, []), none, none, some (.goto (-35), 55, 17, 0, []), none, none, some (.aload_n 0, 56, 0, 0, []), some (.dup, 57, 0, 0, []), some (.getfield 117, 60, 0, 0, []), none, none, some (.iconst 1, 61, 0, 1, []), some (.iadd, 62, 0, 0, []), some (.putfield 117, 65, 0, 0, []), none],
  [none, some (.iload_n 1, 66, 0, 0, []), some (.ireturn, 67, 0, 0, [])]]
def m_X6_night : MT := ((cd_X6_night, 6, 0, 0, 1), (yX6_night, cX6_night, 3, (some .int)))
def cd_X6_ringOf : List (List (Option Ent)) := [[some (.iconst 0, 1, 0, 0, []), some (.istore_n 2, 2, 0, 0, []), some (.iconst 0, 3, 0, 0, []), some (.istore_n 3, 4, 0, 0, []), some (.iload_n 1, 5, 0, 0, []), some (.istore 4, 7, 0, 0, []), none, some (.iload 4, 9, 0, 0, []), none, some (.ifCond .le 66, 12, 75, 0, []), none, none, some (.iload_n 2, 13, 0, 0, []), some (.iconst 5, 14, 0, 5, []), some (.if_icmp .ge 61, 17, 75, 0, []), none],
  [none, some (.iload 4, 19, 0, 0, []), none, some (.bipush 10, 21, 0, 10, []), none, some (.irem, 22, 0, 0, []), some (.iconst 1, 23, 0, 1, []), some (.isub, 24, 0, 0, []), some (.istore 5, 26, 0, 0, []), none, some (.aload_n 0, 27, 0, 0, []), some (.iload 5, 29, 0, 0, []), none, some (.invokevirtual 90, 32, 0, 0, []), none, none],
  [some (.ifCond .eq 13, 35, 45, 0, []), none, none, some (.iload_n 3, 36, 0, 0, []), some (.iload 5, 38, 0, 0, []), none, some (.ishr, 39, 0, 0, []), some (.iconst 1, 40, 0, 1, []), some (.iand, 41, 0, 0, []), some (.iconst 1, 42, 0, 1, []), some (.if_icmp .ne 5, 45, 47, 0, []), none, none, some (.iconst 0, 46, 0, 0, []), some (.ireturn, 47, 0, 0, []), some (.iload_n 3, 48, 0, 0, [])],
  [some (.iconst 1, 49, 0, 1, []), some (.iload 5, 51, 0, 0, []), none, some (.ishl, 52, 0, 0, []), some (.ior, 53, 0, 0, []), some (.istore_n 3, 54, 0, 0, []), some (.aload_n 0, 55, 0, 0, []), some (.getfield 35, 58, 0, 0, []), none, none, some (.iload_n 2, 59, 0, 0, []), some (.iload 5, 61, 0, 0, []), none, some (.iastore, 62, 0, 0, []), some (.iinc 2 1, 65, 0, 1, []), none],
  [none, some (.iload 4, 67, 0, 0, []), none, some (.bipush 10, 69, 0, 10, []), none, some (.idiv, 70, 0, 0, []), some (.istore 4, 72, 0, 0, []), none, some (.goto (-65), 75, 7, 0, []), none, none, some (.iload_n 1, 76, 0, 0, []), some (.ldc_w 296, 79, 0, 0, []), none, none, some (.if_icmp .gt 8, 82, 87, 0, [])],
  [none, none, some (.iload_n 2, 83, 0, 0, []), some (.iconst 2, 84, 0, 2, []), some (.if_icmp .ge 7, 87, 91, 0, []), none, none, some (.iconst 0, 88, 0, 0, []), some (.goto 4, 91, 92, 0, []), none, none, some (.iload_n 2, 92, 0, 0, []), some (.ireturn, 93, 0, 0, [])]]
def m_X6_ringOf : MT := ((cd_X6_ringOf, 6, 0, 0, 1), (yX6_ringOf, cX6_ringOf, 6, (some .int)))
def cd_X6_strike : List (List (Option Ent)) := [[some (.aload_n 0, 1, 0, 0, []), some (.iload_n 1, 2, 0, 0, []), some (.invokevirtual 297, 5, 0, 0, []), none, none, some (.istore_n 2, 6, 0, 0, []), some (.iload_n 2, 7, 0, 0, []), some (.ifCond .ne 6, 10, 13, 0, []), none, none, some (.bipush (-2), 12, 0, (-2), []), none, some (.ireturn, 13, 0, 0, []), some (.bipush 99, 15, 0, 99, []), none, some (.istore_n 3, 16, 0, 0, [])],
  [some (.iconst 0, 17, 0, 0, []), some (.istore 4, 19, 0, 0, []), none, some (.iload 4, 21, 0, 0, []), none, some (.iload_n 2, 22, 0, 0, []), some (.if_icmp .ge 37, 25, 59, 0, []), none, none, some (.aload_n 0, 26, 0, 0, []), some (.aload_n 0, 27, 0, 0, []), some (.getfield 35, 30, 0, 0, []), none, none, some (.iload 4, 32, 0, 0, []), none],
  [some (.iconst 1, 33, 0, 1, []), some (.iadd, 34, 0, 0, []), some (.iload_n 2, 35, 0, 0, []), some (.irem, 36, 0, 0, []), some (.iaload, 37, 0, 0, []), some (.aload_n 0, 38, 0, 0, []), some (.getfield 35, 41, 0, 0, []), none, none, some (.iload 4, 43, 0, 0, []), none, some (.iaload, 44, 0, 0, []), some (.invokevirtual 141, 47, 0, 0, []), none, none, some (.iconst 0, 48, 0, 0, [])],
  [some (.iload_n 3, 49, 0, 0, []), some (.invokestatic 262, 52, 0, 0, []), none, none, some (.istore_n 3, 53, 0, 0, []), some (.iinc 4 1, 56, 0, 1, []), none, none, some (.goto (-37), 59, 19, 0, []), none, none, some (.iload_n 3, 60, 0, 0, []), some (.ifCond .ne 6, 63, 66, 0, []), none, none, some (.bipush (-3), 65, 0, (-3), [])],
  [none, some (.ireturn, 66, 0, 0, []), some (.iconst 0, 67, 0, 0, []), some (.istore 4, 69, 0, 0, []), none, some (.iload 4, 71, 0, 0, []), none, some (.iload_n 2, 72, 0, 0, []), some (.if_icmp .ge 39, 75, 111, 0, []), none, none, some (.aload_n 0, 76, 0, 0, []), some (.getfield 29, 79, 0, 0, []), none, none, some (.iconst 5, 80, 0, 5, [])],
  [some (.aload_n 0, 81, 0, 0, []), some (.getfield 35, 84, 0, 0, []), none, none, some (.iload 4, 86, 0, 0, []), none, some (.iconst 1, 87, 0, 1, []), some (.iadd, 88, 0, 0, []), some (.iload_n 2, 89, 0, 0, []), some (.irem, 90, 0, 0, []), some (.iaload, 91, 0, 0, []), some (.imul, 92, 0, 0, []), some (.aload_n 0, 93, 0, 0, []), some (.getfield 35, 96, 0, 0, []), none, none],
  [some (.iload 4, 98, 0, 0, []), none, some (.iaload, 99, 0, 0, []), some (.iadd, 100, 0, 0, []), some (.dup2, 101, 0, 0, []), some (.iaload, 102, 0, 0, []), some (.iload_n 3, 103, 0, 0, []), some (.isub, 104, 0, 0, []), some (.iastore, 105, 0, 0, []), some (.iinc 4 1, 108, 0, 1, []), none, none, some (.goto (-39), 111, 69, 0, []), none, none, some (.iload_n 3, 112, 0, 0, [])],
  [some (.ireturn, 113, 0, 0, [])]]
def m_X6_strike : MT := ((cd_X6_strike, 6, 0, 0, 1), (yX6_strike, cX6_strike, 5, (some .int)))
def cd_X6_laysAside : List (List (Option Ent)) := [[some (.iconst 0, 1, 0, 0, []), some (.istore_n 1, 2, 0, 0, []), some (.iload_n 1, 3, 0, 0, []), some (.bipush 25, 5, 0, 25, []), none, some (.if_icmp .ge 21, 8, 26, 0, []), none, none, some (.aload_n 0, 9, 0, 0, []), some (.getfield 38, 12, 0, 0, []), none, none, some (.iload_n 1, 13, 0, 0, []), some (.aload_n 0, 14, 0, 0, []), some (.getfield 29, 17, 0, 0, []), none],
  [none, some (.iload_n 1, 18, 0, 0, []), some (.iaload, 19, 0, 0, []), some (.iastore, 20, 0, 0, []), some (.iinc 1 1, 23, 0, 1, []), none, none, some (.goto (-21), 26, 2, 0, []), none, none, some (.iconst 0, 27, 0, 0, []), some (.istore_n 1, 28, 0, 0, []), some (.iload_n 1, 29, 0, 0, []), some (.bipush 10, 31, 0, 10, []), none, some (.if_icmp .ge 24, 34, 55, 0, [])],
  [none, none, some (.aload_n 0, 35, 0, 0, []), some (.getfield 38, 38, 0, 0, []), none, none, some (.bipush 25, 40, 0, 25, []), none, some (.iload_n 1, 41, 0, 0, []), some (.iadd, 42, 0, 0, []), some (.aload_n 0, 43, 0, 0, []), some (.getfield 26, 46, 0, 0, []), none, none, some (.iload_n 1, 47, 0, 0, []), some (.iaload, 48, 0, 0, [])],
  [some (.iastore, 49, 0, 0, []), some (.iinc 1 1, 52, 0, 1, []), none, none, some (.goto (-24), 55, 28, 0, []), none, none, some (.aload_n 0, 56, 0, 0, []), some (.getfield 38, 59, 0, 0, []), none, none, some (.bipush 35, 61, 0, 35, []), none, some (.aload_n 0, 62, 0, 0, []), some (.getfield 114, 65, 0, 0, []), none],
  [none, some (.iastore, 66, 0, 0, []), some (.return_, 67, 0, 0, [])]]
def m_X6_laysAside : MT := ((cd_X6_laysAside, 6, 0, 0, 0), (yX6_laysAside, cX6_laysAside, 2, none))
def cd_X6_laysBack : List (List (Option Ent)) := [[some (.iconst 0, 1, 0, 0, []), some (.istore_n 1, 2, 0, 0, []), some (.iload_n 1, 3, 0, 0, []), some (.bipush 25, 5, 0, 25, []), none, some (.if_icmp .ge 21, 8, 26, 0, []), none, none, some (.aload_n 0, 9, 0, 0, []), some (.getfield 29, 12, 0, 0, []), none, none, some (.iload_n 1, 13, 0, 0, []), some (.aload_n 0, 14, 0, 0, []), some (.getfield 38, 17, 0, 0, []), none],
  [none, some (.iload_n 1, 18, 0, 0, []), some (.iaload, 19, 0, 0, []), some (.iastore, 20, 0, 0, []), some (.iinc 1 1, 23, 0, 1, []), none, none, some (.goto (-21), 26, 2, 0, []), none, none, some (.iconst 0, 27, 0, 0, []), some (.istore_n 1, 28, 0, 0, []), some (.iload_n 1, 29, 0, 0, []), some (.bipush 10, 31, 0, 10, []), none, some (.if_icmp .ge 24, 34, 55, 0, [])],
  [none, none, some (.aload_n 0, 35, 0, 0, []), some (.getfield 26, 38, 0, 0, []), none, none, some (.iload_n 1, 39, 0, 0, []), some (.aload_n 0, 40, 0, 0, []), some (.getfield 38, 43, 0, 0, []), none, none, some (.bipush 25, 45, 0, 25, []), none, some (.iload_n 1, 46, 0, 0, []), some (.iadd, 47, 0, 0, []), some (.iaload, 48, 0, 0, [])],
  [some (.iastore, 49, 0, 0, []), some (.iinc 1 1, 52, 0, 1, []), none, none, some (.goto (-24), 55, 28, 0, []), none, none, some (.aload_n 0, 56, 0, 0, []), some (.aload_n 0, 57, 0, 0, []), some (.getfield 38, 60, 0, 0, []), none, none, some (.bipush 35, 62, 0, 35, []), none, some (.iaload, 63, 0, 0, []), some (.putfield 114, 66, 0, 0, [])],
  [none, none, some (.return_, 67, 0, 0, [])]]
def m_X6_laysBack : MT := ((cd_X6_laysBack, 6, 0, 0, 0), (yX6_laysBack, cX6_laysBack, 2, none))
def cd_X6_owedSet : List (List (Option Ent)) := [[some (.iconst 0, 1, 0, 0, []), some (.istore_n 1, 2, 0, 0, []), some (.iconst 0, 3, 0, 0, []), some (.istore_n 2, 4, 0, 0, []), some (.iload_n 2, 5, 0, 0, []), some (.aload_n 0, 6, 0, 0, []), some (.getfield 83, 9, 0, 0, []), none, none, some (.if_icmp .ge 27, 12, 36, 0, []), none, none, some (.iload_n 1, 13, 0, 0, []), some (.aload_n 0, 14, 0, 0, []), some (.iload_n 2, 15, 0, 0, []), some (.invokevirtual 138, 18, 0, 0, [])],
  [none, none, some (.ifCond .le 7, 21, 25, 0, []), none, none, some (.iconst 1, 22, 0, 1, []), some (.goto 4, 25, 26, 0, []), none, none, some (.iconst 0, 26, 0, 0, []), some (.iload_n 2, 27, 0, 0, []), some (.ishl, 28, 0, 0, []), some (.ior, 29, 0, 0, []), some (.istore_n 1, 30, 0, 0, []), some (.iinc 2 1, 33, 0, 1, []), none],
  [none, some (.goto (-29), 36, 4, 0, []), none, none, some (.iload_n 1, 37, 0, 0, []), some (.ireturn, 38, 0, 0, [])]]
def m_X6_owedSet : MT := ((cd_X6_owedSet, 6, 0, 0, 1), (yX6_owedSet, cX6_owedSet, 3, (some .int)))
def cd_X6_run : List (List (Option Ent)) := [[some (.iload_n 1, 1, 0, 0, []), some (.i2l, 2, 0, 0, []), some (.lconst 0, 3, 0, 0, []), some (.ldc2_w 300, 6, 0, 0, []), none, none, some (.invokestatic 86, 9, 0, 0, []), none, none, some (.ifCond .eq 31, 12, 40, 0, []), none, none, some (.iload 4, 14, 0, 0, []), none, some (.i2l, 15, 0, 0, []), some (.lconst 0, 16, 0, 0, [])],
  [some (.ldc2_w 275, 19, 0, 0, []), none, none, some (.invokestatic 86, 22, 0, 0, []), none, none, some (.ifCond .eq 18, 25, 40, 0, []), none, none, some (.iload 4, 27, 0, 0, []), none, some (.iconst 2, 28, 0, 2, []), some (.if_icmp .ne 15, 31, 43, 0, []), none, none, some (.aload_n 0, 32, 0, 0, [])],
  [some (.iload_n 2, 33, 0, 0, []), some (.iload_n 3, 34, 0, 0, []), some (.invokevirtual 93, 37, 0, 0, []), none, none, some (.ifCond .ne 6, 40, 43, 0, []), none, none, some (.bipush (-2), 42, 0, (-2), []), none, some (.ireturn, 43, 0, 0, []), some (.aload_n 0, 44, 0, 0, []), some (.invokevirtual 302, 47, 0, 0, []), none, none, some (.iconst 0, 48, 0, 0, [])],
  [some (.istore 5, 50, 0, 0, []), none, some (.iload 5, 52, 0, 0, []), none, some (.iload_n 1, 53, 0, 0, []), some (.if_icmp .ge 14, 56, 67, 0, []), none, none, some (.aload_n 0, 57, 0, 0, []), some (.invokevirtual 293, 60, 0, 0, []), none, none, some (.pop, 61, 0, 0, []), some (.iinc 5 1, 64, 0, 1, []), none, none],
  [some (.goto (-14), 67, 50, 0, []), none, none, some (.iload 4, 69, 0, 0, []), none, some (.ifCond .ne 10, 72, 79, 0, []), none, none, some (.aload_n 0, 73, 0, 0, []), some (.invokevirtual 305, 76, 0, 0, []), none, none, some (.goto 22, 79, 98, 0, []), none, none, some (.iload 4, 81, 0, 0, [])],
  [none, some (.iconst 1, 82, 0, 1, []), some (.if_icmp .ne 10, 85, 92, 0, []), none, none, some (.aload_n 0, 86, 0, 0, []), some (.invokevirtual 308, 89, 0, 0, []), none, none, some (.goto 9, 92, 98, 0, []), none, none, some (.aload_n 0, 93, 0, 0, []), some (.iload_n 2, 94, 0, 0, []), some (.iload_n 3, 95, 0, 0, []), some (.invokevirtual 141, 98, 0, 0, [])],
  [none, none, some (.istore 5, 100, 0, 0, []), none, some (.aload_n 0, 101, 0, 0, []), some (.invokevirtual 311, 104, 0, 0, []), none, none, some (.iload 5, 106, 0, 0, []), none, some (.ireturn, 107, 0, 0, [])]]
def m_X6_run : MT := ((cd_X6_run, 6, 0, 0, 1), (yX6_run, cX6_run, 6, (some .int)))
def cd_X6_both_ : List (List (Option Ent)) := [[some (.iload_n 0, 1, 0, 0, []), some (.iconst 4, 2, 0, 4, []), some (.if_icmp .ge 7, 5, 9, 0, []), none, none, some (.iconst 0, 6, 0, 0, []), some (.goto 24, 9, 30, 0, []), none, none, some (.iload_n 0, 10, 0, 0, []), some (.bipush 7, 12, 0, 7, []), none, some (.if_icmp .ge 7, 15, 19, 0, []), none, none, some (.iconst 1, 16, 0, 1, [])],
  [some (.goto 14, 19, 30, 0, []), none, none, some (.iload_n 0, 20, 0, 0, []), some (.bipush 9, 22, 0, 9, []), none, some (.if_icmp .ge 7, 25, 29, 0, []), none, none, some (.iconst 2, 26, 0, 2, []), some (.goto 4, 29, 30, 0, []), none, none, some (.iconst 3, 30, 0, 3, []), some (.istore_n 1, 31, 0, 0, []), some (.iload_n 0, 32, 0, 0, [])],
  [some (.iconst 4, 33, 0, 4, []), some (.if_icmp .ge 9, 36, 42, 0, []), none, none, some (.iload_n 0, 37, 0, 0, []), some (.iconst 1, 38, 0, 1, []), some (.iadd, 39, 0, 0, []), some (.goto 28, 42, 67, 0, []), none, none, some (.iload_n 0, 43, 0, 0, []), some (.bipush 7, 45, 0, 7, []), none, some (.if_icmp .ge 9, 48, 54, 0, []), none, none],
  [some (.iload_n 0, 49, 0, 0, []), some (.iconst 2, 50, 0, 2, []), some (.isub, 51, 0, 0, []), some (.goto 16, 54, 67, 0, []), none, none, some (.iload_n 0, 55, 0, 0, []), some (.bipush 9, 57, 0, 9, []), none, some (.if_icmp .ge 9, 60, 66, 0, []), none, none, some (.iload_n 0, 61, 0, 0, []), some (.iconst 4, 62, 0, 4, []), some (.isub, 63, 0, 0, []), some (.goto 4, 66, 67, 0, [])],
  [none, none, some (.iconst 4, 67, 0, 4, []), some (.istore_n 2, 68, 0, 0, []), some (.iconst 1, 69, 0, 1, []), some (.iload_n 1, 70, 0, 0, []), some (.ishl, 71, 0, 0, []), some (.iconst 1, 72, 0, 1, []), some (.iload_n 2, 73, 0, 0, []), some (.ishl, 74, 0, 0, []), some (.ior, 75, 0, 0, []), some (.ireturn, 76, 0, 0, [])]]
def m_X6_both_ : MT := ((cd_X6_both_, 6, 0, 0, 1), (yX6_both_, cX6_both_, 3, (some .int)))
def cd_X6_lesser : List (List (Option Ent)) := [[some (.iload_n 0, 1, 0, 0, []), some (.iconst 1, 2, 0, 1, []), some (.iand, 3, 0, 0, []), some (.iconst 1, 4, 0, 1, []), some (.if_icmp .ne 7, 7, 11, 0, []), none, none, some (.iconst 0, 8, 0, 0, []), some (.goto 26, 11, 34, 0, []), none, none, some (.iload_n 0, 12, 0, 0, []), some (.iconst 2, 13, 0, 2, []), some (.iand, 14, 0, 0, []), some (.iconst 2, 15, 0, 2, []), some (.if_icmp .ne 7, 18, 22, 0, [])],
  [none, none, some (.iconst 1, 19, 0, 1, []), some (.goto 15, 22, 34, 0, []), none, none, some (.iload_n 0, 23, 0, 0, []), some (.iconst 4, 24, 0, 4, []), some (.iand, 25, 0, 0, []), some (.iconst 4, 26, 0, 4, []), some (.if_icmp .ne 7, 29, 33, 0, []), none, none, some (.iconst 2, 30, 0, 2, []), some (.goto 4, 33, 34, 0, []), none],
  [none, some (.iconst 3, 34, 0, 3, []), some (.ireturn, 35, 0, 0, [])]]
def m_X6_lesser : MT := ((cd_X6_lesser, 6, 0, 0, 1), (yX6_lesser, cX6_lesser, 1, (some .int)))
def cd_X6_greater : List (List (Option Ent)) := [[some (.iload_n 0, 1, 0, 0, []), some (.bipush 16, 3, 0, 16, []), none, some (.if_icmp .lt 7, 6, 10, 0, []), none, none, some (.iconst 4, 7, 0, 4, []), some (.goto 23, 10, 30, 0, []), none, none, some (.iload_n 0, 11, 0, 0, []), some (.bipush 8, 13, 0, 8, []), none, some (.if_icmp .lt 7, 16, 20, 0, []), none, none],
  [some (.iconst 3, 17, 0, 3, []), some (.goto 13, 20, 30, 0, []), none, none, some (.iload_n 0, 21, 0, 0, []), some (.iconst 4, 22, 0, 4, []), some (.if_icmp .lt 7, 25, 29, 0, []), none, none, some (.iconst 2, 26, 0, 2, []), some (.goto 4, 29, 30, 0, []), none, none, some (.iconst 1, 30, 0, 1, []), some (.ireturn, 31, 0, 0, [])]]
def m_X6_greater : MT := ((cd_X6_greater, 6, 0, 0, 1), (yX6_greater, cX6_greater, 1, (some .int)))
def cd_X6_isApart : List (List (Option Ent)) := [[some (.iconst 0, 1, 0, 0, []), some (.istore_n 1, 2, 0, 0, []), some (.iconst 0, 3, 0, 0, []), some (.istore_n 2, 4, 0, 0, []), some (.iload_n 2, 5, 0, 0, []), some (.bipush 10, 7, 0, 10, []), none, some (.if_icmp .ge 39, 10, 46, 0, []), none, none, some (.iload_n 0, 11, 0, 0, []), some (.iload_n 2, 12, 0, 0, []), some (.ishr, 13, 0, 0, []), some (.iconst 1, 14, 0, 1, []), some (.iand, 15, 0, 0, []), some (.iconst 1, 16, 0, 1, [])],
  [some (.if_icmp .ne 10, 19, 26, 0, []), none, none, some (.iload_n 2, 20, 0, 0, []), some (.invokestatic 314, 23, 0, 0, []), none, none, some (.goto 4, 26, 27, 0, []), none, none, some (.iconst 0, 27, 0, 0, []), some (.istore_n 3, 28, 0, 0, []), some (.iload_n 1, 29, 0, 0, []), some (.iload_n 3, 30, 0, 0, []), some (.iand, 31, 0, 0, []), some (.ifCond .eq 5, 34, 36, 0, [])],
  [none, none, some (.iconst 0, 35, 0, 0, []), some (.ireturn, 36, 0, 0, []), some (.iload_n 1, 37, 0, 0, []), some (.iload_n 3, 38, 0, 0, []), some (.ior, 39, 0, 0, []), some (.istore_n 1, 40, 0, 0, []), some (.iinc 2 1, 43, 0, 1, []), none, none, some (.goto (-39), 46, 4, 0, []), none, none, some (.iconst 1, 47, 0, 1, []), some (.ireturn, 48, 0, 0, [])]]
def m_X6_isApart : MT := ((cd_X6_isApart, 6, 0, 0, 4), (yX6_isApart, cX6_isApart, 4, (some .boolean)))
def cd_X6_isSet : List (List (Option Ent)) := [[some (.iconst 0, 1, 0, 0, []), some (.istore_n 2, 2, 0, 0, []), some (.iload_n 2, 3, 0, 0, []), some (.bipush 10, 5, 0, 10, []), none, some (.if_icmp .ge 51, 8, 56, 0, []), none, none, some (.iload_n 2, 9, 0, 0, []), some (.invokestatic 314, 12, 0, 0, []), none, none, some (.istore_n 3, 13, 0, 0, []), some (.iload_n 1, 14, 0, 0, []), some (.iload_n 2, 15, 0, 0, []), some (.ishr, 16, 0, 0, [])],
  [some (.iconst 1, 17, 0, 1, []), some (.iand, 18, 0, 0, []), some (.iconst 1, 19, 0, 1, []), some (.if_icmp .ne 31, 22, 50, 0, []), none, none, some (.aload_n 0, 23, 0, 0, []), some (.iload_n 3, 24, 0, 0, []), some (.invokestatic 316, 27, 0, 0, []), none, none, some (.invokevirtual 90, 30, 0, 0, []), none, none, some (.ifCond .eq 18, 33, 48, 0, []), none],
  [none, some (.aload_n 0, 34, 0, 0, []), some (.iload_n 3, 35, 0, 0, []), some (.invokestatic 319, 38, 0, 0, []), none, none, some (.iload_n 3, 39, 0, 0, []), some (.invokestatic 316, 42, 0, 0, []), none, none, some (.invokevirtual 280, 45, 0, 0, []), none, none, some (.ifCond .ne 5, 48, 50, 0, []), none, none],
  [some (.iconst 0, 49, 0, 0, []), some (.ireturn, 50, 0, 0, []), some (.iinc 2 1, 53, 0, 1, []), none, none, some (.goto (-51), 56, 2, 0, []), none, none, some (.iconst 1, 57, 0, 1, []), some (.ireturn, 58, 0, 0, [])]]
def m_X6_isSet : MT := ((cd_X6_isSet, 6, 0, 0, 4), (yX6_isSet, cX6_isSet, 4, (some .boolean)))
def cd_X6_dancesOf : List (List (Option Ent)) := [[some (.iconst 0, 1, 0, 0, []), some (.istore_n 2, 2, 0, 0, []), some (.iconst 0, 3, 0, 0, []), some (.istore_n 3, 4, 0, 0, []), some (.iload_n 3, 5, 0, 0, []), some (.bipush 10, 7, 0, 10, []), none, some (.if_icmp .ge 43, 10, 50, 0, []), none, none, some (.iload_n 2, 11, 0, 0, []), some (.iload_n 1, 12, 0, 0, []), some (.iload_n 3, 13, 0, 0, []), some (.ishr, 14, 0, 0, []), some (.iconst 1, 15, 0, 1, []), some (.iand, 16, 0, 0, [])],
  [some (.iconst 1, 17, 0, 1, []), some (.if_icmp .ne 24, 20, 41, 0, []), none, none, some (.aload_n 0, 21, 0, 0, []), some (.iload_n 3, 22, 0, 0, []), some (.invokestatic 314, 25, 0, 0, []), none, none, some (.invokestatic 319, 28, 0, 0, []), none, none, some (.iload_n 3, 29, 0, 0, []), some (.invokestatic 314, 32, 0, 0, []), none, none],
  [some (.invokestatic 316, 35, 0, 0, []), none, none, some (.invokevirtual 287, 38, 0, 0, []), none, none, some (.goto 4, 41, 42, 0, []), none, none, some (.iconst 0, 42, 0, 0, []), some (.iadd, 43, 0, 0, []), some (.istore_n 2, 44, 0, 0, []), some (.iinc 3 1, 47, 0, 1, []), none, none, some (.goto (-43), 50, 4, 0, [])],
  [none, none, some (.iload_n 2, 51, 0, 0, []), some (.ireturn, 52, 0, 0, [])]]
def m_X6_dancesOf : MT := ((cd_X6_dancesOf, 6, 0, 0, 1), (yX6_dancesOf, cX6_dancesOf, 4, (some .int)))
def cd_X6_bestSet : List (List (Option Ent)) := [[some (.iconst 0, 1, 0, 0, []), some (.istore_n 2, 2, 0, 0, []), some (.iconst 0, 3, 0, 0, []), some (.istore_n 3, 4, 0, 0, []), some (.iconst 1, 5, 0, 1, []), some (.istore 4, 7, 0, 0, []), none, some (.iload 4, 9, 0, 0, []), none, some (.bipush 26, 11, 0, 26, []), none, some (.if_icmp .ge 55, 14, 66, 0, []), none, none, some (.aload_n 0, 15, 0, 0, []), some (.getfield 32, 18, 0, 0, [])],
  [none, none, some (.iload 4, 20, 0, 0, []), none, some (.iaload, 21, 0, 0, []), some (.istore 5, 23, 0, 0, []), none, some (.aload_n 0, 24, 0, 0, []), some (.iload 5, 26, 0, 0, []), none, some (.invokevirtual 322, 29, 0, 0, []), none, none, some (.ifCond .eq 31, 32, 60, 0, []), none, none],
  [some (.aload_n 0, 33, 0, 0, []), some (.invokevirtual 302, 36, 0, 0, []), none, none, some (.aload_n 0, 37, 0, 0, []), some (.iload 5, 39, 0, 0, []), none, some (.invokevirtual 325, 42, 0, 0, []), none, none, some (.istore 6, 44, 0, 0, []), none, some (.aload_n 0, 45, 0, 0, []), some (.invokevirtual 311, 48, 0, 0, []), none, none],
  [some (.iload 6, 50, 0, 0, []), none, some (.iload_n 3, 51, 0, 0, []), some (.if_icmp .le 9, 54, 60, 0, []), none, none, some (.iload 5, 56, 0, 0, []), none, some (.istore_n 2, 57, 0, 0, []), some (.iload 6, 59, 0, 0, []), none, some (.istore_n 3, 60, 0, 0, []), some (.iinc 4 1, 63, 0, 1, []), none, none, some (.goto (-56), 66, 7, 0, [])],
  [none, none, some (.iload_n 1, 67, 0, 0, []), some (.ifCond .ne 7, 70, 74, 0, []), none, none, some (.iload_n 2, 71, 0, 0, []), some (.goto 4, 74, 75, 0, []), none, none, some (.iload_n 3, 75, 0, 0, []), some (.ireturn, 76, 0, 0, [])]]
def m_X6_bestSet : MT := ((cd_X6_bestSet, 6, 0, 0, 1), (yX6_bestSet, cX6_bestSet, 7, (some .int)))
def cd_X6_nextRound : List (List (Option Ent)) := [[some (.aload_n 0, 1, 0, 0, []), some (.invokevirtual 302, 4, 0, 0, []), none, none, some (.aload_n 0, 5, 0, 0, []), some (.invokevirtual 293, 8, 0, 0, []), none, none, some (.istore_n 2, 9, 0, 0, []), some (.aload_n 0, 10, 0, 0, []), some (.getfield 290, 13, 0, 0, []), none, none, some (.istore_n 3, 14, 0, 0, []), some (.aload_n 0, 15, 0, 0, []), some (.invokevirtual 311, 18, 0, 0, [])],
  [none, none, some (.iload_n 1, 19, 0, 0, []), some (.iconst 2, 20, 0, 2, []), some (.if_icmp .ne 18, 23, 38, 0, []), none, none, some (.iconst 1, 24, 0, 1, []), some (.aload_n 0, 25, 0, 0, []), some (.getfield 83, 28, 0, 0, []), none, none, some (.ishl, 29, 0, 0, []), some (.iconst 1, 30, 0, 1, []), some (.isub, 31, 0, 0, []), some (.iload_n 3, 32, 0, 0, [])],
  [some (.iconst (-1), 33, 0, (-1), []), some (.ixor, 34, 0, 0, []), some (.iand, 35, 0, 0, []), some (.goto 4, 38, 39, 0, []), none, none, some (.iload_n 2, 39, 0, 0, []), some (.ireturn, 40, 0, 0, [])]]
def m_X6_nextRound : MT := ((cd_X6_nextRound, 6, 0, 0, 1), (yX6_nextRound, cX6_nextRound, 4, (some .int)))
def cd_X6_isPaidBy : List (List (Option Ent)) := [[some (.iload_n 1, 1, 0, 0, []), some (.ifCond .ne 16, 4, 17, 0, []), none, none, some (.aload_n 0, 5, 0, 0, []), some (.invokevirtual 305, 8, 0, 0, []), none, none, some (.ifCond .ne 7, 11, 15, 0, []), none, none, some (.iconst 1, 12, 0, 1, []), some (.goto 4, 15, 16, 0, []), none, none, some (.iconst 0, 16, 0, 0, [])],
  [some (.ireturn, 17, 0, 0, []), some (.iconst 0, 18, 0, 0, []), some (.istore_n 2, 19, 0, 0, []), some (.iload_n 2, 20, 0, 0, []), some (.bipush 25, 22, 0, 25, []), none, some (.if_icmp .ge 26, 25, 48, 0, []), none, none, some (.aload_n 0, 26, 0, 0, []), some (.getfield 41, 29, 0, 0, []), none, none, some (.bipush 25, 31, 0, 25, []), none, some (.iload_n 1, 32, 0, 0, [])],
  [some (.imul, 33, 0, 0, []), some (.iload_n 2, 34, 0, 0, []), some (.iadd, 35, 0, 0, []), some (.aload_n 0, 36, 0, 0, []), some (.getfield 29, 39, 0, 0, []), none, none, some (.iload_n 2, 40, 0, 0, []), some (.iaload, 41, 0, 0, []), some (.iastore, 42, 0, 0, []), some (.iinc 2 1, 45, 0, 1, []), none, none, some (.goto (-26), 48, 19, 0, []), none, none],
  [some (.iconst 0, 49, 0, 0, []), some (.istore_n 2, 50, 0, 0, []), some (.iload_n 2, 51, 0, 0, []), some (.bipush 10, 53, 0, 10, []), none, some (.if_icmp .ge 26, 56, 79, 0, []), none, none, some (.aload_n 0, 57, 0, 0, []), some (.getfield 44, 60, 0, 0, []), none, none, some (.bipush 10, 62, 0, 10, []), none, some (.iload_n 1, 63, 0, 0, []), some (.imul, 64, 0, 0, [])],
  [some (.iload_n 2, 65, 0, 0, []), some (.iadd, 66, 0, 0, []), some (.aload_n 0, 67, 0, 0, []), some (.getfield 26, 70, 0, 0, []), none, none, some (.iload_n 2, 71, 0, 0, []), some (.iaload, 72, 0, 0, []), some (.iastore, 73, 0, 0, []), some (.iinc 2 1, 76, 0, 1, []), none, none, some (.goto (-26), 79, 50, 0, []), none, none, some (.iconst 0, 80, 0, 0, [])],
  [some (.istore_n 2, 81, 0, 0, []), some (.iconst 0, 82, 0, 0, []), some (.istore_n 3, 83, 0, 0, []), some (.iload_n 3, 84, 0, 0, []), some (.bipush 26, 86, 0, 26, []), none, some (.if_icmp .ge 135, 89, 221, 0, []), none, none, some (.iload_n 2, 90, 0, 0, []), some (.ifCond .ne 131, 93, 221, 0, []), none, none, some (.aload_n 0, 94, 0, 0, []), some (.aload_n 0, 95, 0, 0, []), some (.getfield 32, 98, 0, 0, [])],
  [none, none, some (.iload_n 3, 99, 0, 0, []), some (.iaload, 100, 0, 0, []), some (.invokevirtual 322, 103, 0, 0, []), none, none, some (.ifCond .eq 112, 106, 215, 0, []), none, none, some (.aload_n 0, 107, 0, 0, []), some (.aload_n 0, 108, 0, 0, []), some (.getfield 32, 111, 0, 0, []), none, none, some (.iload_n 3, 112, 0, 0, [])],
  [some (.iaload, 113, 0, 0, []), some (.invokevirtual 325, 116, 0, 0, []), none, none, some (.pop, 117, 0, 0, []), some (.aload_n 0, 118, 0, 0, []), some (.dup, 119, 0, 0, []), some (.getfield 114, 122, 0, 0, []), none, none, some (.iconst 1, 123, 0, 1, []), some (.iadd, 124, 0, 0, []), some (.putfield 114, 127, 0, 0, []), none, none, some (.aload_n 0, 128, 0, 0, [])],
  [some (.iload_n 1, 129, 0, 0, []), some (.iconst 1, 130, 0, 1, []), some (.isub, 131, 0, 0, []), some (.invokevirtual 328, 134, 0, 0, []), none, none, some (.istore_n 2, 135, 0, 0, []), some (.aload_n 0, 136, 0, 0, []), some (.dup, 137, 0, 0, []), some (.getfield 114, 140, 0, 0, []), none, none, some (.iconst 1, 141, 0, 1, []), some (.isub, 142, 0, 0, []), some (.putfield 114, 145, 0, 0, []), none],
  [none, some (.iconst 0, 146, 0, 0, []), some (.istore 4, 148, 0, 0, []), none, some (.iload 4, 150, 0, 0, []), none, some (.bipush 25, 152, 0, 25, []), none, some (.if_icmp .ge 28, 155, 180, 0, []), none, none, some (.aload_n 0, 156, 0, 0, []), some (.getfield 29, 159, 0, 0, []), none, none, some (.iload 4, 161, 0, 0, [])],
  [none, some (.aload_n 0, 162, 0, 0, []), some (.getfield 41, 165, 0, 0, []), none, none, some (.bipush 25, 167, 0, 25, []), none, some (.iload_n 1, 168, 0, 0, []), some (.imul, 169, 0, 0, []), some (.iload 4, 171, 0, 0, []), none, some (.iadd, 172, 0, 0, []), some (.iaload, 173, 0, 0, []), some (.iastore, 174, 0, 0, []), some (.iinc 4 1, 177, 0, 1, []), none],
  [none, some (.goto (-29), 180, 148, 0, []), none, none, some (.iconst 0, 181, 0, 0, []), some (.istore 4, 183, 0, 0, []), none, some (.iload 4, 185, 0, 0, []), none, some (.bipush 10, 187, 0, 10, []), none, some (.if_icmp .ge 28, 190, 215, 0, []), none, none, some (.aload_n 0, 191, 0, 0, []), some (.getfield 26, 194, 0, 0, [])],
  [none, none, some (.iload 4, 196, 0, 0, []), none, some (.aload_n 0, 197, 0, 0, []), some (.getfield 44, 200, 0, 0, []), none, none, some (.bipush 10, 202, 0, 10, []), none, some (.iload_n 1, 203, 0, 0, []), some (.imul, 204, 0, 0, []), some (.iload 4, 206, 0, 0, []), none, some (.iadd, 207, 0, 0, []), some (.iaload, 208, 0, 0, [])],
  [some (.iastore, 209, 0, 0, []), some (.iinc 4 1, 212, 0, 1, []), none, none, some (.goto (-29), 215, 183, 0, []), none, none, some (.iinc 3 1, 218, 0, 1, []), none, none, some (.goto (-135), 221, 83, 0, []), none, none, some (.iload_n 2, 222, 0, 0, []), some (.ireturn, 223, 0, 0, [])]]
def m_X6_isPaidBy : MT := ((cd_X6_isPaidBy, 6, 0, 0, 4), (yX6_isPaidBy, cX6_isPaidBy, 5, (some .boolean)))
def cd_X6_soonest : List (List (Option Ent)) := [[some (.iconst 0, 1, 0, 0, []), some (.istore_n 1, 2, 0, 0, []), some (.iload_n 1, 3, 0, 0, []), some (.iconst 4, 4, 0, 4, []), some (.if_icmp .ge 19, 7, 23, 0, []), none, none, some (.aload_n 0, 8, 0, 0, []), some (.iload_n 1, 9, 0, 0, []), some (.invokevirtual 328, 12, 0, 0, []), none, none, some (.ifCond .eq 5, 15, 17, 0, []), none, none, some (.iload_n 1, 16, 0, 0, [])],
  [some (.ireturn, 17, 0, 0, []), some (.iinc 1 1, 20, 0, 1, []), none, none, some (.goto (-18), 23, 2, 0, []), none, none, some (.iconst (-1), 24, 0, (-1), []), some (.ireturn, 25, 0, 0, [])]]
def m_X6_soonest : MT := ((cd_X6_soonest, 6, 0, 0, 1), (yX6_soonest, cX6_soonest, 2, (some .int)))
def cd_X6_leastOwed : List (List (Option Ent)) := [[some (.iconst 0, 1, 0, 0, []), some (.istore_n 1, 2, 0, 0, []), some (.iconst 0, 3, 0, 0, []), some (.istore_n 2, 4, 0, 0, []), some (.iload_n 2, 5, 0, 0, []), some (.aload_n 0, 6, 0, 0, []), some (.getfield 83, 9, 0, 0, []), none, none, some (.if_icmp .ge 30, 12, 39, 0, []), none, none, some (.iload_n 1, 13, 0, 0, []), some (.aload_n 0, 14, 0, 0, []), some (.iload_n 2, 15, 0, 0, []), some (.invokevirtual 135, 18, 0, 0, [])],
  [none, none, some (.aload_n 0, 19, 0, 0, []), some (.iload_n 2, 20, 0, 0, []), some (.invokevirtual 138, 23, 0, 0, []), none, none, some (.isub, 24, 0, 0, []), some (.iconst 0, 25, 0, 0, []), some (.ldc_w 331, 28, 0, 0, []), none, none, some (.invokestatic 262, 31, 0, 0, []), none, none, some (.iadd, 32, 0, 0, [])],
  [some (.istore_n 1, 33, 0, 0, []), some (.iinc 2 1, 36, 0, 1, []), none, none, some (.goto (-32), 39, 4, 0, []), none, none, some (.iload_n 1, 40, 0, 0, []), some (.ireturn, 41, 0, 0, [])]]
def m_X6_leastOwed : MT := ((cd_X6_leastOwed, 6, 0, 0, 1), (yX6_leastOwed, cX6_leastOwed, 3, (some .int)))
def cd_X6_ringFrom : List (List (Option Ent)) := [[some (.iload 4, 2, 0, 0, []), none, some (.iconst 1, 3, 0, 1, []), some (.if_icmp .le 17, 6, 20, 0, []), none, none, some (.aload_n 0, 7, 0, 0, []), some (.iload_n 2, 8, 0, 0, []), some (.iload_n 1, 9, 0, 0, []), some (.invokevirtual 141, 12, 0, 0, []), none, none, some (.ifCond .le 8, 15, 20, 0, []), none, none, some (.iload 4, 17, 0, 0, [])],
  [none, some (.goto 4, 20, 21, 0, []), none, none, some (.iconst 0, 21, 0, 0, []), some (.istore 5, 23, 0, 0, []), none, some (.iconst 0, 24, 0, 0, []), some (.istore 6, 26, 0, 0, []), none, some (.iload 6, 28, 0, 0, []), none, some (.aload_n 0, 29, 0, 0, []), some (.getfield 83, 32, 0, 0, []), none, none],
  [some (.if_icmp .ge 63, 35, 95, 0, []), none, none, some (.iload_n 3, 36, 0, 0, []), some (.iload 6, 38, 0, 0, []), none, some (.ishr, 39, 0, 0, []), some (.iconst 1, 40, 0, 1, []), some (.iand, 41, 0, 0, []), some (.ifCond .ne 48, 44, 89, 0, []), none, none, some (.aload_n 0, 45, 0, 0, []), some (.iload_n 2, 46, 0, 0, []), some (.iload 6, 48, 0, 0, []), none],
  [some (.invokevirtual 141, 51, 0, 0, []), none, none, some (.ifCond .le 38, 54, 89, 0, []), none, none, some (.aload_n 0, 55, 0, 0, []), some (.iload_n 1, 56, 0, 0, []), some (.iload 6, 58, 0, 0, []), none, some (.iload_n 3, 59, 0, 0, []), some (.iconst 1, 60, 0, 1, []), some (.iload 6, 62, 0, 0, []), none, some (.ishl, 63, 0, 0, []), some (.ior, 64, 0, 0, [])],
  [some (.iload 4, 66, 0, 0, []), none, some (.iconst 1, 67, 0, 1, []), some (.iadd, 68, 0, 0, []), some (.invokevirtual 332, 71, 0, 0, []), none, none, some (.istore 7, 73, 0, 0, []), none, some (.iload 7, 75, 0, 0, []), none, some (.iload 5, 77, 0, 0, []), none, some (.if_icmp .le 8, 80, 85, 0, []), none, none],
  [some (.iload 7, 82, 0, 0, []), none, some (.goto 5, 85, 87, 0, []), none, none, some (.iload 5, 87, 0, 0, []), none, some (.istore 5, 89, 0, 0, []), none, some (.iinc 6 1, 92, 0, 1, []), none, none, some (.goto (-66), 95, 26, 0, []), none, none, some (.iload 5, 97, 0, 0, [])],
  [none, some (.ireturn, 98, 0, 0, [])]]
def m_X6_ringFrom : MT := ((cd_X6_ringFrom, 6, 0, 0, 1), (yX6_ringFrom, cX6_ringFrom, 8, (some .int)))
def cd_X6_longestRing : List (List (Option Ent)) := [[some (.iconst 0, 1, 0, 0, []), some (.istore_n 1, 2, 0, 0, []), some (.iconst 0, 3, 0, 0, []), some (.istore_n 2, 4, 0, 0, []), some (.iload_n 2, 5, 0, 0, []), some (.aload_n 0, 6, 0, 0, []), some (.getfield 83, 9, 0, 0, []), none, none, some (.if_icmp .ge 31, 12, 40, 0, []), none, none, some (.aload_n 0, 13, 0, 0, []), some (.iload_n 2, 14, 0, 0, []), some (.iload_n 2, 15, 0, 0, []), some (.iconst 1, 16, 0, 1, [])],
  [some (.iload_n 2, 17, 0, 0, []), some (.ishl, 18, 0, 0, []), some (.iconst 1, 19, 0, 1, []), some (.invokevirtual 332, 22, 0, 0, []), none, none, some (.istore_n 3, 23, 0, 0, []), some (.iload_n 3, 24, 0, 0, []), some (.iload_n 1, 25, 0, 0, []), some (.if_icmp .le 7, 28, 32, 0, []), none, none, some (.iload_n 3, 29, 0, 0, []), some (.goto 4, 32, 33, 0, []), none, none],
  [some (.iload_n 1, 33, 0, 0, []), some (.istore_n 1, 34, 0, 0, []), some (.iinc 2 1, 37, 0, 1, []), none, none, some (.goto (-33), 40, 4, 0, []), none, none, some (.iload_n 1, 41, 0, 0, []), some (.ireturn, 42, 0, 0, [])]]
def m_X6_longestRing : MT := ((cd_X6_longestRing, 6, 0, 0, 1), (yX6_longestRing, cX6_longestRing, 4, (some .int)))
def cd_X6_ends : List (List (Option Ent)) := [[some (.aload_n 0, 1, 0, 0, []), some (.invokevirtual 302, 4, 0, 0, []), none, none, some (.iconst 0, 5, 0, 0, []), some (.istore_n 1, 6, 0, 0, []), some (.iload_n 1, 7, 0, 0, []), some (.bipush 61, 9, 0, 61, []), none, some (.if_icmp .ge 16, 12, 25, 0, []), none, none, some (.aload_n 0, 13, 0, 0, []), some (.invokevirtual 293, 16, 0, 0, []), none, none],
  [some (.ifCond .le 9, 19, 25, 0, []), none, none, some (.iinc 1 1, 22, 0, 1, []), none, none, some (.goto (-16), 25, 6, 0, []), none, none, some (.aload_n 0, 26, 0, 0, []), some (.invokevirtual 311, 29, 0, 0, []), none, none, some (.iload_n 1, 30, 0, 0, []), some (.bipush 61, 32, 0, 61, []), none],
  [some (.if_icmp .ne 7, 35, 39, 0, []), none, none, some (.iconst (-1), 36, 0, (-1), []), some (.goto 4, 39, 40, 0, []), none, none, some (.iload_n 1, 40, 0, 0, []), some (.ireturn, 41, 0, 0, [])]]
def m_X6_ends : MT := ((cd_X6_ends, 6, 0, 0, 1), (yX6_ends, cX6_ends, 2, (some .int)))
def cd_X6_keeper : List (List (Option Ent)) := [[some (.iconst (-1), 1, 0, (-1), []), some (.istore_n 1, 2, 0, 0, []), some (.iconst 0, 3, 0, 0, []), some (.istore_n 2, 4, 0, 0, []), some (.iconst 0, 5, 0, 0, []), some (.istore_n 3, 6, 0, 0, []), some (.iload_n 3, 7, 0, 0, []), some (.aload_n 0, 8, 0, 0, []), some (.getfield 83, 11, 0, 0, []), none, none, some (.if_icmp .ge 26, 14, 37, 0, []), none, none, some (.aload_n 0, 15, 0, 0, []), some (.iload_n 3, 16, 0, 0, [])],
  [some (.invokevirtual 138, 19, 0, 0, []), none, none, some (.iload_n 2, 20, 0, 0, []), some (.if_icmp .le 11, 23, 31, 0, []), none, none, some (.iload_n 3, 24, 0, 0, []), some (.istore_n 1, 25, 0, 0, []), some (.aload_n 0, 26, 0, 0, []), some (.iload_n 3, 27, 0, 0, []), some (.invokevirtual 138, 30, 0, 0, []), none, none, some (.istore_n 2, 31, 0, 0, []), some (.iinc 3 1, 34, 0, 1, [])],
  [none, none, some (.goto (-28), 37, 6, 0, []), none, none, some (.iload_n 1, 38, 0, 0, []), some (.ireturn, 39, 0, 0, [])]]
def m_X6_keeper : MT := ((cd_X6_keeper, 6, 0, 0, 1), (yX6_keeper, cX6_keeper, 4, (some .int)))
def cd_X6_best : List (List (Option Ent)) := [[some (.iload_n 1, 1, 0, 0, []), some (.i2l, 2, 0, 0, []), some (.lconst 0, 3, 0, 0, []), some (.ldc2_w 130, 6, 0, 0, []), none, none, some (.invokestatic 86, 9, 0, 0, []), none, none, some (.ifCond .ne 6, 12, 15, 0, []), none, none, some (.bipush (-2), 14, 0, (-2), []), none, some (.ireturn, 15, 0, 0, []), some (.iload_n 1, 16, 0, 0, [])],
  [some (.iconst 4, 17, 0, 4, []), some (.if_icmp .ge 22, 20, 39, 0, []), none, none, some (.iload_n 1, 21, 0, 0, []), some (.iconst 2, 22, 0, 2, []), some (.if_icmp .ge 11, 25, 33, 0, []), none, none, some (.aload_n 0, 26, 0, 0, []), some (.iload_n 1, 27, 0, 0, []), some (.invokevirtual 336, 30, 0, 0, []), none, none, some (.goto 8, 33, 38, 0, []), none],
  [none, some (.aload_n 0, 34, 0, 0, []), some (.iload_n 1, 35, 0, 0, []), some (.invokevirtual 339, 38, 0, 0, []), none, none, some (.ireturn, 39, 0, 0, []), some (.iload_n 1, 40, 0, 0, []), some (.iconst 4, 41, 0, 4, []), some (.if_icmp .ne 10, 44, 51, 0, []), none, none, some (.aload_n 0, 45, 0, 0, []), some (.invokevirtual 342, 48, 0, 0, []), none, none],
  [some (.goto 45, 51, 93, 0, []), none, none, some (.iload_n 1, 52, 0, 0, []), some (.iconst 5, 53, 0, 5, []), some (.if_icmp .ne 10, 56, 63, 0, []), none, none, some (.aload_n 0, 57, 0, 0, []), some (.invokevirtual 345, 60, 0, 0, []), none, none, some (.goto 33, 63, 93, 0, []), none, none, some (.iload_n 1, 64, 0, 0, [])],
  [some (.bipush 6, 66, 0, 6, []), none, some (.if_icmp .ne 10, 69, 76, 0, []), none, none, some (.aload_n 0, 70, 0, 0, []), some (.invokevirtual 348, 73, 0, 0, []), none, none, some (.goto 20, 76, 93, 0, []), none, none, some (.iload_n 1, 77, 0, 0, []), some (.bipush 7, 79, 0, 7, []), none, some (.if_icmp .ne 10, 82, 89, 0, [])],
  [none, none, some (.aload_n 0, 83, 0, 0, []), some (.invokevirtual 351, 86, 0, 0, []), none, none, some (.goto 7, 89, 93, 0, []), none, none, some (.aload_n 0, 90, 0, 0, []), some (.invokevirtual 354, 93, 0, 0, []), none, none, some (.ireturn, 94, 0, 0, [])]]
def m_X6_best : MT := ((cd_X6_best, 6, 0, 0, 1), (yX6_best, cX6_best, 2, (some .int)))
def cd_X6_lowest : List (List (Option Ent)) := [[some (.lload_n 0, 1, 0, 0, []), some (.lstore 5, 3, 0, 0, []), none, some (.lload_n 2, 4, 0, 0, []), some (.lstore 7, 6, 0, 0, []), none, some (.lload 7, 8, 0, 0, []), none, some (.lconst 0, 9, 0, 0, []), some (.lcmp, 10, 0, 0, []), some (.ifCond .eq 21, 13, 31, 0, []), none, none, some (.lload 5, 15, 0, 0, []), none, some (.lload 7, 17, 0, 0, [])],
  [none, some (.lrem, 18, 0, 0, []), some (.lstore 9, 20, 0, 0, []), none, some (.lload 7, 22, 0, 0, []), none, some (.lstore 5, 24, 0, 0, []), none, some (.lload 9, 26, 0, 0, []), none, some (.lstore 7, 28, 0, 0, []), none, some (.goto (-22), 31, 6, 0, []), none, none, some (.iload 4, 33, 0, 0, [])],
  [none, some (.ifCond .ne 10, 36, 43, 0, []), none, none, some (.lload_n 0, 37, 0, 0, []), some (.lload 5, 39, 0, 0, []), none, some (.ldiv, 40, 0, 0, []), some (.goto 7, 43, 47, 0, []), none, none, some (.lload_n 2, 44, 0, 0, []), some (.lload 5, 46, 0, 0, []), none, some (.ldiv, 47, 0, 0, []), some (.lreturn, 48, 0, 0, [])]]
def m_X6_lowest : MT := ((cd_X6_lowest, 6, 0, 0, 2), (yX6_lowest, cX6_lowest, 11, (some .long)))
def cd_X6_share : List (List (Option Ent)) := [[some (.aload_n 0, 1, 0, 0, []), some (.iload_n 1, 2, 0, 0, []), some (.invokevirtual 90, 5, 0, 0, []), none, none, some (.ifCond .eq 38, 8, 43, 0, []), none, none, some (.iload_n 2, 9, 0, 0, []), some (.i2l, 10, 0, 0, []), some (.lconst 0, 11, 0, 0, []), some (.lconst 1, 12, 0, 0, []), some (.invokestatic 86, 15, 0, 0, []), none, none, some (.ifCond .eq 28, 18, 43, 0, [])],
  [none, none, some (.aload_n 0, 19, 0, 0, []), some (.invokevirtual 305, 22, 0, 0, []), none, none, some (.ifCond .le 21, 25, 43, 0, []), none, none, some (.aload_n 0, 26, 0, 0, []), some (.iload_n 1, 27, 0, 0, []), some (.invokevirtual 135, 30, 0, 0, []), none, none, some (.i2l, 31, 0, 0, []), some (.aload_n 0, 32, 0, 0, [])],
  [some (.invokevirtual 305, 35, 0, 0, []), none, none, some (.i2l, 36, 0, 0, []), some (.iload_n 2, 37, 0, 0, []), some (.invokestatic 357, 40, 0, 0, []), none, none, some (.goto 6, 43, 46, 0, []), none, none, some (.ldc2_w 361, 46, 0, 0, []), none, none, some (.lreturn, 47, 0, 0, [])]]
def m_X6_share : MT := ((cd_X6_share, 6, 0, 0, 2), (yX6_share, cX6_share, 3, (some .long)))
def cd_X6_firstOther : List (List (Option Ent)) := [[some (.iconst 0, 1, 0, 0, []), some (.istore_n 3, 2, 0, 0, []), some (.iload_n 3, 3, 0, 0, []), some (.aload_n 0, 4, 0, 0, []), some (.getfield 66, 7, 0, 0, []), none, none, some (.iload_n 1, 8, 0, 0, []), some (.iaload, 9, 0, 0, []), some (.if_icmp .ge 31, 12, 40, 0, []), none, none, some (.aload_n 0, 13, 0, 0, []), some (.iload_n 2, 14, 0, 0, []), some (.iload_n 3, 15, 0, 0, []), some (.invokevirtual 277, 18, 0, 0, [])],
  [none, none, some (.aload_n 0, 19, 0, 0, []), some (.getfield 69, 22, 0, 0, []), none, none, some (.bipush 40, 24, 0, 40, []), none, some (.iload_n 1, 25, 0, 0, []), some (.imul, 26, 0, 0, []), some (.iload_n 3, 27, 0, 0, []), some (.iadd, 28, 0, 0, []), some (.iaload, 29, 0, 0, []), some (.if_icmp .eq 5, 32, 34, 0, []), none, none],
  [some (.iload_n 3, 33, 0, 0, []), some (.ireturn, 34, 0, 0, []), some (.iinc 3 1, 37, 0, 1, []), none, none, some (.goto (-35), 40, 2, 0, []), none, none, some (.iconst (-1), 41, 0, (-1), []), some (.ireturn, 42, 0, 0, [])]]
def m_X6_firstOther : MT := ((cd_X6_firstOther, 6, 0, 0, 1), (yX6_firstOther, cX6_firstOther, 4, (some .int)))
def cd_X6_likeSet : List (List (Option Ent)) := [[some (.iconst 0, 1, 0, 0, []), some (.istore_n 3, 2, 0, 0, []), some (.iconst 0, 3, 0, 0, []), some (.istore 4, 5, 0, 0, []), none, some (.iload 4, 7, 0, 0, []), none, some (.aload_n 0, 8, 0, 0, []), some (.getfield 83, 11, 0, 0, []), none, none, some (.if_icmp .ge 37, 14, 48, 0, []), none, none, some (.iload_n 3, 15, 0, 0, []), some (.iload 4, 17, 0, 0, [])],
  [none, some (.iload_n 2, 18, 0, 0, []), some (.if_icmp .eq 18, 21, 36, 0, []), none, none, some (.aload_n 0, 22, 0, 0, []), some (.iload_n 1, 23, 0, 0, []), some (.iload 4, 25, 0, 0, []), none, some (.invokevirtual 363, 28, 0, 0, []), none, none, some (.iconst (-1), 29, 0, (-1), []), some (.if_icmp .ne 7, 32, 36, 0, []), none, none],
  [some (.iconst 1, 33, 0, 1, []), some (.goto 4, 36, 37, 0, []), none, none, some (.iconst 0, 37, 0, 0, []), some (.iload 4, 39, 0, 0, []), none, some (.ishl, 40, 0, 0, []), some (.ior, 41, 0, 0, []), some (.istore_n 3, 42, 0, 0, []), some (.iinc 4 1, 45, 0, 1, []), none, none, some (.goto (-40), 48, 5, 0, []), none, none],
  [some (.iload_n 3, 49, 0, 0, []), some (.ireturn, 50, 0, 0, [])]]
def m_X6_likeSet : MT := ((cd_X6_likeSet, 6, 0, 0, 1), (yX6_likeSet, cX6_likeSet, 5, (some .int)))
def cd_X6_tells : List (List (Option Ent)) := [[some (.iload_n 1, 1, 0, 0, []), some (.invokestatic 366, 4, 0, 0, []), none, none, some (.ifCond .eq 25, 7, 29, 0, []), none, none, some (.aload_n 0, 8, 0, 0, []), some (.iload_n 2, 9, 0, 0, []), some (.iload_n 3, 10, 0, 0, []), some (.invokevirtual 93, 13, 0, 0, []), none, none, some (.ifCond .eq 16, 16, 29, 0, []), none, none],
  [some (.iload 4, 18, 0, 0, []), none, some (.i2l, 19, 0, 0, []), some (.lconst 0, 20, 0, 0, []), some (.ldc2_w 130, 23, 0, 0, []), none, none, some (.invokestatic 86, 26, 0, 0, []), none, none, some (.ifCond .ne 6, 29, 32, 0, []), none, none, some (.bipush (-2), 31, 0, (-2), []), none, some (.ireturn, 32, 0, 0, [])],
  [some (.aload_n 0, 33, 0, 0, []), some (.getfield 59, 36, 0, 0, []), none, none, some (.iload_n 1, 37, 0, 0, []), some (.baload, 38, 0, 0, []), some (.ifCond .ne 6, 41, 44, 0, []), none, none, some (.bipush (-11), 43, 0, (-11), []), none, some (.ireturn, 44, 0, 0, []), some (.aload_n 0, 45, 0, 0, []), some (.getfield 66, 48, 0, 0, []), none, none],
  [some (.iload_n 1, 49, 0, 0, []), some (.iaload, 50, 0, 0, []), some (.bipush 30, 52, 0, 30, []), none, some (.if_icmp .le 6, 55, 58, 0, []), none, none, some (.bipush (-2), 57, 0, (-2), []), none, some (.ireturn, 58, 0, 0, []), some (.iload 4, 60, 0, 0, []), none, some (.ifCond .eq 10, 63, 70, 0, []), none, none, some (.iload 4, 65, 0, 0, [])],
  [none, some (.bipush 8, 67, 0, 8, []), none, some (.if_icmp .ne 24, 70, 91, 0, []), none, none, some (.iload 4, 72, 0, 0, []), none, some (.ifCond .ne 12, 75, 84, 0, []), none, none, some (.aload_n 0, 76, 0, 0, []), some (.iload_n 1, 77, 0, 0, []), some (.iload_n 2, 78, 0, 0, []), some (.invokevirtual 363, 81, 0, 0, []), none],
  [none, some (.goto 9, 84, 90, 0, []), none, none, some (.aload_n 0, 85, 0, 0, []), some (.iload_n 1, 86, 0, 0, []), some (.iload_n 3, 87, 0, 0, []), some (.invokevirtual 369, 90, 0, 0, []), none, none, some (.ireturn, 91, 0, 0, []), some (.iload 4, 93, 0, 0, []), none, some (.iconst 1, 94, 0, 1, []), some (.if_icmp .ne 7, 97, 101, 0, []), none],
  [none, some (.iconst 5, 98, 0, 5, []), some (.goto 36, 101, 134, 0, []), none, none, some (.iload 4, 103, 0, 0, []), none, some (.iconst 2, 104, 0, 2, []), some (.if_icmp .ne 7, 107, 111, 0, []), none, none, some (.iconst 2, 108, 0, 2, []), some (.goto 26, 111, 134, 0, []), none, none, some (.iload 4, 113, 0, 0, [])],
  [none, some (.iconst 5, 114, 0, 5, []), some (.if_icmp .ge 7, 117, 121, 0, []), none, none, some (.iconst 0, 118, 0, 0, []), some (.goto 16, 121, 134, 0, []), none, none, some (.iload 4, 123, 0, 0, []), none, some (.bipush 7, 125, 0, 7, []), none, some (.if_icmp .ge 7, 128, 132, 0, []), none, none],
  [some (.iconst 3, 129, 0, 3, []), some (.goto 5, 132, 134, 0, []), none, none, some (.bipush 6, 134, 0, 6, []), none, some (.istore 5, 136, 0, 0, []), none, some (.iload 5, 138, 0, 0, []), none, some (.bipush 6, 140, 0, 6, []), none, some (.if_icmp .ne 10, 143, 150, 0, []), none, none, some (.aload_n 0, 144, 0, 0, [])],
  [some (.getfield 123, 147, 0, 0, []), none, none, some (.goto 10, 150, 157, 0, []), none, none, some (.aload_n 0, 151, 0, 0, []), some (.iload_n 2, 152, 0, 0, []), some (.iload 5, 154, 0, 0, []), none, some (.invokevirtual 106, 157, 0, 0, []), none, none, some (.istore 6, 159, 0, 0, []), none, some (.iload 5, 161, 0, 0, [])],
  [none, some (.bipush 6, 163, 0, 6, []), none, some (.if_icmp .ne 12, 166, 175, 0, []), none, none, some (.aload_n 0, 167, 0, 0, []), some (.getfield 80, 170, 0, 0, []), none, none, some (.iconst 1, 171, 0, 1, []), some (.isub, 172, 0, 0, []), some (.goto 26, 175, 198, 0, []), none, none, some (.iload 5, 177, 0, 0, [])],
  [none, some (.iconst 5, 178, 0, 5, []), some (.if_icmp .ne 7, 181, 185, 0, []), none, none, some (.iconst 5, 182, 0, 5, []), some (.goto 16, 185, 198, 0, []), none, none, some (.iload 5, 187, 0, 0, []), none, some (.iconst 2, 188, 0, 2, []), some (.if_icmp .ne 8, 191, 196, 0, []), none, none, some (.bipush 9, 193, 0, 9, [])],
  [none, some (.goto 5, 196, 198, 0, []), none, none, some (.bipush 99, 198, 0, 99, []), none, some (.istore 7, 200, 0, 0, []), none, some (.iconst 0, 201, 0, 0, []), some (.istore 8, 203, 0, 0, []), none, some (.iconst 0, 204, 0, 0, []), some (.istore 9, 206, 0, 0, []), none, some (.iconst (-1), 207, 0, (-1), []), some (.istore 10, 209, 0, 0, [])],
  [none, some (.iload 7, 211, 0, 0, []), none, some (.istore 11, 213, 0, 0, []), none, some (.iload 11, 215, 0, 0, []), none, some (.ifCond .lt 55, 218, 270, 0, []), none, none, some (.aload_n 0, 219, 0, 0, []), some (.iload 5, 221, 0, 0, []), none, some (.iload_n 2, 222, 0, 0, []), some (.iload 11, 224, 0, 0, []), none],
  [some (.invokevirtual 110, 227, 0, 0, []), none, none, some (.aload_n 0, 228, 0, 0, []), some (.iload_n 1, 229, 0, 0, []), some (.iload_n 2, 230, 0, 0, []), some (.invokevirtual 363, 233, 0, 0, []), none, none, some (.iconst (-1), 234, 0, (-1), []), some (.if_icmp .ne 30, 237, 264, 0, []), none, none, some (.iload 8, 239, 0, 0, []), none, some (.iload 11, 241, 0, 0, [])],
  [none, some (.bipush 10, 243, 0, 10, []), none, some (.if_icmp .ge 10, 246, 253, 0, []), none, none, some (.iconst 1, 247, 0, 1, []), some (.iload 11, 249, 0, 0, []), none, some (.ishl, 250, 0, 0, []), some (.goto 4, 253, 254, 0, []), none, none, some (.iconst 0, 254, 0, 0, []), some (.ior, 255, 0, 0, []), some (.istore 8, 257, 0, 0, [])],
  [none, some (.iinc 9 1, 260, 0, 1, []), none, none, some (.iload 11, 262, 0, 0, []), none, some (.istore 10, 264, 0, 0, []), none, some (.iinc 11 (-1), 267, 0, (-1), []), none, none, some (.goto (-54), 270, 213, 0, []), none, none, some (.aload_n 0, 271, 0, 0, []), some (.iload 5, 273, 0, 0, [])],
  [none, some (.iload_n 2, 274, 0, 0, []), some (.iload 6, 276, 0, 0, []), none, some (.invokevirtual 110, 279, 0, 0, []), none, none, some (.iload 4, 281, 0, 0, []), none, some (.iconst 3, 282, 0, 3, []), some (.if_icmp .eq 9, 285, 291, 0, []), none, none, some (.iload 4, 287, 0, 0, []), none, some (.iconst 5, 288, 0, 5, [])],
  [some (.if_icmp .ne 8, 291, 296, 0, []), none, none, some (.iload 9, 293, 0, 0, []), none, some (.goto 23, 296, 316, 0, []), none, none, some (.iload 4, 298, 0, 0, []), none, some (.iconst 4, 299, 0, 4, []), some (.if_icmp .eq 10, 302, 309, 0, []), none, none, some (.iload 4, 304, 0, 0, []), none],
  [some (.bipush 6, 306, 0, 6, []), none, some (.if_icmp .ne 8, 309, 314, 0, []), none, none, some (.iload 10, 311, 0, 0, []), none, some (.goto 5, 314, 316, 0, []), none, none, some (.iload 8, 316, 0, 0, []), none, some (.ireturn, 317, 0, 0, [])]]
def m_X6_tells : MT := ((cd_X6_tells, 6, 0, 0, 1), (yX6_tells, cX6_tells, 12, (some .int)))
def cd_X6_film : List (List (Option Ent)) := [[some (.iload_n 1, 1, 0, 0, []), some (.invokestatic 366, 4, 0, 0, []), none, none, some (.ifCond .eq 25, 7, 29, 0, []), none, none, some (.aload_n 0, 8, 0, 0, []), some (.iload_n 2, 9, 0, 0, []), some (.iload_n 3, 10, 0, 0, []), some (.invokevirtual 93, 13, 0, 0, []), none, none, some (.ifCond .eq 16, 16, 29, 0, []), none, none],
  [some (.iload 4, 18, 0, 0, []), none, some (.i2l, 19, 0, 0, []), some (.lconst 0, 20, 0, 0, []), some (.ldc2_w 372, 23, 0, 0, []), none, none, some (.invokestatic 86, 26, 0, 0, []), none, none, some (.ifCond .ne 6, 29, 32, 0, []), none, none, some (.bipush (-2), 31, 0, (-2), []), none, some (.ireturn, 32, 0, 0, [])],
  [some (.aload_n 0, 33, 0, 0, []), some (.iload_n 1, 34, 0, 0, []), some (.iconst 0, 35, 0, 0, []), some (.iload 4, 37, 0, 0, []), none, some (.invokevirtual 374, 40, 0, 0, []), none, none, some (.pop, 41, 0, 0, []), some (.iconst 0, 42, 0, 0, []), some (.istore 5, 44, 0, 0, []), none, some (.iconst 0, 45, 0, 0, []), some (.istore 6, 47, 0, 0, []), none, some (.iload 6, 49, 0, 0, [])],
  [none, some (.iload 4, 51, 0, 0, []), none, some (.if_icmp .ge 40, 54, 91, 0, []), none, none, some (.aload_n 0, 55, 0, 0, []), some (.getfield 69, 58, 0, 0, []), none, none, some (.bipush 40, 60, 0, 40, []), none, some (.iload_n 1, 61, 0, 0, []), some (.imul, 62, 0, 0, []), some (.iload 6, 64, 0, 0, []), none],
  [some (.iadd, 65, 0, 0, []), some (.aload_n 0, 66, 0, 0, []), some (.iload_n 2, 67, 0, 0, []), some (.iload 6, 69, 0, 0, []), none, some (.invokevirtual 277, 72, 0, 0, []), none, none, some (.iastore, 73, 0, 0, []), some (.iload 5, 75, 0, 0, []), none, some (.aload_n 0, 76, 0, 0, []), some (.iload_n 2, 77, 0, 0, []), some (.iload 6, 79, 0, 0, []), none, some (.invokevirtual 277, 82, 0, 0, [])],
  [none, none, some (.iadd, 83, 0, 0, []), some (.istore 5, 85, 0, 0, []), none, some (.iinc 6 1, 88, 0, 1, []), none, none, some (.goto (-41), 91, 47, 0, []), none, none, some (.iload 5, 93, 0, 0, []), none, some (.ireturn, 94, 0, 0, [])]]
def m_X6_film : MT := ((cd_X6_film, 6, 0, 0, 1), (yX6_film, cX6_film, 7, (some .int)))
def cd_X6_endsDrawn : List (List (Option Ent)) := [[some (.iconst 0, 1, 0, 0, []), some (.istore_n 2, 2, 0, 0, []), some (.iload_n 2, 3, 0, 0, []), some (.bipush 25, 5, 0, 25, []), none, some (.if_icmp .ge 21, 8, 26, 0, []), none, none, some (.aload_n 0, 9, 0, 0, []), some (.getfield 47, 12, 0, 0, []), none, none, some (.iload_n 2, 13, 0, 0, []), some (.aload_n 0, 14, 0, 0, []), some (.getfield 29, 17, 0, 0, []), none],
  [none, some (.iload_n 2, 18, 0, 0, []), some (.iaload, 19, 0, 0, []), some (.iastore, 20, 0, 0, []), some (.iinc 2 1, 23, 0, 1, []), none, none, some (.goto (-21), 26, 2, 0, []), none, none, some (.iload_n 1, 27, 0, 0, []), some (.istore_n 2, 28, 0, 0, []), some (.iconst 0, 29, 0, 0, []), some (.istore_n 3, 30, 0, 0, []), some (.iload_n 3, 31, 0, 0, []), some (.aload_n 0, 32, 0, 0, [])],
  [some (.getfield 83, 35, 0, 0, []), none, none, some (.if_icmp .ge 60, 38, 95, 0, []), none, none, some (.iconst 0, 39, 0, 0, []), some (.istore 4, 41, 0, 0, []), none, some (.iload 4, 43, 0, 0, []), none, some (.aload_n 0, 44, 0, 0, []), some (.getfield 83, 47, 0, 0, []), none, none, some (.if_icmp .ge 42, 50, 89, 0, [])],
  [none, none, some (.iload_n 3, 51, 0, 0, []), some (.iload 4, 53, 0, 0, []), none, some (.if_icmp .eq 30, 56, 83, 0, []), none, none, some (.iload_n 2, 57, 0, 0, []), some (.ldc_w 377, 60, 0, 0, []), none, none, some (.imul, 61, 0, 0, []), some (.sipush 12345, 64, 0, 12345, []), none, none],
  [some (.iadd, 65, 0, 0, []), some (.istore_n 2, 66, 0, 0, []), some (.aload_n 0, 67, 0, 0, []), some (.getfield 29, 70, 0, 0, []), none, none, some (.iconst 5, 71, 0, 5, []), some (.iload_n 3, 72, 0, 0, []), some (.imul, 73, 0, 0, []), some (.iload 4, 75, 0, 0, []), none, some (.iadd, 76, 0, 0, []), some (.iload_n 2, 77, 0, 0, []), some (.bipush 9, 79, 0, 9, []), none, some (.iushr, 80, 0, 0, [])],
  [some (.iconst 4, 81, 0, 4, []), some (.irem, 82, 0, 0, []), some (.iastore, 83, 0, 0, []), some (.iinc 4 1, 86, 0, 1, []), none, none, some (.goto (-45), 89, 41, 0, []), none, none, some (.iinc 3 1, 92, 0, 1, []), none, none, some (.goto (-62), 95, 30, 0, []), none, none, some (.aload_n 0, 96, 0, 0, [])],
  [some (.invokevirtual 351, 99, 0, 0, []), none, none, some (.istore_n 3, 100, 0, 0, []), some (.iconst 0, 101, 0, 0, []), some (.istore 4, 103, 0, 0, []), none, some (.iload 4, 105, 0, 0, []), none, some (.bipush 25, 107, 0, 25, []), none, some (.if_icmp .ge 23, 110, 130, 0, []), none, none, some (.aload_n 0, 111, 0, 0, []), some (.getfield 29, 114, 0, 0, [])],
  [none, none, some (.iload 4, 116, 0, 0, []), none, some (.aload_n 0, 117, 0, 0, []), some (.getfield 47, 120, 0, 0, []), none, none, some (.iload 4, 122, 0, 0, []), none, some (.iaload, 123, 0, 0, []), some (.iastore, 124, 0, 0, []), some (.iinc 4 1, 127, 0, 1, []), none, none, some (.goto (-24), 130, 103, 0, [])],
  [none, none, some (.iload_n 3, 131, 0, 0, []), some (.ireturn, 132, 0, 0, [])]]
def m_X6_endsDrawn : MT := ((cd_X6_endsDrawn, 6, 0, 0, 1), (yX6_endsDrawn, cX6_endsDrawn, 5, (some .int)))
def cd_X6_drawn : List (List (Option Ent)) := [[some (.aload_n 0, 1, 0, 0, []), some (.iload_n 1, 2, 0, 0, []), some (.invokevirtual 378, 5, 0, 0, []), none, none, some (.ireturn, 6, 0, 0, [])]]
def m_X6_drawn : MT := ((cd_X6_drawn, 6, 0, 0, 1), (yX6_drawn, cX6_drawn, 2, (some .int)))
def cd_X6_chance : List (List (Option Ent)) := [[some (.iload_n 2, 1, 0, 0, []), some (.i2l, 2, 0, 0, []), some (.lconst 1, 3, 0, 0, []), some (.ldc2_w 179, 6, 0, 0, []), none, none, some (.invokestatic 86, 9, 0, 0, []), none, none, some (.ifCond .eq 26, 12, 35, 0, []), none, none, some (.iload_n 3, 13, 0, 0, []), some (.i2l, 14, 0, 0, []), some (.lconst 0, 15, 0, 0, []), some (.ldc2_w 381, 18, 0, 0, [])],
  [none, none, some (.invokestatic 86, 21, 0, 0, []), none, none, some (.ifCond .eq 14, 24, 35, 0, []), none, none, some (.iload 4, 26, 0, 0, []), none, some (.i2l, 27, 0, 0, []), some (.lconst 0, 28, 0, 0, []), some (.lconst 1, 29, 0, 0, []), some (.invokestatic 86, 32, 0, 0, []), none, none],
  [some (.ifCond .ne 7, 35, 39, 0, []), none, none, some (.ldc2_w 361, 38, 0, 0, []), none, none, some (.lreturn, 39, 0, 0, []), some (.lconst 0, 40, 0, 0, []), some (.lstore 5, 42, 0, 0, []), none, some (.iconst 0, 43, 0, 0, []), some (.istore 7, 45, 0, 0, []), none, some (.iload 7, 47, 0, 0, []), none, some (.iload_n 2, 48, 0, 0, [])],
  [some (.if_icmp .ge 46, 51, 94, 0, []), none, none, some (.aload_n 0, 52, 0, 0, []), some (.iload_n 1, 53, 0, 0, []), some (.iload 7, 55, 0, 0, []), none, some (.iadd, 56, 0, 0, []), some (.invokevirtual 378, 59, 0, 0, []), none, none, some (.istore 8, 61, 0, 0, []), none, some (.lload 5, 63, 0, 0, []), none, some (.iload 8, 65, 0, 0, [])],
  [none, some (.iconst (-1), 66, 0, (-1), []), some (.if_icmp .ne 8, 69, 74, 0, []), none, none, some (.bipush 61, 71, 0, 61, []), none, some (.goto 5, 74, 76, 0, []), none, none, some (.iload 8, 76, 0, 0, []), none, some (.iload_n 3, 77, 0, 0, []), some (.if_icmp .gt 7, 80, 84, 0, []), none, none],
  [some (.lconst 1, 81, 0, 0, []), some (.goto 4, 84, 85, 0, []), none, none, some (.lconst 0, 85, 0, 0, []), some (.ladd, 86, 0, 0, []), some (.lstore 5, 88, 0, 0, []), none, some (.iinc 7 1, 91, 0, 1, []), none, none, some (.goto (-46), 94, 45, 0, []), none, none, some (.lload 5, 96, 0, 0, []), none],
  [some (.iload_n 2, 97, 0, 0, []), some (.i2l, 98, 0, 0, []), some (.iload 4, 100, 0, 0, []), none, some (.invokestatic 357, 103, 0, 0, []), none, none, some (.lreturn, 104, 0, 0, [])]]
def m_X6_chance : MT := ((cd_X6_chance, 6, 0, 0, 2), (yX6_chance, cX6_chance, 9, (some .long)))
def cd_X6_image : List (List (Option Ent)) := [[some (.iconst 0, 1, 0, 0, []), some (.istore_n 1, 2, 0, 0, []), some (.iload_n 1, 3, 0, 0, []), some (.bipush 25, 5, 0, 25, []), none, some (.if_icmp .ge 21, 8, 26, 0, []), none, none, some (.aload_n 0, 9, 0, 0, []), some (.getfield 50, 12, 0, 0, []), none, none, some (.iload_n 1, 13, 0, 0, []), some (.aload_n 0, 14, 0, 0, []), some (.getfield 29, 17, 0, 0, []), none],
  [none, some (.iload_n 1, 18, 0, 0, []), some (.iaload, 19, 0, 0, []), some (.iastore, 20, 0, 0, []), some (.iinc 1 1, 23, 0, 1, []), none, none, some (.goto (-21), 26, 2, 0, []), none, none, some (.iconst 0, 27, 0, 0, []), some (.istore_n 1, 28, 0, 0, []), some (.iload_n 1, 29, 0, 0, []), some (.bipush 10, 31, 0, 10, []), none, some (.if_icmp .ge 21, 34, 52, 0, [])],
  [none, none, some (.aload_n 0, 35, 0, 0, []), some (.getfield 53, 38, 0, 0, []), none, none, some (.iload_n 1, 39, 0, 0, []), some (.aload_n 0, 40, 0, 0, []), some (.getfield 26, 43, 0, 0, []), none, none, some (.iload_n 1, 44, 0, 0, []), some (.iaload, 45, 0, 0, []), some (.iastore, 46, 0, 0, []), some (.iinc 1 1, 49, 0, 1, []), none],
  [none, some (.goto (-21), 52, 28, 0, []), none, none, some (.aload_n 0, 53, 0, 0, []), some (.aload_n 0, 54, 0, 0, []), some (.getfield 83, 57, 0, 0, []), none, none, some (.putfield 56, 60, 0, 0, []), none, none, some (.aload_n 0, 61, 0, 0, []), some (.aload_n 0, 62, 0, 0, []), some (.getfield 114, 65, 0, 0, []), none],
  [none, some (.putfield 383, 68, 0, 0, []), none, none, some (.aload_n 0, 69, 0, 0, []), some (.aload_n 0, 70, 0, 0, []), some (.getfield 117, 73, 0, 0, []), none, none, some (.putfield 386, 76, 0, 0, []), none, none, some (.aload_n 0, 77, 0, 0, []), some (.aload_n 0, 78, 0, 0, []), some (.getfield 123, 81, 0, 0, []), none],
  [none, some (.putfield 389, 84, 0, 0, []), none, none, some (.aload_n 0, 85, 0, 0, []), some (.getfield 83, 88, 0, 0, []), none, none, some (.ireturn, 89, 0, 0, [])]]
def m_X6_image : MT := ((cd_X6_image, 6, 0, 0, 1), (yX6_image, cX6_image, 2, (some .int)))
def cd_X6_back : List (List (Option Ent)) := [[some (.aload_n 0, 1, 0, 0, []), some (.getfield 56, 4, 0, 0, []), none, none, some (.iconst (-1), 5, 0, (-1), []), some (.if_icmp .ne 6, 8, 11, 0, []), none, none, some (.bipush (-3), 10, 0, (-3), []), none, some (.ireturn, 11, 0, 0, []), some (.iconst 0, 12, 0, 0, []), some (.istore_n 1, 13, 0, 0, []), some (.iload_n 1, 14, 0, 0, []), some (.bipush 25, 16, 0, 25, []), none],
  [some (.if_icmp .ge 21, 19, 37, 0, []), none, none, some (.aload_n 0, 20, 0, 0, []), some (.getfield 29, 23, 0, 0, []), none, none, some (.iload_n 1, 24, 0, 0, []), some (.aload_n 0, 25, 0, 0, []), some (.getfield 50, 28, 0, 0, []), none, none, some (.iload_n 1, 29, 0, 0, []), some (.iaload, 30, 0, 0, []), some (.iastore, 31, 0, 0, []), some (.iinc 1 1, 34, 0, 1, [])],
  [none, none, some (.goto (-21), 37, 13, 0, []), none, none, some (.iconst 0, 38, 0, 0, []), some (.istore_n 1, 39, 0, 0, []), some (.iload_n 1, 40, 0, 0, []), some (.bipush 10, 42, 0, 10, []), none, some (.if_icmp .ge 21, 45, 63, 0, []), none, none, some (.aload_n 0, 46, 0, 0, []), some (.getfield 26, 49, 0, 0, []), none],
  [none, some (.iload_n 1, 50, 0, 0, []), some (.aload_n 0, 51, 0, 0, []), some (.getfield 53, 54, 0, 0, []), none, none, some (.iload_n 1, 55, 0, 0, []), some (.iaload, 56, 0, 0, []), some (.iastore, 57, 0, 0, []), some (.iinc 1 1, 60, 0, 1, []), none, none, some (.goto (-21), 63, 39, 0, []), none, none, some (.aload_n 0, 64, 0, 0, [])],
  [some (.aload_n 0, 65, 0, 0, []), some (.getfield 56, 68, 0, 0, []), none, none, some (.putfield 83, 71, 0, 0, []), none, none, some (.aload_n 0, 72, 0, 0, []), some (.aload_n 0, 73, 0, 0, []), some (.getfield 383, 76, 0, 0, []), none, none, some (.putfield 114, 79, 0, 0, []), none, none, some (.aload_n 0, 80, 0, 0, [])],
  [some (.aload_n 0, 81, 0, 0, []), some (.getfield 386, 84, 0, 0, []), none, none, some (.putfield 117, 87, 0, 0, []), none, none, some (.aload_n 0, 88, 0, 0, []), some (.aload_n 0, 89, 0, 0, []), some (.getfield 389, 92, 0, 0, []), none, none, some (.putfield 123, 95, 0, 0, []), none, none, some (.aload_n 0, 96, 0, 0, [])],
  [some (.getfield 83, 99, 0, 0, []), none, none, some (.ireturn, 100, 0, 0, [])]]
def m_X6_back : MT := ((cd_X6_back, 6, 0, 0, 1), (yX6_back, cX6_back, 2, (some .int)))
def cd_X6_count : List (List (Option Ent)) := [[some (.iload_n 1, 1, 0, 0, []), some (.i2l, 2, 0, 0, []), some (.lconst 0, 3, 0, 0, []), some (.ldc2_w 126, 6, 0, 0, []), none, none, some (.invokestatic 86, 9, 0, 0, []), none, none, some (.ifCond .ne 6, 12, 15, 0, []), none, none, some (.bipush (-2), 14, 0, (-2), []), none, some (.ireturn, 15, 0, 0, []), some (.iload_n 1, 16, 0, 0, [])],
  [some (.ifCond .ne 10, 19, 26, 0, []), none, none, some (.aload_n 0, 20, 0, 0, []), some (.getfield 83, 23, 0, 0, []), none, none, some (.goto 55, 26, 78, 0, []), none, none, some (.iload_n 1, 27, 0, 0, []), some (.iconst 1, 28, 0, 1, []), some (.if_icmp .ne 10, 31, 38, 0, []), none, none, some (.aload_n 0, 32, 0, 0, [])],
  [some (.invokevirtual 305, 35, 0, 0, []), none, none, some (.goto 43, 38, 78, 0, []), none, none, some (.iload_n 1, 39, 0, 0, []), some (.iconst 2, 40, 0, 2, []), some (.if_icmp .ne 10, 43, 50, 0, []), none, none, some (.aload_n 0, 44, 0, 0, []), some (.getfield 114, 47, 0, 0, []), none, none, some (.goto 31, 50, 78, 0, [])],
  [none, none, some (.iload_n 1, 51, 0, 0, []), some (.iconst 3, 52, 0, 3, []), some (.if_icmp .ne 10, 55, 62, 0, []), none, none, some (.aload_n 0, 56, 0, 0, []), some (.getfield 80, 59, 0, 0, []), none, none, some (.goto 19, 62, 78, 0, []), none, none, some (.iload_n 1, 63, 0, 0, []), some (.iconst 4, 64, 0, 4, [])],
  [some (.if_icmp .ne 10, 67, 74, 0, []), none, none, some (.aload_n 0, 68, 0, 0, []), some (.getfield 146, 71, 0, 0, []), none, none, some (.goto 7, 74, 78, 0, []), none, none, some (.aload_n 0, 75, 0, 0, []), some (.getfield 123, 78, 0, 0, []), none, none, some (.ireturn, 79, 0, 0, [])]]
def m_X6_count : MT := ((cd_X6_count, 6, 0, 0, 1), (yX6_count, cX6_count, 2, (some .int)))
def cd_X6_isSheet : List (List (Option Ent)) := [[some (.iload_n 0, 1, 0, 0, []), some (.i2l, 2, 0, 0, []), some (.lconst 0, 3, 0, 0, []), some (.ldc2_w 392, 6, 0, 0, []), none, none, some (.invokestatic 86, 9, 0, 0, []), none, none, some (.ireturn, 10, 0, 0, [])]]
def m_X6_isSheet : MT := ((cd_X6_isSheet, 6, 0, 0, 4), (yX6_isSheet, cX6_isSheet, 1, (some .boolean)))
def cd_X6_sheet : List (List (Option Ent)) := [[some (.iload_n 1, 1, 0, 0, []), some (.invokestatic 366, 4, 0, 0, []), none, none, some (.ifCond .eq 27, 7, 31, 0, []), none, none, some (.iload_n 2, 8, 0, 0, []), some (.i2l, 9, 0, 0, []), some (.ldc2_w 394, 12, 0, 0, []), none, none, some (.ldc2_w 275, 15, 0, 0, []), none, none, some (.invokestatic 86, 18, 0, 0, [])],
  [none, none, some (.ifCond .eq 13, 21, 31, 0, []), none, none, some (.iload_n 2, 22, 0, 0, []), some (.ifCond .lt 12, 25, 34, 0, []), none, none, some (.iload_n 3, 26, 0, 0, []), some (.bipush 40, 28, 0, 40, []), none, some (.if_icmp .le 6, 31, 34, 0, []), none, none, some (.bipush (-2), 33, 0, (-2), [])],
  [none, some (.ireturn, 34, 0, 0, []), some (.iload_n 2, 35, 0, 0, []), some (.ifCond .lt 10, 38, 45, 0, []), none, none, some (.iload_n 3, 39, 0, 0, []), some (.ifCond .ge 6, 42, 45, 0, []), none, none, some (.bipush (-14), 44, 0, (-14), []), none, some (.ireturn, 45, 0, 0, []), some (.aload_n 0, 46, 0, 0, []), some (.getfield 59, 49, 0, 0, []), none],
  [none, some (.iload_n 1, 50, 0, 0, []), some (.iload_n 2, 51, 0, 0, []), some (.ifCond .lt 7, 54, 58, 0, []), none, none, some (.iconst 1, 55, 0, 1, []), some (.goto 4, 58, 59, 0, []), none, none, some (.iconst 0, 59, 0, 0, []), some (.bastore, 60, 0, 0, []), some (.aload_n 0, 61, 0, 0, []), some (.getfield 63, 64, 0, 0, []), none, none],
  [some (.iload_n 1, 65, 0, 0, []), some (.iload_n 2, 66, 0, 0, []), some (.iastore, 67, 0, 0, []), some (.aload_n 0, 68, 0, 0, []), some (.getfield 66, 71, 0, 0, []), none, none, some (.iload_n 1, 72, 0, 0, []), some (.iload_n 3, 73, 0, 0, []), some (.iastore, 74, 0, 0, []), some (.iconst 0, 75, 0, 0, []), some (.istore 4, 77, 0, 0, []), none, some (.iload 4, 79, 0, 0, []), none, some (.iload_n 3, 80, 0, 0, [])],
  [some (.if_icmp .ge 26, 83, 106, 0, []), none, none, some (.iload_n 2, 84, 0, 0, []), some (.ifCond .lt 22, 87, 106, 0, []), none, none, some (.aload_n 0, 88, 0, 0, []), some (.getfield 69, 91, 0, 0, []), none, none, some (.bipush 40, 93, 0, 40, []), none, some (.iload_n 1, 94, 0, 0, []), some (.imul, 95, 0, 0, []), some (.iload 4, 97, 0, 0, [])],
  [none, some (.iadd, 98, 0, 0, []), some (.iconst 0, 99, 0, 0, []), some (.iastore, 100, 0, 0, []), some (.iinc 4 1, 103, 0, 1, []), none, none, some (.goto (-26), 106, 77, 0, []), none, none, some (.iconst 1, 107, 0, 1, []), some (.ireturn, 108, 0, 0, [])]]
def m_X6_sheet : MT := ((cd_X6_sheet, 6, 0, 0, 1), (yX6_sheet, cX6_sheet, 5, (some .int)))
def cd_X6_cell : List (List (Option Ent)) := [[some (.iload_n 1, 1, 0, 0, []), some (.invokestatic 366, 4, 0, 0, []), none, none, some (.ifCond .ne 6, 7, 10, 0, []), none, none, some (.bipush (-2), 9, 0, (-2), []), none, some (.ireturn, 10, 0, 0, []), some (.aload_n 0, 11, 0, 0, []), some (.getfield 59, 14, 0, 0, []), none, none, some (.iload_n 1, 15, 0, 0, []), some (.baload, 16, 0, 0, [])],
  [some (.ifCond .ne 6, 19, 22, 0, []), none, none, some (.bipush (-11), 21, 0, (-11), []), none, some (.ireturn, 22, 0, 0, []), some (.iload_n 2, 23, 0, 0, []), some (.i2l, 24, 0, 0, []), some (.lconst 0, 25, 0, 0, []), some (.aload_n 0, 26, 0, 0, []), some (.getfield 66, 29, 0, 0, []), none, none, some (.iload_n 1, 30, 0, 0, []), some (.iaload, 31, 0, 0, []), some (.iconst 1, 32, 0, 1, [])],
  [some (.isub, 33, 0, 0, []), some (.i2l, 34, 0, 0, []), some (.invokestatic 86, 37, 0, 0, []), none, none, some (.ifCond .ne 6, 40, 43, 0, []), none, none, some (.bipush (-12), 42, 0, (-12), []), none, some (.ireturn, 43, 0, 0, []), some (.aload_n 0, 44, 0, 0, []), some (.getfield 69, 47, 0, 0, []), none, none, some (.bipush 40, 49, 0, 40, [])],
  [none, some (.iload_n 1, 50, 0, 0, []), some (.imul, 51, 0, 0, []), some (.iload_n 2, 52, 0, 0, []), some (.iadd, 53, 0, 0, []), some (.aload_n 0, 54, 0, 0, []), some (.getfield 63, 57, 0, 0, []), none, none, some (.iload_n 1, 58, 0, 0, []), some (.iaload, 59, 0, 0, []), some (.ifCond .ne 8, 62, 67, 0, []), none, none, some (.iload_n 3, 63, 0, 0, []), some (.i2b, 64, 0, 0, [])],
  [some (.goto 19, 67, 83, 0, []), none, none, some (.aload_n 0, 68, 0, 0, []), some (.getfield 63, 71, 0, 0, []), none, none, some (.iload_n 1, 72, 0, 0, []), some (.iaload, 73, 0, 0, []), some (.iconst 1, 74, 0, 1, []), some (.if_icmp .ne 8, 77, 82, 0, []), none, none, some (.iload_n 3, 78, 0, 0, []), some (.i2s, 79, 0, 0, []), some (.goto 4, 82, 83, 0, [])],
  [none, none, some (.iload_n 3, 83, 0, 0, []), some (.iastore, 84, 0, 0, []), some (.iconst 1, 85, 0, 1, []), some (.ireturn, 86, 0, 0, [])]]
def m_X6_cell : MT := ((cd_X6_cell, 6, 0, 0, 1), (yX6_cell, cX6_cell, 4, (some .int)))
def cd_X6_copy : List (List (Option Ent)) := [[some (.iload_n 1, 1, 0, 0, []), some (.invokestatic 366, 4, 0, 0, []), none, none, some (.ifCond .eq 10, 7, 14, 0, []), none, none, some (.iload_n 3, 8, 0, 0, []), some (.invokestatic 366, 11, 0, 0, []), none, none, some (.ifCond .ne 6, 14, 17, 0, []), none, none, some (.bipush (-2), 16, 0, (-2), []), none],
  [some (.ireturn, 17, 0, 0, []), some (.aload_n 0, 18, 0, 0, []), some (.getfield 59, 21, 0, 0, []), none, none, some (.iload_n 1, 22, 0, 0, []), some (.baload, 23, 0, 0, []), some (.ifCond .eq 12, 26, 35, 0, []), none, none, some (.aload_n 0, 27, 0, 0, []), some (.getfield 59, 30, 0, 0, []), none, none, some (.iload_n 3, 31, 0, 0, []), some (.baload, 32, 0, 0, [])],
  [some (.ifCond .ne 6, 35, 38, 0, []), none, none, some (.bipush (-11), 37, 0, (-11), []), none, some (.ireturn, 38, 0, 0, []), some (.aload_n 0, 39, 0, 0, []), some (.getfield 63, 42, 0, 0, []), none, none, some (.iload_n 1, 43, 0, 0, []), some (.iaload, 44, 0, 0, []), some (.aload_n 0, 45, 0, 0, []), some (.getfield 63, 48, 0, 0, []), none, none],
  [some (.iload_n 3, 49, 0, 0, []), some (.iaload, 50, 0, 0, []), some (.if_icmp .eq 6, 53, 56, 0, []), none, none, some (.bipush (-13), 55, 0, (-13), []), none, some (.ireturn, 56, 0, 0, []), some (.iload 5, 58, 0, 0, []), none, some (.ifCond .lt 39, 61, 97, 0, []), none, none, some (.iload_n 2, 62, 0, 0, []), some (.ifCond .lt 35, 65, 97, 0, []), none],
  [none, some (.iload 4, 67, 0, 0, []), none, some (.ifCond .lt 30, 70, 97, 0, []), none, none, some (.iload_n 2, 71, 0, 0, []), some (.aload_n 0, 72, 0, 0, []), some (.getfield 66, 75, 0, 0, []), none, none, some (.iload_n 1, 76, 0, 0, []), some (.iaload, 77, 0, 0, []), some (.iload 5, 79, 0, 0, []), none, some (.isub, 80, 0, 0, [])],
  [some (.if_icmp .gt 17, 83, 97, 0, []), none, none, some (.iload 4, 85, 0, 0, []), none, some (.aload_n 0, 86, 0, 0, []), some (.getfield 66, 89, 0, 0, []), none, none, some (.iload_n 3, 90, 0, 0, []), some (.iaload, 91, 0, 0, []), some (.iload 5, 93, 0, 0, []), none, some (.isub, 94, 0, 0, []), some (.if_icmp .le 6, 97, 100, 0, []), none],
  [none, some (.bipush (-12), 99, 0, (-12), []), none, some (.ireturn, 100, 0, 0, []), some (.iload_n 1, 101, 0, 0, []), some (.iload_n 3, 102, 0, 0, []), some (.if_icmp .ne 13, 105, 115, 0, []), none, none, some (.iload_n 2, 106, 0, 0, []), some (.iload 4, 108, 0, 0, []), none, some (.if_icmp .ge 7, 111, 115, 0, []), none, none, some (.iconst 1, 112, 0, 1, [])],
  [some (.goto 4, 115, 116, 0, []), none, none, some (.iconst 0, 116, 0, 0, []), some (.istore 6, 118, 0, 0, []), none, some (.iconst 0, 119, 0, 0, []), some (.istore 7, 121, 0, 0, []), none, some (.iload 7, 123, 0, 0, []), none, some (.iload 5, 125, 0, 0, []), none, some (.if_icmp .ge 57, 128, 182, 0, []), none, none],
  [some (.iload 6, 130, 0, 0, []), none, some (.ifCond .eq 13, 133, 143, 0, []), none, none, some (.iload 5, 135, 0, 0, []), none, some (.iconst 1, 136, 0, 1, []), some (.isub, 137, 0, 0, []), some (.iload 7, 139, 0, 0, []), none, some (.isub, 140, 0, 0, []), some (.goto 5, 143, 145, 0, []), none, none, some (.iload 7, 145, 0, 0, [])],
  [none, some (.istore 8, 147, 0, 0, []), none, some (.aload_n 0, 148, 0, 0, []), some (.getfield 69, 151, 0, 0, []), none, none, some (.bipush 40, 153, 0, 40, []), none, some (.iload_n 3, 154, 0, 0, []), some (.imul, 155, 0, 0, []), some (.iload 4, 157, 0, 0, []), none, some (.iadd, 158, 0, 0, []), some (.iload 8, 160, 0, 0, []), none],
  [some (.iadd, 161, 0, 0, []), some (.aload_n 0, 162, 0, 0, []), some (.getfield 69, 165, 0, 0, []), none, none, some (.bipush 40, 167, 0, 40, []), none, some (.iload_n 1, 168, 0, 0, []), some (.imul, 169, 0, 0, []), some (.iload_n 2, 170, 0, 0, []), some (.iadd, 171, 0, 0, []), some (.iload 8, 173, 0, 0, []), none, some (.iadd, 174, 0, 0, []), some (.iaload, 175, 0, 0, []), some (.iastore, 176, 0, 0, [])],
  [some (.iinc 7 1, 179, 0, 1, []), none, none, some (.goto (-58), 182, 121, 0, []), none, none, some (.iload 5, 184, 0, 0, []), none, some (.ireturn, 185, 0, 0, [])]]
def m_X6_copy : MT := ((cd_X6_copy, 6, 0, 0, 1), (yX6_copy, cX6_copy, 9, (some .int)))
def cd_X6_room : List (List (Option Ent)) := [[some (.iload_n 1, 1, 0, 0, []), some (.invokestatic 366, 4, 0, 0, []), none, none, some (.ifCond .eq 28, 7, 32, 0, []), none, none, some (.iload_n 2, 8, 0, 0, []), some (.i2l, 9, 0, 0, []), some (.lconst 0, 10, 0, 0, []), some (.ldc2_w 275, 13, 0, 0, []), none, none, some (.invokestatic 86, 16, 0, 0, []), none, none],
  [some (.ifCond .eq 16, 19, 32, 0, []), none, none, some (.iload 4, 21, 0, 0, []), none, some (.i2l, 22, 0, 0, []), some (.lconst 0, 23, 0, 0, []), some (.ldc2_w 126, 26, 0, 0, []), none, none, some (.invokestatic 86, 29, 0, 0, []), none, none, some (.ifCond .ne 6, 32, 35, 0, []), none, none],
  [some (.bipush (-2), 34, 0, (-2), []), none, some (.ireturn, 35, 0, 0, []), some (.aload_n 0, 36, 0, 0, []), some (.getfield 59, 39, 0, 0, []), none, none, some (.iload_n 1, 40, 0, 0, []), some (.baload, 41, 0, 0, []), some (.ifCond .eq 16, 44, 57, 0, []), none, none, some (.aload_n 0, 45, 0, 0, []), some (.getfield 63, 48, 0, 0, []), none, none],
  [some (.iload_n 1, 49, 0, 0, []), some (.iaload, 50, 0, 0, []), some (.iload_n 2, 51, 0, 0, []), some (.if_icmp .eq 6, 54, 57, 0, []), none, none, some (.bipush (-13), 56, 0, (-13), []), none, some (.ireturn, 57, 0, 0, []), some (.aload_n 0, 58, 0, 0, []), some (.getfield 59, 61, 0, 0, []), none, none, some (.iload_n 1, 62, 0, 0, []), some (.baload, 63, 0, 0, []), some (.ifCond .ne 6, 66, 69, 0, [])],
  [none, none, some (.bipush (-11), 68, 0, (-11), []), none, some (.ireturn, 69, 0, 0, []), some (.iconst 0, 70, 0, 0, []), some (.istore 5, 72, 0, 0, []), none, some (.iconst 0, 73, 0, 0, []), some (.istore 6, 75, 0, 0, []), none, some (.iload 6, 77, 0, 0, []), none, some (.iload 4, 79, 0, 0, []), none, some (.if_icmp .ge 79, 82, 158, 0, [])],
  [none, none, some (.iload_n 3, 83, 0, 0, []), some (.ifCond .lt 20, 86, 103, 0, []), none, none, some (.iload_n 3, 87, 0, 0, []), some (.aload_n 0, 88, 0, 0, []), some (.getfield 66, 91, 0, 0, []), none, none, some (.iload_n 1, 92, 0, 0, []), some (.iaload, 93, 0, 0, []), some (.iconst 2, 94, 0, 2, []), some (.iload 6, 96, 0, 0, []), none],
  [some (.imul, 97, 0, 0, []), some (.isub, 98, 0, 0, []), some (.iconst 2, 99, 0, 2, []), some (.isub, 100, 0, 0, []), some (.if_icmp .le 6, 103, 106, 0, []), none, none, some (.bipush (-12), 105, 0, (-12), []), none, some (.ireturn, 106, 0, 0, []), some (.bipush 40, 108, 0, 40, []), none, some (.iload_n 1, 109, 0, 0, []), some (.imul, 110, 0, 0, []), some (.iload_n 3, 111, 0, 0, []), some (.iadd, 112, 0, 0, [])],
  [some (.iconst 2, 113, 0, 2, []), some (.iload 6, 115, 0, 0, []), none, some (.imul, 116, 0, 0, []), some (.iadd, 117, 0, 0, []), some (.istore 7, 119, 0, 0, []), none, some (.iload 5, 121, 0, 0, []), none, some (.aload_n 0, 122, 0, 0, []), some (.aload_n 0, 123, 0, 0, []), some (.getfield 69, 126, 0, 0, []), none, none, some (.iload 7, 128, 0, 0, []), none],
  [some (.iaload, 129, 0, 0, []), some (.aload_n 0, 130, 0, 0, []), some (.getfield 69, 133, 0, 0, []), none, none, some (.iload 7, 135, 0, 0, []), none, some (.iconst 1, 136, 0, 1, []), some (.iadd, 137, 0, 0, []), some (.iaload, 138, 0, 0, []), some (.invokevirtual 396, 141, 0, 0, []), none, none, some (.ifCond .lt 7, 144, 148, 0, []), none, none],
  [some (.iconst 1, 145, 0, 1, []), some (.goto 4, 148, 149, 0, []), none, none, some (.iconst 0, 149, 0, 0, []), some (.iadd, 150, 0, 0, []), some (.istore 5, 152, 0, 0, []), none, some (.iinc 6 1, 155, 0, 1, []), none, none, some (.goto (-80), 158, 75, 0, []), none, none, some (.iload 5, 160, 0, 0, []), none],
  [some (.ireturn, 161, 0, 0, [])]]
def m_X6_room : MT := ((cd_X6_room, 6, 0, 0, 1), (yX6_room, cX6_room, 8, (some .int)))
def cd_X6_over : List (List (Option Ent)) := [[some (.iload_n 0, 1, 0, 0, []), some (.ifCond .ne 7, 4, 8, 0, []), none, none, some (.iconst (-1), 5, 0, (-1), []), some (.goto 22, 8, 27, 0, []), none, none, some (.iload_n 0, 9, 0, 0, []), some (.iconst 3, 10, 0, 3, []), some (.if_icmp .ne 7, 13, 17, 0, []), none, none, some (.iconst 1, 14, 0, 1, []), some (.goto 13, 17, 27, 0, []), none],
  [none, some (.iload_n 0, 18, 0, 0, []), some (.iconst 4, 19, 0, 4, []), some (.if_icmp .ne 7, 22, 26, 0, []), none, none, some (.iconst 2, 23, 0, 2, []), some (.goto 4, 26, 27, 0, []), none, none, some (.iconst 0, 27, 0, 0, []), some (.ireturn, 28, 0, 0, [])]]
def m_X6_over : MT := ((cd_X6_over, 6, 0, 0, 1), (yX6_over, cX6_over, 1, (some .int)))
def cd_X6_taken : List (List (Option Ent)) := [[some (.iload_n 2, 1, 0, 0, []), some (.i2l, 2, 0, 0, []), some (.lconst 0, 3, 0, 0, []), some (.ldc2_w 126, 6, 0, 0, []), none, none, some (.invokestatic 86, 9, 0, 0, []), none, none, some (.ifCond .ne 6, 12, 15, 0, []), none, none, some (.bipush (-2), 14, 0, (-2), []), none, some (.ireturn, 15, 0, 0, []), some (.aload_n 0, 16, 0, 0, [])],
  [some (.iload_n 1, 17, 0, 0, []), some (.invokevirtual 90, 20, 0, 0, []), none, none, some (.ifCond .ne 6, 23, 26, 0, []), none, none, some (.bipush (-11), 25, 0, (-11), []), none, some (.ireturn, 26, 0, 0, []), some (.aload_n 0, 27, 0, 0, []), some (.getfield 23, 30, 0, 0, []), none, none, some (.iload_n 1, 31, 0, 0, []), some (.iaload, 32, 0, 0, [])],
  [some (.istore_n 3, 33, 0, 0, []), some (.iload_n 3, 34, 0, 0, []), some (.iconst (-1), 35, 0, (-1), []), some (.if_icmp .eq 16, 38, 51, 0, []), none, none, some (.iload_n 3, 39, 0, 0, []), some (.iload_n 2, 40, 0, 0, []), some (.if_icmp .eq 11, 43, 51, 0, []), none, none, some (.iload_n 3, 44, 0, 0, []), some (.invokestatic 399, 47, 0, 0, []), none, none, some (.istore_n 3, 48, 0, 0, [])],
  [some (.goto (-15), 51, 33, 0, []), none, none, some (.iload_n 3, 52, 0, 0, []), some (.iload_n 2, 53, 0, 0, []), some (.if_icmp .ne 14, 56, 67, 0, []), none, none, some (.aload_n 0, 57, 0, 0, []), some (.getfield 26, 60, 0, 0, []), none, none, some (.iconst 2, 61, 0, 2, []), some (.iload_n 1, 62, 0, 0, []), some (.imul, 63, 0, 0, []), some (.iaload, 64, 0, 0, [])],
  [some (.goto 5, 67, 69, 0, []), none, none, some (.bipush (-13), 69, 0, (-13), []), none, some (.ireturn, 70, 0, 0, [])]]
def m_X6_taken : MT := ((cd_X6_taken, 6, 0, 0, 1), (yX6_taken, cX6_taken, 4, (some .int)))
def cd_L_law : List (List (Option Ent)) := [[some (.new 7, 3, 0, 0, []), none, none, some (.dup, 4, 0, 0, []), some (.invokespecial 9, 7, 0, 0, []), none, none, some (.astore_n 1, 8, 0, 0, []), some (.new 10, 11, 0, 0, []), none, none, some (.dup, 12, 0, 0, []), some (.invokespecial 12, 15, 0, 0, []), none, none, some (.astore_n 2, 16, 0, 0, [])],
  [some (.iconst 0, 17, 0, 0, []), some (.istore_n 3, 18, 0, 0, []), some (.iload_n 3, 19, 0, 0, []), some (.aload_n 0, 20, 0, 0, []), some (.arraylength, 21, 0, 0, []), some (.bipush 6, 23, 0, 6, []), none, some (.isub, 24, 0, 0, []), some (.if_icmp .gt 1004, 27, 1028, 0, []), none, none, some (.aload_n 0, 28, 0, 0, []), some (.iload_n 3, 29, 0, 0, []), some (.iaload, 30, 0, 0, []), some (.bipush 31, 32, 0, 31, []), none],
  [some (.iand, 33, 0, 0, []), some (.tableswitch 989 0 25 #[119, 162, 195, 228, 271, 294, 307, 330, 363, 376, 389, 412, 465, 488, 522, 575, 628, 651, 705, 718, 731, 754, 797, 840, 903, 956], 152, 1022, 0, [(0, 152), (1, 195), (2, 228), (3, 261), (4, 304), (5, 327), (6, 340), (7, 363), (8, 396), (9, 409), (10, 422), (11, 445), (12, 498), (13, 521), (14, 555), (15, 608), (16, 661), (17, 684), (18, 738), (19, 751), (20, 764), (21, 787), (22, 830), (23, 873), (24, 936), (25, 989)]), none, none, none, none, none, none, none, none, none, none, none, none, none, none],
  [none, none, none, none, none, none, none, none, none, none, none, none, none, none, none, none],
  [none, none, none, none, none, none, none, none, none, none, none, none, none, none, none, none],
  [none, none, none, none, none, none, none, none, none, none, none, none, none, none, none, none],
  [none, none, none, none, none, none, none, none, none, none, none, none, none, none, none, none],
  [none, none, none, none, none, none, none, none, none, none, none, none, none, none, none, none],
  [none, none, none, none, none, none, none, none, none, none, none, none, none, none, none, none],
  [none, none, none, none, none, none, none, none, some (.aload_n 1, 153, 0, 0, []), some (.aload_n 0, 154, 0, 0, []), some (.iload_n 3, 155, 0, 0, []), some (.iconst 1, 156, 0, 1, []), some (.iadd, 157, 0, 0, []), some (.iaload, 158, 0, 0, []), some (.aload_n 0, 159, 0, 0, []), some (.iload_n 3, 160, 0, 0, [])],
  [some (.iconst 2, 161, 0, 2, []), some (.iadd, 162, 0, 0, []), some (.iaload, 163, 0, 0, []), some (.aload_n 0, 164, 0, 0, []), some (.iload_n 3, 165, 0, 0, []), some (.iconst 3, 166, 0, 3, []), some (.iadd, 167, 0, 0, []), some (.iaload, 168, 0, 0, []), some (.invokevirtual 13, 171, 0, 0, []), none, none, some (.aload_n 2, 172, 0, 0, []), some (.aload_n 0, 173, 0, 0, []), some (.iload_n 3, 174, 0, 0, []), some (.iconst 1, 175, 0, 1, []), some (.iadd, 176, 0, 0, [])],
  [some (.iaload, 177, 0, 0, []), some (.aload_n 0, 178, 0, 0, []), some (.iload_n 3, 179, 0, 0, []), some (.iconst 2, 180, 0, 2, []), some (.iadd, 181, 0, 0, []), some (.iaload, 182, 0, 0, []), some (.aload_n 0, 183, 0, 0, []), some (.iload_n 3, 184, 0, 0, []), some (.iconst 3, 185, 0, 3, []), some (.iadd, 186, 0, 0, []), some (.iaload, 187, 0, 0, []), some (.invokevirtual 17, 190, 0, 0, []), none, none, some (.if_icmp .eq 832, 193, 1022, 0, []), none],
  [none, some (.iconst 0, 194, 0, 0, []), some (.ireturn, 195, 0, 0, []), some (.aload_n 1, 196, 0, 0, []), some (.aload_n 0, 197, 0, 0, []), some (.iload_n 3, 198, 0, 0, []), some (.iconst 1, 199, 0, 1, []), some (.iadd, 200, 0, 0, []), some (.iaload, 201, 0, 0, []), some (.aload_n 0, 202, 0, 0, []), some (.iload_n 3, 203, 0, 0, []), some (.iconst 2, 204, 0, 2, []), some (.iadd, 205, 0, 0, []), some (.iaload, 206, 0, 0, []), some (.invokevirtual 18, 209, 0, 0, []), none],
  [none, some (.aload_n 2, 210, 0, 0, []), some (.aload_n 0, 211, 0, 0, []), some (.iload_n 3, 212, 0, 0, []), some (.iconst 1, 213, 0, 1, []), some (.iadd, 214, 0, 0, []), some (.iaload, 215, 0, 0, []), some (.aload_n 0, 216, 0, 0, []), some (.iload_n 3, 217, 0, 0, []), some (.iconst 2, 218, 0, 2, []), some (.iadd, 219, 0, 0, []), some (.iaload, 220, 0, 0, []), some (.invokevirtual 22, 223, 0, 0, []), none, none, some (.if_icmp .eq 799, 226, 1022, 0, [])],
  [none, none, some (.iconst 0, 227, 0, 0, []), some (.ireturn, 228, 0, 0, []), some (.aload_n 1, 229, 0, 0, []), some (.aload_n 0, 230, 0, 0, []), some (.iload_n 3, 231, 0, 0, []), some (.iconst 1, 232, 0, 1, []), some (.iadd, 233, 0, 0, []), some (.iaload, 234, 0, 0, []), some (.aload_n 0, 235, 0, 0, []), some (.iload_n 3, 236, 0, 0, []), some (.iconst 2, 237, 0, 2, []), some (.iadd, 238, 0, 0, []), some (.iaload, 239, 0, 0, []), some (.invokevirtual 23, 242, 0, 0, [])],
  [none, none, some (.aload_n 2, 243, 0, 0, []), some (.aload_n 0, 244, 0, 0, []), some (.iload_n 3, 245, 0, 0, []), some (.iconst 1, 246, 0, 1, []), some (.iadd, 247, 0, 0, []), some (.iaload, 248, 0, 0, []), some (.aload_n 0, 249, 0, 0, []), some (.iload_n 3, 250, 0, 0, []), some (.iconst 2, 251, 0, 2, []), some (.iadd, 252, 0, 0, []), some (.iaload, 253, 0, 0, []), some (.invokevirtual 26, 256, 0, 0, []), none, none],
  [some (.if_icmp .eq 766, 259, 1022, 0, []), none, none, some (.iconst 0, 260, 0, 0, []), some (.ireturn, 261, 0, 0, []), some (.aload_n 1, 262, 0, 0, []), some (.aload_n 0, 263, 0, 0, []), some (.iload_n 3, 264, 0, 0, []), some (.iconst 1, 265, 0, 1, []), some (.iadd, 266, 0, 0, []), some (.iaload, 267, 0, 0, []), some (.aload_n 0, 268, 0, 0, []), some (.iload_n 3, 269, 0, 0, []), some (.iconst 2, 270, 0, 2, []), some (.iadd, 271, 0, 0, []), some (.iaload, 272, 0, 0, [])],
  [some (.aload_n 0, 273, 0, 0, []), some (.iload_n 3, 274, 0, 0, []), some (.iconst 3, 275, 0, 3, []), some (.iadd, 276, 0, 0, []), some (.iaload, 277, 0, 0, []), some (.invokevirtual 27, 280, 0, 0, []), none, none, some (.aload_n 2, 281, 0, 0, []), some (.aload_n 0, 282, 0, 0, []), some (.iload_n 3, 283, 0, 0, []), some (.iconst 1, 284, 0, 1, []), some (.iadd, 285, 0, 0, []), some (.iaload, 286, 0, 0, []), some (.aload_n 0, 287, 0, 0, []), some (.iload_n 3, 288, 0, 0, [])],
  [some (.iconst 2, 289, 0, 2, []), some (.iadd, 290, 0, 0, []), some (.iaload, 291, 0, 0, []), some (.aload_n 0, 292, 0, 0, []), some (.iload_n 3, 293, 0, 0, []), some (.iconst 3, 294, 0, 3, []), some (.iadd, 295, 0, 0, []), some (.iaload, 296, 0, 0, []), some (.invokevirtual 30, 299, 0, 0, []), none, none, some (.if_icmp .eq 723, 302, 1022, 0, []), none, none, some (.iconst 0, 303, 0, 0, []), some (.ireturn, 304, 0, 0, [])],
  [some (.aload_n 1, 305, 0, 0, []), some (.aload_n 0, 306, 0, 0, []), some (.iload_n 3, 307, 0, 0, []), some (.iconst 1, 308, 0, 1, []), some (.iadd, 309, 0, 0, []), some (.iaload, 310, 0, 0, []), some (.invokevirtual 31, 313, 0, 0, []), none, none, some (.aload_n 2, 314, 0, 0, []), some (.aload_n 0, 315, 0, 0, []), some (.iload_n 3, 316, 0, 0, []), some (.iconst 1, 317, 0, 1, []), some (.iadd, 318, 0, 0, []), some (.iaload, 319, 0, 0, []), some (.invokevirtual 35, 322, 0, 0, [])],
  [none, none, some (.if_icmp .eq 700, 325, 1022, 0, []), none, none, some (.iconst 0, 326, 0, 0, []), some (.ireturn, 327, 0, 0, []), some (.aload_n 1, 328, 0, 0, []), some (.invokevirtual 36, 331, 0, 0, []), none, none, some (.aload_n 2, 332, 0, 0, []), some (.invokevirtual 40, 335, 0, 0, []), none, none, some (.if_icmp .eq 687, 338, 1022, 0, [])],
  [none, none, some (.iconst 0, 339, 0, 0, []), some (.ireturn, 340, 0, 0, []), some (.aload_n 1, 341, 0, 0, []), some (.aload_n 0, 342, 0, 0, []), some (.iload_n 3, 343, 0, 0, []), some (.iconst 1, 344, 0, 1, []), some (.iadd, 345, 0, 0, []), some (.iaload, 346, 0, 0, []), some (.invokevirtual 41, 349, 0, 0, []), none, none, some (.aload_n 2, 350, 0, 0, []), some (.aload_n 0, 351, 0, 0, []), some (.iload_n 3, 352, 0, 0, [])],
  [some (.iconst 1, 353, 0, 1, []), some (.iadd, 354, 0, 0, []), some (.iaload, 355, 0, 0, []), some (.invokevirtual 44, 358, 0, 0, []), none, none, some (.if_icmp .eq 664, 361, 1022, 0, []), none, none, some (.iconst 0, 362, 0, 0, []), some (.ireturn, 363, 0, 0, []), some (.aload_n 1, 364, 0, 0, []), some (.aload_n 0, 365, 0, 0, []), some (.iload_n 3, 366, 0, 0, []), some (.iconst 1, 367, 0, 1, []), some (.iadd, 368, 0, 0, [])],
  [some (.iaload, 369, 0, 0, []), some (.aload_n 0, 370, 0, 0, []), some (.iload_n 3, 371, 0, 0, []), some (.iconst 2, 372, 0, 2, []), some (.iadd, 373, 0, 0, []), some (.iaload, 374, 0, 0, []), some (.invokevirtual 45, 377, 0, 0, []), none, none, some (.aload_n 2, 378, 0, 0, []), some (.aload_n 0, 379, 0, 0, []), some (.iload_n 3, 380, 0, 0, []), some (.iconst 1, 381, 0, 1, []), some (.iadd, 382, 0, 0, []), some (.iaload, 383, 0, 0, []), some (.aload_n 0, 384, 0, 0, [])],
  [some (.iload_n 3, 385, 0, 0, []), some (.iconst 2, 386, 0, 2, []), some (.iadd, 387, 0, 0, []), some (.iaload, 388, 0, 0, []), some (.invokevirtual 48, 391, 0, 0, []), none, none, some (.if_icmp .eq 631, 394, 1022, 0, []), none, none, some (.iconst 0, 395, 0, 0, []), some (.ireturn, 396, 0, 0, []), some (.aload_n 1, 397, 0, 0, []), some (.invokevirtual 49, 400, 0, 0, []), none, none],
  [some (.aload_n 2, 401, 0, 0, []), some (.invokevirtual 52, 404, 0, 0, []), none, none, some (.if_icmp .eq 618, 407, 1022, 0, []), none, none, some (.iconst 0, 408, 0, 0, []), some (.ireturn, 409, 0, 0, []), some (.aload_n 1, 410, 0, 0, []), some (.invokevirtual 53, 413, 0, 0, []), none, none, some (.aload_n 2, 414, 0, 0, []), some (.invokevirtual 56, 417, 0, 0, []), none],
  [none, some (.if_icmp .eq 605, 420, 1022, 0, []), none, none, some (.iconst 0, 421, 0, 0, []), some (.ireturn, 422, 0, 0, []), some (.aload_n 1, 423, 0, 0, []), some (.aload_n 0, 424, 0, 0, []), some (.iload_n 3, 425, 0, 0, []), some (.iconst 1, 426, 0, 1, []), some (.iadd, 427, 0, 0, []), some (.iaload, 428, 0, 0, []), some (.invokevirtual 57, 431, 0, 0, []), none, none, some (.aload_n 2, 432, 0, 0, [])],
  [some (.aload_n 0, 433, 0, 0, []), some (.iload_n 3, 434, 0, 0, []), some (.iconst 1, 435, 0, 1, []), some (.iadd, 436, 0, 0, []), some (.iaload, 437, 0, 0, []), some (.invokevirtual 60, 440, 0, 0, []), none, none, some (.if_icmp .eq 582, 443, 1022, 0, []), none, none, some (.iconst 0, 444, 0, 0, []), some (.ireturn, 445, 0, 0, []), some (.aload_n 1, 446, 0, 0, []), some (.aload_n 0, 447, 0, 0, []), some (.iload_n 3, 448, 0, 0, [])],
  [some (.iconst 1, 449, 0, 1, []), some (.iadd, 450, 0, 0, []), some (.iaload, 451, 0, 0, []), some (.aload_n 0, 452, 0, 0, []), some (.iload_n 3, 453, 0, 0, []), some (.iconst 2, 454, 0, 2, []), some (.iadd, 455, 0, 0, []), some (.iaload, 456, 0, 0, []), some (.aload_n 0, 457, 0, 0, []), some (.iload_n 3, 458, 0, 0, []), some (.iconst 3, 459, 0, 3, []), some (.iadd, 460, 0, 0, []), some (.iaload, 461, 0, 0, []), some (.aload_n 0, 462, 0, 0, []), some (.iload_n 3, 463, 0, 0, []), some (.iconst 4, 464, 0, 4, [])],
  [some (.iadd, 465, 0, 0, []), some (.iaload, 466, 0, 0, []), some (.invokevirtual 61, 469, 0, 0, []), none, none, some (.aload_n 2, 470, 0, 0, []), some (.aload_n 0, 471, 0, 0, []), some (.iload_n 3, 472, 0, 0, []), some (.iconst 1, 473, 0, 1, []), some (.iadd, 474, 0, 0, []), some (.iaload, 475, 0, 0, []), some (.aload_n 0, 476, 0, 0, []), some (.iload_n 3, 477, 0, 0, []), some (.iconst 2, 478, 0, 2, []), some (.iadd, 479, 0, 0, []), some (.iaload, 480, 0, 0, [])],
  [some (.aload_n 0, 481, 0, 0, []), some (.iload_n 3, 482, 0, 0, []), some (.iconst 3, 483, 0, 3, []), some (.iadd, 484, 0, 0, []), some (.iaload, 485, 0, 0, []), some (.aload_n 0, 486, 0, 0, []), some (.iload_n 3, 487, 0, 0, []), some (.iconst 4, 488, 0, 4, []), some (.iadd, 489, 0, 0, []), some (.iaload, 490, 0, 0, []), some (.invokevirtual 65, 493, 0, 0, []), none, none, some (.if_icmp .eq 529, 496, 1022, 0, []), none, none],
  [some (.iconst 0, 497, 0, 0, []), some (.ireturn, 498, 0, 0, []), some (.aload_n 1, 499, 0, 0, []), some (.aload_n 0, 500, 0, 0, []), some (.iload_n 3, 501, 0, 0, []), some (.iconst 1, 502, 0, 1, []), some (.iadd, 503, 0, 0, []), some (.iaload, 504, 0, 0, []), some (.invokevirtual 66, 507, 0, 0, []), none, none, some (.aload_n 2, 508, 0, 0, []), some (.aload_n 0, 509, 0, 0, []), some (.iload_n 3, 510, 0, 0, []), some (.iconst 1, 511, 0, 1, []), some (.iadd, 512, 0, 0, [])],
  [some (.iaload, 513, 0, 0, []), some (.invokevirtual 69, 516, 0, 0, []), none, none, some (.if_icmp .eq 506, 519, 1022, 0, []), none, none, some (.iconst 0, 520, 0, 0, []), some (.ireturn, 521, 0, 0, []), some (.aload_n 1, 522, 0, 0, []), some (.aload_n 0, 523, 0, 0, []), some (.iload_n 3, 524, 0, 0, []), some (.iconst 1, 525, 0, 1, []), some (.iadd, 526, 0, 0, []), some (.iaload, 527, 0, 0, []), some (.aload_n 0, 528, 0, 0, [])],
  [some (.iload_n 3, 529, 0, 0, []), some (.iconst 2, 530, 0, 2, []), some (.iadd, 531, 0, 0, []), some (.iaload, 532, 0, 0, []), some (.invokevirtual 70, 535, 0, 0, []), none, none, some (.aload_n 2, 536, 0, 0, []), some (.aload_n 0, 537, 0, 0, []), some (.iload_n 3, 538, 0, 0, []), some (.iconst 1, 539, 0, 1, []), some (.iadd, 540, 0, 0, []), some (.iaload, 541, 0, 0, []), some (.aload_n 0, 542, 0, 0, []), some (.iload_n 3, 543, 0, 0, []), some (.iconst 2, 544, 0, 2, [])],
  [some (.iadd, 545, 0, 0, []), some (.iaload, 546, 0, 0, []), some (.invokevirtual 74, 549, 0, 0, []), none, none, some (.lcmp, 550, 0, 0, []), some (.ifCond .eq 472, 553, 1022, 0, []), none, none, some (.iconst 0, 554, 0, 0, []), some (.ireturn, 555, 0, 0, []), some (.aload_n 1, 556, 0, 0, []), some (.aload_n 0, 557, 0, 0, []), some (.iload_n 3, 558, 0, 0, []), some (.iconst 1, 559, 0, 1, []), some (.iadd, 560, 0, 0, [])],
  [some (.iaload, 561, 0, 0, []), some (.aload_n 0, 562, 0, 0, []), some (.iload_n 3, 563, 0, 0, []), some (.iconst 2, 564, 0, 2, []), some (.iadd, 565, 0, 0, []), some (.iaload, 566, 0, 0, []), some (.aload_n 0, 567, 0, 0, []), some (.iload_n 3, 568, 0, 0, []), some (.iconst 3, 569, 0, 3, []), some (.iadd, 570, 0, 0, []), some (.iaload, 571, 0, 0, []), some (.aload_n 0, 572, 0, 0, []), some (.iload_n 3, 573, 0, 0, []), some (.iconst 4, 574, 0, 4, []), some (.iadd, 575, 0, 0, []), some (.iaload, 576, 0, 0, [])],
  [some (.invokevirtual 75, 579, 0, 0, []), none, none, some (.aload_n 2, 580, 0, 0, []), some (.aload_n 0, 581, 0, 0, []), some (.iload_n 3, 582, 0, 0, []), some (.iconst 1, 583, 0, 1, []), some (.iadd, 584, 0, 0, []), some (.iaload, 585, 0, 0, []), some (.aload_n 0, 586, 0, 0, []), some (.iload_n 3, 587, 0, 0, []), some (.iconst 2, 588, 0, 2, []), some (.iadd, 589, 0, 0, []), some (.iaload, 590, 0, 0, []), some (.aload_n 0, 591, 0, 0, []), some (.iload_n 3, 592, 0, 0, [])],
  [some (.iconst 3, 593, 0, 3, []), some (.iadd, 594, 0, 0, []), some (.iaload, 595, 0, 0, []), some (.aload_n 0, 596, 0, 0, []), some (.iload_n 3, 597, 0, 0, []), some (.iconst 4, 598, 0, 4, []), some (.iadd, 599, 0, 0, []), some (.iaload, 600, 0, 0, []), some (.invokevirtual 78, 603, 0, 0, []), none, none, some (.if_icmp .eq 419, 606, 1022, 0, []), none, none, some (.iconst 0, 607, 0, 0, []), some (.ireturn, 608, 0, 0, [])],
  [some (.aload_n 1, 609, 0, 0, []), some (.aload_n 0, 610, 0, 0, []), some (.iload_n 3, 611, 0, 0, []), some (.iconst 1, 612, 0, 1, []), some (.iadd, 613, 0, 0, []), some (.iaload, 614, 0, 0, []), some (.aload_n 0, 615, 0, 0, []), some (.iload_n 3, 616, 0, 0, []), some (.iconst 2, 617, 0, 2, []), some (.iadd, 618, 0, 0, []), some (.iaload, 619, 0, 0, []), some (.aload_n 0, 620, 0, 0, []), some (.iload_n 3, 621, 0, 0, []), some (.iconst 3, 622, 0, 3, []), some (.iadd, 623, 0, 0, []), some (.iaload, 624, 0, 0, [])],
  [some (.aload_n 0, 625, 0, 0, []), some (.iload_n 3, 626, 0, 0, []), some (.iconst 4, 627, 0, 4, []), some (.iadd, 628, 0, 0, []), some (.iaload, 629, 0, 0, []), some (.invokevirtual 79, 632, 0, 0, []), none, none, some (.aload_n 2, 633, 0, 0, []), some (.aload_n 0, 634, 0, 0, []), some (.iload_n 3, 635, 0, 0, []), some (.iconst 1, 636, 0, 1, []), some (.iadd, 637, 0, 0, []), some (.iaload, 638, 0, 0, []), some (.aload_n 0, 639, 0, 0, []), some (.iload_n 3, 640, 0, 0, [])],
  [some (.iconst 2, 641, 0, 2, []), some (.iadd, 642, 0, 0, []), some (.iaload, 643, 0, 0, []), some (.aload_n 0, 644, 0, 0, []), some (.iload_n 3, 645, 0, 0, []), some (.iconst 3, 646, 0, 3, []), some (.iadd, 647, 0, 0, []), some (.iaload, 648, 0, 0, []), some (.aload_n 0, 649, 0, 0, []), some (.iload_n 3, 650, 0, 0, []), some (.iconst 4, 651, 0, 4, []), some (.iadd, 652, 0, 0, []), some (.iaload, 653, 0, 0, []), some (.invokevirtual 82, 656, 0, 0, []), none, none],
  [some (.if_icmp .eq 366, 659, 1022, 0, []), none, none, some (.iconst 0, 660, 0, 0, []), some (.ireturn, 661, 0, 0, []), some (.aload_n 1, 662, 0, 0, []), some (.aload_n 0, 663, 0, 0, []), some (.iload_n 3, 664, 0, 0, []), some (.iconst 1, 665, 0, 1, []), some (.iadd, 666, 0, 0, []), some (.iaload, 667, 0, 0, []), some (.invokevirtual 83, 670, 0, 0, []), none, none, some (.aload_n 2, 671, 0, 0, []), some (.aload_n 0, 672, 0, 0, [])],
  [some (.iload_n 3, 673, 0, 0, []), some (.iconst 1, 674, 0, 1, []), some (.iadd, 675, 0, 0, []), some (.iaload, 676, 0, 0, []), some (.invokevirtual 86, 679, 0, 0, []), none, none, some (.if_icmp .eq 343, 682, 1022, 0, []), none, none, some (.iconst 0, 683, 0, 0, []), some (.ireturn, 684, 0, 0, []), some (.aload_n 1, 685, 0, 0, []), some (.aload_n 0, 686, 0, 0, []), some (.iload_n 3, 687, 0, 0, []), some (.iconst 1, 688, 0, 1, [])],
  [some (.iadd, 689, 0, 0, []), some (.iaload, 690, 0, 0, []), some (.aload_n 0, 691, 0, 0, []), some (.iload_n 3, 692, 0, 0, []), some (.iconst 2, 693, 0, 2, []), some (.iadd, 694, 0, 0, []), some (.iaload, 695, 0, 0, []), some (.aload_n 0, 696, 0, 0, []), some (.iload_n 3, 697, 0, 0, []), some (.iconst 3, 698, 0, 3, []), some (.iadd, 699, 0, 0, []), some (.iaload, 700, 0, 0, []), some (.aload_n 0, 701, 0, 0, []), some (.iload_n 3, 702, 0, 0, []), some (.iconst 4, 703, 0, 4, []), some (.iadd, 704, 0, 0, [])],
  [some (.iaload, 705, 0, 0, []), some (.invokevirtual 87, 708, 0, 0, []), none, none, some (.aload_n 2, 709, 0, 0, []), some (.aload_n 0, 710, 0, 0, []), some (.iload_n 3, 711, 0, 0, []), some (.iconst 1, 712, 0, 1, []), some (.iadd, 713, 0, 0, []), some (.iaload, 714, 0, 0, []), some (.aload_n 0, 715, 0, 0, []), some (.iload_n 3, 716, 0, 0, []), some (.iconst 2, 717, 0, 2, []), some (.iadd, 718, 0, 0, []), some (.iaload, 719, 0, 0, []), some (.aload_n 0, 720, 0, 0, [])],
  [some (.iload_n 3, 721, 0, 0, []), some (.iconst 3, 722, 0, 3, []), some (.iadd, 723, 0, 0, []), some (.iaload, 724, 0, 0, []), some (.aload_n 0, 725, 0, 0, []), some (.iload_n 3, 726, 0, 0, []), some (.iconst 4, 727, 0, 4, []), some (.iadd, 728, 0, 0, []), some (.iaload, 729, 0, 0, []), some (.invokevirtual 91, 732, 0, 0, []), none, none, some (.lcmp, 733, 0, 0, []), some (.ifCond .eq 289, 736, 1022, 0, []), none, none],
  [some (.iconst 0, 737, 0, 0, []), some (.ireturn, 738, 0, 0, []), some (.aload_n 1, 739, 0, 0, []), some (.invokevirtual 92, 742, 0, 0, []), none, none, some (.aload_n 2, 743, 0, 0, []), some (.invokevirtual 95, 746, 0, 0, []), none, none, some (.if_icmp .eq 276, 749, 1022, 0, []), none, none, some (.iconst 0, 750, 0, 0, []), some (.ireturn, 751, 0, 0, []), some (.aload_n 1, 752, 0, 0, [])],
  [some (.invokevirtual 96, 755, 0, 0, []), none, none, some (.aload_n 2, 756, 0, 0, []), some (.invokevirtual 99, 759, 0, 0, []), none, none, some (.if_icmp .eq 263, 762, 1022, 0, []), none, none, some (.iconst 0, 763, 0, 0, []), some (.ireturn, 764, 0, 0, []), some (.aload_n 1, 765, 0, 0, []), some (.aload_n 0, 766, 0, 0, []), some (.iload_n 3, 767, 0, 0, []), some (.iconst 1, 768, 0, 1, [])],
  [some (.iadd, 769, 0, 0, []), some (.iaload, 770, 0, 0, []), some (.invokevirtual 100, 773, 0, 0, []), none, none, some (.aload_n 2, 774, 0, 0, []), some (.aload_n 0, 775, 0, 0, []), some (.iload_n 3, 776, 0, 0, []), some (.iconst 1, 777, 0, 1, []), some (.iadd, 778, 0, 0, []), some (.iaload, 779, 0, 0, []), some (.invokevirtual 103, 782, 0, 0, []), none, none, some (.if_icmp .eq 240, 785, 1022, 0, []), none],
  [none, some (.iconst 0, 786, 0, 0, []), some (.ireturn, 787, 0, 0, []), some (.aload_n 1, 788, 0, 0, []), some (.aload_n 0, 789, 0, 0, []), some (.iload_n 3, 790, 0, 0, []), some (.iconst 1, 791, 0, 1, []), some (.iadd, 792, 0, 0, []), some (.iaload, 793, 0, 0, []), some (.aload_n 0, 794, 0, 0, []), some (.iload_n 3, 795, 0, 0, []), some (.iconst 2, 796, 0, 2, []), some (.iadd, 797, 0, 0, []), some (.iaload, 798, 0, 0, []), some (.aload_n 0, 799, 0, 0, []), some (.iload_n 3, 800, 0, 0, [])],
  [some (.iconst 3, 801, 0, 3, []), some (.iadd, 802, 0, 0, []), some (.iaload, 803, 0, 0, []), some (.invokevirtual 104, 806, 0, 0, []), none, none, some (.aload_n 2, 807, 0, 0, []), some (.aload_n 0, 808, 0, 0, []), some (.iload_n 3, 809, 0, 0, []), some (.iconst 1, 810, 0, 1, []), some (.iadd, 811, 0, 0, []), some (.iaload, 812, 0, 0, []), some (.aload_n 0, 813, 0, 0, []), some (.iload_n 3, 814, 0, 0, []), some (.iconst 2, 815, 0, 2, []), some (.iadd, 816, 0, 0, [])],
  [some (.iaload, 817, 0, 0, []), some (.aload_n 0, 818, 0, 0, []), some (.iload_n 3, 819, 0, 0, []), some (.iconst 3, 820, 0, 3, []), some (.iadd, 821, 0, 0, []), some (.iaload, 822, 0, 0, []), some (.invokevirtual 107, 825, 0, 0, []), none, none, some (.if_icmp .eq 197, 828, 1022, 0, []), none, none, some (.iconst 0, 829, 0, 0, []), some (.ireturn, 830, 0, 0, []), some (.aload_n 1, 831, 0, 0, []), some (.aload_n 0, 832, 0, 0, [])],
  [some (.iload_n 3, 833, 0, 0, []), some (.iconst 1, 834, 0, 1, []), some (.iadd, 835, 0, 0, []), some (.iaload, 836, 0, 0, []), some (.aload_n 0, 837, 0, 0, []), some (.iload_n 3, 838, 0, 0, []), some (.iconst 2, 839, 0, 2, []), some (.iadd, 840, 0, 0, []), some (.iaload, 841, 0, 0, []), some (.aload_n 0, 842, 0, 0, []), some (.iload_n 3, 843, 0, 0, []), some (.iconst 3, 844, 0, 3, []), some (.iadd, 845, 0, 0, []), some (.iaload, 846, 0, 0, []), some (.invokevirtual 108, 849, 0, 0, []), none],
  [none, some (.aload_n 2, 850, 0, 0, []), some (.aload_n 0, 851, 0, 0, []), some (.iload_n 3, 852, 0, 0, []), some (.iconst 1, 853, 0, 1, []), some (.iadd, 854, 0, 0, []), some (.iaload, 855, 0, 0, []), some (.aload_n 0, 856, 0, 0, []), some (.iload_n 3, 857, 0, 0, []), some (.iconst 2, 858, 0, 2, []), some (.iadd, 859, 0, 0, []), some (.iaload, 860, 0, 0, []), some (.aload_n 0, 861, 0, 0, []), some (.iload_n 3, 862, 0, 0, []), some (.iconst 3, 863, 0, 3, []), some (.iadd, 864, 0, 0, [])],
  [some (.iaload, 865, 0, 0, []), some (.invokevirtual 111, 868, 0, 0, []), none, none, some (.if_icmp .eq 154, 871, 1022, 0, []), none, none, some (.iconst 0, 872, 0, 0, []), some (.ireturn, 873, 0, 0, []), some (.aload_n 1, 874, 0, 0, []), some (.aload_n 0, 875, 0, 0, []), some (.iload_n 3, 876, 0, 0, []), some (.iconst 1, 877, 0, 1, []), some (.iadd, 878, 0, 0, []), some (.iaload, 879, 0, 0, []), some (.aload_n 0, 880, 0, 0, [])],
  [some (.iload_n 3, 881, 0, 0, []), some (.iconst 2, 882, 0, 2, []), some (.iadd, 883, 0, 0, []), some (.iaload, 884, 0, 0, []), some (.aload_n 0, 885, 0, 0, []), some (.iload_n 3, 886, 0, 0, []), some (.iconst 3, 887, 0, 3, []), some (.iadd, 888, 0, 0, []), some (.iaload, 889, 0, 0, []), some (.aload_n 0, 890, 0, 0, []), some (.iload_n 3, 891, 0, 0, []), some (.iconst 4, 892, 0, 4, []), some (.iadd, 893, 0, 0, []), some (.iaload, 894, 0, 0, []), some (.aload_n 0, 895, 0, 0, []), some (.iload_n 3, 896, 0, 0, [])],
  [some (.iconst 5, 897, 0, 5, []), some (.iadd, 898, 0, 0, []), some (.iaload, 899, 0, 0, []), some (.invokevirtual 112, 902, 0, 0, []), none, none, some (.aload_n 2, 903, 0, 0, []), some (.aload_n 0, 904, 0, 0, []), some (.iload_n 3, 905, 0, 0, []), some (.iconst 1, 906, 0, 1, []), some (.iadd, 907, 0, 0, []), some (.iaload, 908, 0, 0, []), some (.aload_n 0, 909, 0, 0, []), some (.iload_n 3, 910, 0, 0, []), some (.iconst 2, 911, 0, 2, []), some (.iadd, 912, 0, 0, [])],
  [some (.iaload, 913, 0, 0, []), some (.aload_n 0, 914, 0, 0, []), some (.iload_n 3, 915, 0, 0, []), some (.iconst 3, 916, 0, 3, []), some (.iadd, 917, 0, 0, []), some (.iaload, 918, 0, 0, []), some (.aload_n 0, 919, 0, 0, []), some (.iload_n 3, 920, 0, 0, []), some (.iconst 4, 921, 0, 4, []), some (.iadd, 922, 0, 0, []), some (.iaload, 923, 0, 0, []), some (.aload_n 0, 924, 0, 0, []), some (.iload_n 3, 925, 0, 0, []), some (.iconst 5, 926, 0, 5, []), some (.iadd, 927, 0, 0, []), some (.iaload, 928, 0, 0, [])],
  [some (.invokevirtual 116, 931, 0, 0, []), none, none, some (.if_icmp .eq 91, 934, 1022, 0, []), none, none, some (.iconst 0, 935, 0, 0, []), some (.ireturn, 936, 0, 0, []), some (.aload_n 1, 937, 0, 0, []), some (.aload_n 0, 938, 0, 0, []), some (.iload_n 3, 939, 0, 0, []), some (.iconst 1, 940, 0, 1, []), some (.iadd, 941, 0, 0, []), some (.iaload, 942, 0, 0, []), some (.aload_n 0, 943, 0, 0, []), some (.iload_n 3, 944, 0, 0, [])],
  [some (.iconst 2, 945, 0, 2, []), some (.iadd, 946, 0, 0, []), some (.iaload, 947, 0, 0, []), some (.aload_n 0, 948, 0, 0, []), some (.iload_n 3, 949, 0, 0, []), some (.iconst 3, 950, 0, 3, []), some (.iadd, 951, 0, 0, []), some (.iaload, 952, 0, 0, []), some (.aload_n 0, 953, 0, 0, []), some (.iload_n 3, 954, 0, 0, []), some (.iconst 4, 955, 0, 4, []), some (.iadd, 956, 0, 0, []), some (.iaload, 957, 0, 0, []), some (.invokevirtual 117, 960, 0, 0, []), none, none],
  [some (.aload_n 2, 961, 0, 0, []), some (.aload_n 0, 962, 0, 0, []), some (.iload_n 3, 963, 0, 0, []), some (.iconst 1, 964, 0, 1, []), some (.iadd, 965, 0, 0, []), some (.iaload, 966, 0, 0, []), some (.aload_n 0, 967, 0, 0, []), some (.iload_n 3, 968, 0, 0, []), some (.iconst 2, 969, 0, 2, []), some (.iadd, 970, 0, 0, []), some (.iaload, 971, 0, 0, []), some (.aload_n 0, 972, 0, 0, []), some (.iload_n 3, 973, 0, 0, []), some (.iconst 3, 974, 0, 3, []), some (.iadd, 975, 0, 0, []), some (.iaload, 976, 0, 0, [])],
  [some (.aload_n 0, 977, 0, 0, []), some (.iload_n 3, 978, 0, 0, []), some (.iconst 4, 979, 0, 4, []), some (.iadd, 980, 0, 0, []), some (.iaload, 981, 0, 0, []), some (.invokevirtual 120, 984, 0, 0, []), none, none, some (.if_icmp .eq 38, 987, 1022, 0, []), none, none, some (.iconst 0, 988, 0, 0, []), some (.ireturn, 989, 0, 0, []), some (.aload_n 1, 990, 0, 0, []), some (.aload_n 0, 991, 0, 0, []), some (.iload_n 3, 992, 0, 0, [])],
  [some (.iconst 1, 993, 0, 1, []), some (.iadd, 994, 0, 0, []), some (.iaload, 995, 0, 0, []), some (.aload_n 0, 996, 0, 0, []), some (.iload_n 3, 997, 0, 0, []), some (.iconst 2, 998, 0, 2, []), some (.iadd, 999, 0, 0, []), some (.iaload, 1000, 0, 0, []), some (.invokevirtual 121, 1003, 0, 0, []), none, none, some (.aload_n 2, 1004, 0, 0, []), some (.aload_n 0, 1005, 0, 0, []), some (.iload_n 3, 1006, 0, 0, []), some (.iconst 1, 1007, 0, 1, []), some (.iadd, 1008, 0, 0, [])],
  [some (.iaload, 1009, 0, 0, []), some (.aload_n 0, 1010, 0, 0, []), some (.iload_n 3, 1011, 0, 0, []), some (.iconst 2, 1012, 0, 2, []), some (.iadd, 1013, 0, 0, []), some (.iaload, 1014, 0, 0, []), some (.invokevirtual 124, 1017, 0, 0, []), none, none, some (.if_icmp .eq 5, 1020, 1022, 0, []), none, none, some (.iconst 0, 1021, 0, 0, []), some (.ireturn, 1022, 0, 0, []), some (.iinc 3 6, 1025, 0, 6, []), none],
  [none, some (.goto (-1007), 1028, 18, 0, []), none, none, some (.iconst 1, 1029, 0, 1, []), some (.ireturn, 1030, 0, 0, [])]]
def m_L_law : MT := ((cd_L_law, 7, 600000, 7302250, 4), (yL_law, cL_law, 4, (some .boolean)))
/-- a link: its kind (0 a method of an object, 1 static, 2 a constructor, 3 Object.<init>, 4 min, 5 max, 6 arraycopy, 7 clone, 8 length, 9 charAt, 10 indexOf, 11 static of the nest, 12 a constructor of the nest), the method, how many arguments -/
abbrev LK : Type := Nat × MT × Nat
def lnk_0 : List (Nat × LK) := [(3, (3, m_none, 0)), (50, (6, m_none, 5)), (56, (0, m_X0_owes, 1)), (65, (0, m_X0_owedTo, 1)), (68, (0, m_X2_value, 2)), (75, (0, m_X0_value, 3)), (78, (0, m_X0_owing, 2)), (81, (0, m_X0_will, 2)), (85, (0, m_X0_breath, 1)), (88, (0, m_X0_pays, 2)), (91, (0, m_X0_settle, 4)), (95, (0, m_X0_lessen, 3)), (99, (4, m_none, 2)), (110, (0, m_X0_may, 2)), (113, (0, m_X0_step, 2)), (116, (0, m_X0_danceRound, 0)), (121, (5, m_none, 2)), (124, (0, m_X0_longest, 4)), (134, (0, m_X0_mayAll, 1)), (138, (0, m_X0_paidBy, 1)), (149, (0, m_X0_firstOtherwise, 2)), (72, (11, m_X5_within, 2))]
def lnk_1 : List (Nat × LK) := [(3, (3, m_none, 0)), (34, (0, m_X1_next, 0)), (37, (0, m_X1_pass, 1)), (41, (0, m_X1_either, 0)), (48, (6, m_none, 5)), (56, (7, m_none, 0)), (61, (2, m_X4_init, 2)), (64, (0, m_X1_both, 0)), (67, (0, m_X1_put, 1)), (70, (0, m_X1_denied, 0)), (73, (0, m_X1_compared, 0)), (76, (0, m_X1_opens, 0)), (79, (0, m_X1_sum, 0)), (82, (0, m_X1_term, 0)), (85, (0, m_X1_one, 0)), (94, (1, m_X1_isDigit, 1)), (97, (0, m_X1_nextNumber, 0)), (100, (1, m_X1_isLetter, 1)), (103, (0, m_X1_nextWord, 0)), (108, (10, m_none, 1)), (116, (0, m_X1_spells, 1)), (141, (8, m_none, 0)), (145, (9, m_none, 1))]
def lnk_2 : List (Nat × LK) := [(3, (3, m_none, 0)), (24, (2, m_X4_init, 2))]
def lnk_3 : List (Nat × LK) := [(3, (3, m_none, 0))]
def lnk_4 : List (Nat × LK) := [(1, (3, m_none, 0))]
def lnk_5 : List (Nat × LK) := [(1, (3, m_none, 0)), (9, (2, m_X2_init, 0)), (18, (2, m_X0_init, 1)), (53, (0, m_X5_told, 2)), (73, (0, m_X5_debtPlace, 1)), (80, (0, m_X0_join, 2)), (83, (0, m_X5_isDancer, 1)), (90, (0, m_X0_breath, 1)), (93, (0, m_X0_owes, 1)), (96, (0, m_X0_owedTo, 1)), (99, (0, m_X5_isTwo, 2)), (103, (0, m_X0_owing, 2)), (106, (0, m_X0_pays, 2)), (109, (0, m_X0_will, 2)), (112, (0, m_X0_may, 2)), (115, (0, m_X1_hold, 1)), (124, (0, m_X1_read, 0)), (131, (0, m_X2_keep, 1)), (138, (0, m_X0_step, 2)), (141, (0, m_X0_danceRound, 0)), (145, (0, m_X0_endNight, 0)), (148, (0, m_X5_readRing, 1)), (151, (4, m_none, 2)), (156, (0, m_X0_lessen, 3)), (160, (0, m_X5_think, 0)), (164, (0, m_X0_all, 0)), (167, (0, m_X0_stillOwed, 0)), (170, (0, m_X0_takeFrom, 1)), (174, (0, m_X0_weigh, 0)), (177, (0, m_X0_bestSet, 0)), (180, (0, m_X0_paidBy, 1)), (183, (0, m_X5_sitters, 0)), (186, (0, m_X5_soonest, 0)), (189, (0, m_X0_least, 0)), (192, (0, m_X0_ring, 0)), (194, (0, m_X0_ends, 0)), (197, (0, m_X0_keeps, 0)), (202, (1, m_X5_lowest, 3)), (209, (0, m_X5_clears, 2)), (212, (0, m_X0_mostToMeet, 0)), (218, (0, m_X0_mayAll, 1)), (221, (0, m_X0_danceSet, 2)), (225, (1, m_X5_isSheet, 1)), (232, (0, m_X0_firstOtherwise, 2)), (236, (0, m_X5_kindsTold, 2)), (239, (0, m_X5_numbersTold, 2)), (242, (0, m_X5_roundsTold, 3)), (246, (0, m_X5_donesTold, 3)), (249, (0, m_X5_textsTold, 2)), (252, (0, m_X5_dancersTold, 2)), (255, (0, m_X0_paysAs, 2)), (259, (0, m_X3_become, 2)), (263, (0, m_X3_put, 2)), (266, (0, m_X0_draw, 1)), (274, (1, m_X5_isSort, 1)), (277, (0, m_X3_holds, 2)), (283, (6, m_none, 5)), (289, (0, m_X5_dancer, 2)), (34, (12, m_X1_init, 0)), (41, (12, m_X3_init, 0))]
def lnk_6 : List (Nat × LK) := [(7, (3, m_none, 0)), (72, (1, m_X6_isApart, 1)), (76, (0, m_X6_spell, 9)), (86, (1, m_X6_in, 3)), (90, (0, m_X6_isOne, 1)), (93, (0, m_X6_areTwo, 2)), (99, (0, m_X6_isOf, 2)), (102, (1, m_X6_mostOf, 1)), (106, (0, m_X6_told, 2)), (110, (0, m_X6_lays, 3)), (120, (1, m_X6_placeOf, 1)), (132, (0, m_X6_breathOf, 1)), (135, (0, m_X6_owesOf, 1)), (138, (0, m_X6_owedTo, 1)), (141, (0, m_X6_debtOf, 2)), (158, (0, m_X6_byteAt, 1)), (188, (0, m_X6_isLetter, 2)), (194, (0, m_X6_fail, 0)), (197, (0, m_X6_next, 0)), (200, (0, m_X6_isWord, 8)), (222, (0, m_X6_isSign, 1)), (225, (0, m_X6_opens, 0)), (229, (0, m_X6_atom, 0)), (233, (0, m_X6_either, 0)), (236, (0, m_X6_name, 0)), (239, (0, m_X6_term, 0)), (244, (0, m_X6_not, 0)), (247, (0, m_X6_added, 0)), (252, (0, m_X6_both, 0)), (255, (0, m_X6_part, 1)), (259, (0, m_X6_read, 2)), (262, (1, m_X6_within, 3)), (266, (0, m_X6_says, 3)), (269, (0, m_X6_willOf, 2)), (272, (0, m_X6_hasBreath, 1)), (277, (0, m_X6_paysOf, 2)), (280, (0, m_X6_mayDance, 2)), (283, (0, m_X6_dances, 1)), (287, (0, m_X6_danceBoth, 2)), (293, (0, m_X6_passes, 0)), (297, (0, m_X6_ringOf, 1)), (302, (0, m_X6_laysAside, 0)), (305, (0, m_X6_owedAll, 0)), (308, (0, m_X6_owedSet, 0)), (311, (0, m_X6_laysBack, 0)), (314, (1, m_X6_both_, 1)), (316, (1, m_X6_greater, 1)), (319, (1, m_X6_lesser, 1)), (322, (0, m_X6_isSet, 1)), (325, (0, m_X6_dancesOf, 1)), (328, (0, m_X6_isPaidBy, 1)), (332, (0, m_X6_ringFrom, 4)), (336, (0, m_X6_bestSet, 1)), (339, (0, m_X6_nextRound, 1)), (342, (0, m_X6_soonest, 0)), (345, (0, m_X6_leastOwed, 0)), (348, (0, m_X6_longestRing, 0)), (351, (0, m_X6_ends, 0)), (354, (0, m_X6_keeper, 0)), (357, (1, m_X6_lowest, 3)), (363, (0, m_X6_firstOther, 2)), (366, (1, m_X6_isSheet, 1)), (369, (0, m_X6_likeSet, 2)), (374, (0, m_X6_sheet, 3)), (378, (0, m_X6_endsDrawn, 1)), (396, (0, m_X6_dancer, 2)), (399, (1, m_X6_over, 1))]
def lnk_7 : List (Nat × LK) := [(9, (2, m_X5_init, 0)), (12, (2, m_X6_init, 0)), (13, (0, m_X5_set, 3)), (17, (0, m_X6_set, 3)), (18, (0, m_X5_dancer, 2)), (22, (0, m_X6_dancer, 2)), (23, (0, m_X5_told, 2)), (26, (0, m_X6_told, 2)), (27, (0, m_X5_asks, 3)), (30, (0, m_X6_asks, 3)), (31, (0, m_X5_feed, 1)), (35, (0, m_X6_feed, 1)), (36, (0, m_X5_text, 0)), (40, (0, m_X6_text, 0)), (41, (0, m_X5_force, 1)), (44, (0, m_X6_force, 1)), (45, (0, m_X5_dance, 2)), (48, (0, m_X6_dance, 2)), (49, (0, m_X5_round, 0)), (52, (0, m_X6_round, 0)), (53, (0, m_X5_night, 0)), (56, (0, m_X6_night, 0)), (57, (0, m_X5_strike, 1)), (60, (0, m_X6_strike, 1)), (61, (0, m_X5_run, 4)), (65, (0, m_X6_run, 4)), (66, (0, m_X5_best, 1)), (69, (0, m_X6_best, 1)), (70, (0, m_X5_share, 2)), (74, (0, m_X6_share, 2)), (75, (0, m_X5_tells, 4)), (78, (0, m_X6_tells, 4)), (79, (0, m_X5_film, 4)), (82, (0, m_X6_film, 4)), (83, (0, m_X5_drawn, 1)), (86, (0, m_X6_drawn, 1)), (87, (0, m_X5_chance, 4)), (91, (0, m_X6_chance, 4)), (92, (0, m_X5_image, 0)), (95, (0, m_X6_image, 0)), (96, (0, m_X5_back, 0)), (99, (0, m_X6_back, 0)), (100, (0, m_X5_count, 1)), (103, (0, m_X6_count, 1)), (104, (0, m_X5_sheet, 3)), (107, (0, m_X6_sheet, 3)), (108, (0, m_X5_cell, 3)), (111, (0, m_X6_cell, 3)), (112, (0, m_X5_copy, 5)), (116, (0, m_X6_copy, 5)), (117, (0, m_X5_room, 4)), (120, (0, m_X6_room, 4)), (121, (0, m_X5_taken, 2)), (124, (0, m_X6_taken, 2))]
def lnkT : List (List (Nat × LK)) := [lnk_0, lnk_1, lnk_2, lnk_3, lnk_4, lnk_5, lnk_6, lnk_7]
def lnk (own idx : Nat) : Option LK := match nth lnkT own with
  | none => none
  | some l => lkp l idx
/-- a field: its class, its slot, its type (0 int, 1 long, 2 a reference, 3 boolean), whether it is final -/
def fld_0 : List (Nat × (Nat × Nat × Nat × Bool)) := [(9, (0, 5, 2, true)), (15, (0, 6, 2, true)), (18, (0, 7, 2, true)), (21, (0, 8, 2, true)), (27, (0, 11, 2, true)), (30, (0, 12, 2, true)), (33, (0, 0, 2, true)), (37, (0, 1, 0, false)), (41, (0, 2, 0, false)), (44, (0, 3, 0, false)), (47, (0, 4, 0, false)), (60, (2, 2, 2, true)), (104, (0, 9, 0, false)), (128, (0, 10, 0, false)), (141, (3, 1, 0, false)), (146, (3, 2, 2, true))]
def fld_1 : List (Nat × (Nat × Nat × Nat × Bool)) := [(9, (1, 0, 2, true)), (15, (1, 2, 2, true)), (18, (1, 4, 2, true)), (21, (1, 1, 0, false)), (25, (1, 3, 0, false)), (28, (1, 5, 0, false)), (31, (1, 9, 0, false)), (45, (1, 6, 0, false)), (88, (1, 7, 0, false)), (91, (1, 8, 0, false))]
def fld_2 : List (Nat × (Nat × Nat × Nat × Bool)) := [(11, (2, 0, 2, true)), (17, (2, 2, 2, true)), (21, (2, 3, 2, true)), (27, (2, 1, 0, false)), (31, (4, 1, 2, true)), (34, (4, 0, 2, true))]
def fld_3 : List (Nat × (Nat × Nat × Nat × Bool)) := [(9, (3, 0, 0, false)), (15, (3, 2, 2, true)), (19, (3, 1, 0, false))]
def fld_4 : List (Nat × (Nat × Nat × Nat × Bool)) := [(7, (4, 0, 2, true)), (13, (4, 1, 2, true))]
def fld_5 : List (Nat × (Nat × Nat × Nat × Bool)) := [(10, (5, 0, 2, true)), (21, (5, 1, 2, true)), (25, (5, 2, 2, true)), (28, (5, 3, 2, true)), (35, (5, 4, 2, true)), (42, (5, 5, 2, true)), (46, (5, 7, 2, true)), (57, (0, 2, 0, false)), (61, (0, 3, 0, false)), (64, (0, 6, 2, true)), (67, (0, 7, 2, true)), (70, (0, 8, 2, true)), (77, (0, 1, 0, false)), (87, (0, 5, 2, true)), (118, (1, 1, 0, false)), (121, (2, 1, 0, false)), (128, (1, 8, 0, false)), (135, (0, 4, 0, false)), (206, (0, 9, 0, false)), (228, (3, 0, 0, false)), (231, (3, 1, 0, false)), (270, (5, 6, 3, false)), (280, (3, 2, 2, true))]
def fld_6 : List (Nat × (Nat × Nat × Nat × Bool)) := [(13, (6, 1, 2, true)), (17, (6, 2, 2, true)), (20, (6, 5, 2, true)), (23, (6, 9, 2, true)), (26, (6, 10, 2, true)), (29, (6, 11, 2, true)), (32, (6, 13, 2, true)), (35, (6, 30, 2, true)), (38, (6, 31, 2, true)), (41, (6, 32, 2, true)), (44, (6, 33, 2, true)), (47, (6, 34, 2, true)), (50, (6, 35, 2, true)), (53, (6, 36, 2, true)), (56, (6, 37, 0, false)), (59, (6, 41, 2, true)), (63, (6, 42, 2, true)), (66, (6, 43, 2, true)), (69, (6, 44, 2, true)), (80, (6, 3, 0, false)), (83, (6, 12, 0, false)), (114, (6, 7, 0, false)), (117, (6, 8, 0, false)), (123, (6, 4, 0, false)), (146, (6, 6, 0, false)), (149, (6, 21, 0, false)), (152, (6, 20, 0, false)), (155, (6, 22, 0, false)), (161, (6, 24, 0, false)), (164, (6, 23, 0, false)), (175, (6, 25, 1, false)), (181, (6, 27, 3, false)), (185, (6, 28, 0, false)), (191, (6, 26, 0, false)), (204, (6, 14, 0, false)), (207, (6, 15, 0, false)), (210, (6, 16, 0, false)), (213, (6, 17, 0, false)), (216, (6, 18, 0, false)), (219, (6, 19, 0, false)), (290, (6, 29, 0, false)), (383, (6, 38, 0, false)), (386, (6, 39, 0, false)), (389, (6, 40, 0, false))]
def fld_7 : List (Nat × (Nat × Nat × Nat × Bool)) := []
def fldT : List (List (Nat × (Nat × Nat × Nat × Bool))) := [fld_0, fld_1, fld_2, fld_3, fld_4, fld_5, fld_6, fld_7]
def fld (own idx : Nat) : Option (Nat × Nat × Nat × Bool) := match nth fldT own with
  | none => none
  | some l => lkp l idx
/-- the static arrays, by their parts -/
def sflT : List (List (Nat × Nat)) := [[(24, 61), (107, 62), (131, 63)], [], [], [], [], [(50, 64), (215, 63), (292, 65)], [], []]
def sfl (own idx : Nat) : Option Nat := match nth sflT own with
  | none => none
  | some l => lkp l idx
/-- the classes that are named (8: int[]) -/
def clkT : List (List (Nat × Nat)) := [[], [(54, 4), (57, 8)], [(9, 4)], [], [], [(7, 2), (16, 0), (32, 1), (39, 3)], [], [(7, 5), (10, 6)]]
def clk (own idx : Nat) : Option Nat := match nth clkT own with
  | none => none
  | some l => lkp l idx
def lckT : List (List (Nat × Int64)) := [[], [], [], [], [], [(200, (-4611686018427387904))], [(97, 4), (130, 8), (167, 97), (169, 122), (171, 48), (173, 57), (179, 10), (242, 43), (250, 60), (126, 5), (128, 9), (275, 2), (144, 255), (300, 40), (361, (-4611686018427387904)), (392, 3), (372, 30), (394, (-1)), (381, 61)], []]
def lck (own idx : Nat) : Option Int64 := match nth lckT own with
  | none => none
  | some l => lkp l idx
def ickT : List (List (Nat × Int32)) := [[(120, 1103515245)], [], [], [], [], [], [(296, 54321), (331, 99999), (377, 1103515245)], []]
def ick (own idx : Nat) : Option Int32 := match nth ickT own with
  | none => none
  | some l => lkp l idx
def stk (own idx : Nat) : Option Nat := match nth ([[], [(106, 0), (114, 1), (120, 2), (122, 3), (124, 4), (126, 5), (128, 6), (130, 7), (132, 8), (134, 9), (135, 10), (137, 11), (139, 12)], [], [], [], [], [], []] : List (List (Nat × Nat))) own with
  | none => none
  | some l => lkp l idx
def strT : List (List Int32) := [[40, 41, 59, 43, 45, 42, 60, 61], [112, 97, 121, 115], [119, 105, 108, 108, 115], [98, 114, 101, 97, 116, 104], [111, 114], [97, 110, 100], [110, 111, 116], [100, 101, 98, 116], [111, 119, 101, 100], [110, 117, 109, 98, 101, 114], [114, 111, 117, 110, 100], [100, 111, 110, 101], [110, 105, 103, 104, 116]]
/-- the signs of the text constant g -/
def strG (g : Nat) : List Int32 := match nth strT g with
  | none => []
  | some l => l
theorem nth_get {α : Type} : ∀ (l : List α) (n : Nat), nth l n = l[n]?
  | [], n => by simp [nth]
  | a :: l, 0 => by simp [nth]
  | a :: l, n + 1 => by simp [nth, nth_get l n]
/-- how many slots an object has -/
def nFl (ci : Nat) : Nat := match nth vwCl ci with
  | none => 0
  | some q => q.2.2
/-- the type of a slot: 0 int, 1 long, 2 a reference, 3 boolean -/
def tcd (ty : FieldType) : Nat := match ty with
  | .int => 0
  | .long => 1
  | .boolean => 3
  | .object _ => 2
  | .array _ => 2
  | _ => 9
def ftT : List (Nat → FieldType) := [tyX0, tyX1, tyX2, tyX3, tyX4, tyX5, tyX6]
def fty (ci k : Nat) : Nat := match nth ftT ci with
  | none => 0
  | some f => tcd (f k)
def own8 (n : Nat) : String := match n with
  | 0 => RX0 | 1 => RX1 | 2 => RX2 | 3 => RX3 | 4 => RX4 | 5 => RX5 | 6 => RX6 | _ => RL
def stN (j : Nat) : String := match j with
  | 61 => "LESSER" | 62 => "GREATER" | 63 => "SETS" | 64 => "GREATEST" | _ => "UNDER"
end
section
/-! THE TABLES' WORDS behind every link -/
theorem gi_r {big : List Cond} (ws : List Cond) (ps : List Nat) (hp : ws = ps.filterMap (fun i => big[i]?)) (h : ws.all goodWord = true) : GoodIn big ws := by
  intro w hw
  have h1 := List.all_eq_true.mp h w hw
  rw [hp] at hw
  obtain ⟨i, -, hi⟩ := List.mem_filterMap.mp hw
  have hm : w ∈ big := by first | exact List.mem_of_getElem? hi | exact List.getElem?_mem hi
  exact ⟨hm, good_of_word h1⟩
def wC (Z : MT) : Cond := .code Z.2.1 Z.2.2.1 Z.2.2.2.1 Z.2.2.2.2
def lwords (own idx : Nat) (e : LK) : List Cond := match e.1 with
  | 0 => [.methodLink (own8 own) idx e.2.1.2.1, .instanceMethod e.2.1.2.1, .selects e.2.1.2.1.cls e.2.1.2.1 e.2.1.2.1, .initialized e.2.1.2.1.cls, wC e.2.1]
  | 1 => [.methodLink (own8 own) idx e.2.1.2.1, .static e.2.1.2.1, .initialized e.2.1.2.1.cls, wC e.2.1]
  | 2 => [.methodLink (own8 own) idx e.2.1.2.1, .instanceMethod e.2.1.2.1, .initialized e.2.1.2.1.cls, wC e.2.1]
  | 3 => [.methodLink (own8 own) idx objectInit, .instanceMethod objectInit, .code objectInit ⟨#[0xb1]⟩ 1 none]
  | 4 => [.methodLink (own8 own) idx Lib.Math.min.name, .static Lib.Math.min.name, .initialized "java/lang/Math", .code Lib.Math.min.name Lib.Math.min.code 2 (some .int)]
  | 5 => [.methodLink (own8 own) idx Lib.Math.max.name, .static Lib.Math.max.name, .initialized "java/lang/Math", .code Lib.Math.max.name Lib.Math.max.code 2 (some .int)]
  | 6 => [.methodLink (own8 own) idx arraycopyName, .native arraycopyName, .static arraycopyName, .initialized "java/lang/System"]
  | 7 => [.methodLink (own8 own) idx ⟨"[I", "clone", "()Ljava/lang/Object;"⟩, .sameMethod "[I" "java/lang/Object" "clone" "()Ljava/lang/Object;", .native ⟨"java/lang/Object", "clone", "()Ljava/lang/Object;"⟩, .instanceMethod ⟨"java/lang/Object", "clone", "()Ljava/lang/Object;"⟩, .selects "[I" ⟨"[I", "clone", "()Ljava/lang/Object;"⟩ ⟨"java/lang/Object", "clone", "()Ljava/lang/Object;"⟩]
  | 11 => [.static e.2.1.2.1, .initialized e.2.1.2.1.cls, wC e.2.1]
  | 12 => [.instanceMethod e.2.1.2.1, .initialized e.2.1.2.1.cls, wC e.2.1]
  | _ => []
def enum {α : Type} : List α → Nat → List (Nat × α)
  | [], _ => []
  | a :: l, n => (n, a) :: enum l (n + 1)
theorem enum_nth {α : Type} : ∀ (l : List α) (n i : Nat) (a : α), nth l i = some a → (n + i, a) ∈ enum l n
  | [], _, _, _, h => by simp [nth] at h
  | b :: l, n, 0, a, h => by
    simp only [nth, Option.some.injEq] at h
    subst h
    exact List.mem_cons_self
  | b :: l, n, i + 1, a, h => by
    have h1 := enum_nth l (n + 1) i a h
    have e : n + 1 + i = n + (i + 1) := by omega
    rw [e] at h1
    exact List.mem_cons_of_mem _ h1
theorem lkp_mem {α : Type} : ∀ (l : List (Nat × α)) (i : Nat) (a : α), lkp l i = some a → (i, a) ∈ l
  | [], _, _, h => by simp [lkp] at h
  | b :: l, i, a, h => by
    simp only [lkp] at h
    by_cases hb : Nat.beq b.1 i = true
    · rw [hb] at h
      simp only [cond_true, Option.some.injEq] at h
      have := Nat.eq_of_beq_eq_true hb
      subst this
      subst h
      exact List.mem_cons_self
    · have hb : Nat.beq b.1 i = false := Bool.eq_false_iff.mpr hb
      rw [hb] at h
      exact List.mem_cons_of_mem _ (lkp_mem l i a h)
/-- all that a table of links says -/
def allT {α : Type} (T : List (List (Nat × α))) (f : Nat → Nat → α → List Cond) : List Cond := (enum T 0).flatMap fun q => q.2.flatMap fun e => f q.1 e.1 e.2
theorem allT_in {α : Type} {T : List (List (Nat × α))} {f : Nat → Nat → α → List Cond} {own idx : Nat} {l : List (Nat × α)} {e : α} (h1 : nth T own = some l) (h2 : lkp l idx = some e) {w : Cond} (hw : w ∈ f own idx e) : w ∈ allT T f := by
  refine List.mem_flatMap.mpr ⟨(own, l), ?_, List.mem_flatMap.mpr ⟨(idx, e), lkp_mem l idx e h2, hw⟩⟩
  have := enum_nth T 0 own l h1
  simpa using this
theorem lw_0_3 : GoodIn lw_tbl (lwords 0 3 (3, m_none, 0)) := gi_r _ [149, 104, 105] (by decide +kernel) (by decide +kernel)
theorem lw_0_50 : GoodIn lw_tbl (lwords 0 50 (6, m_none, 5)) := gi_r _ [645, 566, 565, 97] (by decide +kernel) (by decide +kernel)
theorem lw_0_56 : GoodIn lw_tbl (lwords 0 56 (0, m_X0_owes, 1)) := gi_r _ [650, 330, 331, 87, 332] (by decide +kernel) (by decide +kernel)
theorem lw_0_65 : GoodIn lw_tbl (lwords 0 65 (0, m_X0_owedTo, 1)) := gi_r _ [318, 319, 320, 87, 321] (by decide +kernel) (by decide +kernel)
theorem lw_0_68 : GoodIn lw_tbl (lwords 0 68 (0, m_X2_value, 2)) := gi_r _ [322, 323, 324, 85, 325] (by decide +kernel) (by decide +kernel)
theorem lw_0_75 : GoodIn lw_tbl (lwords 0 75 (0, m_X0_value, 3)) := gi_r _ [314, 316, 3, 87, 317] (by decide +kernel) (by decide +kernel)
theorem lw_0_78 : GoodIn lw_tbl (lwords 0 78 (0, m_X0_owing, 2)) := gi_r _ [359, 348, 349, 87, 350] (by decide +kernel) (by decide +kernel)
theorem lw_0_81 : GoodIn lw_tbl (lwords 0 81 (0, m_X0_will, 2)) := gi_r _ [364, 356, 357, 87, 358] (by decide +kernel) (by decide +kernel)
theorem lw_0_85 : GoodIn lw_tbl (lwords 0 85 (0, m_X0_breath, 1)) := gi_r _ [365, 311, 312, 87, 313] (by decide +kernel) (by decide +kernel)
theorem lw_0_88 : GoodIn lw_tbl (lwords 0 88 (0, m_X0_pays, 2)) := gi_r _ [593, 352, 353, 87, 354] (by decide +kernel) (by decide +kernel)
theorem lw_0_91 : GoodIn lw_tbl (lwords 0 91 (0, m_X0_settle, 4)) := gi_r _ [594, 596, 18, 87, 597] (by decide +kernel) (by decide +kernel)
theorem lw_0_95 : GoodIn lw_tbl (lwords 0 95 (0, m_X0_lessen, 3)) := gi_r _ [598, 599, 600, 87, 601] (by decide +kernel) (by decide +kernel)
theorem lw_0_99 : GoodIn lw_tbl (lwords 0 99 (4, m_none, 2)) := gi_r _ [602, 484, 95, 485] (by decide +kernel) (by decide +kernel)
theorem lw_0_110 : GoodIn lw_tbl (lwords 0 110 (0, m_X0_may, 2)) := gi_r _ [613, 361, 362, 87, 363] (by decide +kernel) (by decide +kernel)
theorem lw_0_113 : GoodIn lw_tbl (lwords 0 113 (0, m_X0_step, 2)) := gi_r _ [614, 590, 591, 87, 592] (by decide +kernel) (by decide +kernel)
theorem lw_0_116 : GoodIn lw_tbl (lwords 0 116 (0, m_X0_danceRound, 0)) := gi_r _ [717, 608, 609, 87, 610] (by decide +kernel) (by decide +kernel)
theorem lw_0_121 : GoodIn lw_tbl (lwords 0 121 (5, m_none, 2)) := gi_r _ [694, 481, 95, 482] (by decide +kernel) (by decide +kernel)
theorem lw_0_124 : GoodIn lw_tbl (lwords 0 124 (0, m_X0_longest, 4)) := gi_r _ [709, 711, 24, 87, 712] (by decide +kernel) (by decide +kernel)
theorem lw_0_134 : GoodIn lw_tbl (lwords 0 134 (0, m_X0_mayAll, 1)) := gi_r _ [669, 670, 671, 87, 672] (by decide +kernel) (by decide +kernel)
theorem lw_0_138 : GoodIn lw_tbl (lwords 0 138 (0, m_X0_paidBy, 1)) := gi_r _ [673, 674, 675, 87, 676] (by decide +kernel) (by decide +kernel)
theorem lw_0_149 : GoodIn lw_tbl (lwords 0 149 (0, m_X0_firstOtherwise, 2)) := gi_r _ [749, 738, 739, 87, 740] (by decide +kernel) (by decide +kernel)
theorem lw_0_72 : GoodIn lw_tbl (lwords 0 72 (11, m_X5_within, 2)) := gi_r _ [327, 84, 328] (by decide +kernel) (by decide +kernel)
theorem lwA_0 : ∀ q ∈ lnk_0, GoodIn lw_tbl (lwords 0 q.1 q.2) := List.forall_mem_cons.mpr ⟨lw_0_3, List.forall_mem_cons.mpr ⟨lw_0_50, List.forall_mem_cons.mpr ⟨lw_0_56, List.forall_mem_cons.mpr ⟨lw_0_65, List.forall_mem_cons.mpr ⟨lw_0_68, List.forall_mem_cons.mpr ⟨lw_0_75, List.forall_mem_cons.mpr ⟨lw_0_78, List.forall_mem_cons.mpr ⟨lw_0_81, List.forall_mem_cons.mpr ⟨lw_0_85, List.forall_mem_cons.mpr ⟨lw_0_88, List.forall_mem_cons.mpr ⟨lw_0_91, List.forall_mem_cons.mpr ⟨lw_0_95, List.forall_mem_cons.mpr ⟨lw_0_99, List.forall_mem_cons.mpr ⟨lw_0_110, List.forall_mem_cons.mpr ⟨lw_0_113, List.forall_mem_cons.mpr ⟨lw_0_116, List.forall_mem_cons.mpr ⟨lw_0_121, List.forall_mem_cons.mpr ⟨lw_0_124, List.forall_mem_cons.mpr ⟨lw_0_134, List.forall_mem_cons.mpr ⟨lw_0_138, List.forall_mem_cons.mpr ⟨lw_0_149, List.forall_mem_cons.mpr ⟨lw_0_72, fun _ h => absurd h List.not_mem_nil⟩⟩⟩⟩⟩⟩⟩⟩⟩⟩⟩⟩⟩⟩⟩⟩⟩⟩⟩⟩⟩⟩
theorem lw_1_3 : GoodIn lw_tbl (lwords 1 3 (3, m_none, 0)) := gi_r _ [207, 104, 105] (by decide +kernel) (by decide +kernel)
theorem lw_1_34 : GoodIn lw_tbl (lwords 1 34 (0, m_X1_next, 0)) := gi_r _ [382, 384, 4, 88, 385] (by decide +kernel) (by decide +kernel)
theorem lw_1_37 : GoodIn lw_tbl (lwords 1 37 (0, m_X1_pass, 1)) := gi_r _ [524, 526, 8, 88, 527] (by decide +kernel) (by decide +kernel)
theorem lw_1_41 : GoodIn lw_tbl (lwords 1 41 (0, m_X1_either, 0)) := gi_r _ [528, 530, 9, 88, 531] (by decide +kernel) (by decide +kernel)
theorem lw_1_48 : GoodIn lw_tbl (lwords 1 48 (6, m_none, 5)) := gi_r _ [564, 566, 565, 97] (by decide +kernel) (by decide +kernel)
theorem lw_1_56 : GoodIn lw_tbl (lwords 1 56 (7, m_none, 0)) := gi_r _ [568, 569, 570, 571, 572] (by decide +kernel) (by decide +kernel)
theorem lw_1_61 : GoodIn lw_tbl (lwords 1 61 (2, m_X4_init, 2)) := gi_r _ [575, 116, 86, 117] (by decide +kernel) (by decide +kernel)
theorem lw_1_64 : GoodIn lw_tbl (lwords 1 64 (0, m_X1_both, 0)) := gi_r _ [532, 534, 10, 88, 535] (by decide +kernel) (by decide +kernel)
theorem lw_1_67 : GoodIn lw_tbl (lwords 1 67 (0, m_X1_put, 1)) := gi_r _ [556, 558, 16, 88, 559] (by decide +kernel) (by decide +kernel)
theorem lw_1_70 : GoodIn lw_tbl (lwords 1 70 (0, m_X1_denied, 0)) := gi_r _ [536, 538, 11, 88, 539] (by decide +kernel) (by decide +kernel)
theorem lw_1_73 : GoodIn lw_tbl (lwords 1 73 (0, m_X1_compared, 0)) := gi_r _ [540, 542, 12, 88, 543] (by decide +kernel) (by decide +kernel)
theorem lw_1_76 : GoodIn lw_tbl (lwords 1 76 (0, m_X1_opens, 0)) := gi_r _ [560, 562, 17, 88, 563] (by decide +kernel) (by decide +kernel)
theorem lw_1_79 : GoodIn lw_tbl (lwords 1 79 (0, m_X1_sum, 0)) := gi_r _ [544, 546, 13, 88, 547] (by decide +kernel) (by decide +kernel)
theorem lw_1_82 : GoodIn lw_tbl (lwords 1 82 (0, m_X1_term, 0)) := gi_r _ [548, 550, 14, 88, 551] (by decide +kernel) (by decide +kernel)
theorem lw_1_85 : GoodIn lw_tbl (lwords 1 85 (0, m_X1_one, 0)) := gi_r _ [552, 554, 15, 88, 555] (by decide +kernel) (by decide +kernel)
theorem lw_1_94 : GoodIn lw_tbl (lwords 1 94 (1, m_X1_isDigit, 1)) := gi_r _ [386, 387, 88, 388] (by decide +kernel) (by decide +kernel)
theorem lw_1_97 : GoodIn lw_tbl (lwords 1 97 (0, m_X1_nextNumber, 0)) := gi_r _ [389, 391, 5, 88, 392] (by decide +kernel) (by decide +kernel)
theorem lw_1_100 : GoodIn lw_tbl (lwords 1 100 (1, m_X1_isLetter, 1)) := gi_r _ [393, 394, 88, 395] (by decide +kernel) (by decide +kernel)
theorem lw_1_103 : GoodIn lw_tbl (lwords 1 103 (0, m_X1_nextWord, 0)) := gi_r _ [396, 398, 6, 88, 399] (by decide +kernel) (by decide +kernel)
theorem lw_1_108 : GoodIn lw_tbl (lwords 1 108 (10, m_none, 1)) := gi_r _ [] (by decide +kernel) (by decide +kernel)
theorem lw_1_116 : GoodIn lw_tbl (lwords 1 116 (0, m_X1_spells, 1)) := gi_r _ [401, 403, 7, 88, 404] (by decide +kernel) (by decide +kernel)
theorem lw_1_141 : GoodIn lw_tbl (lwords 1 141 (8, m_none, 0)) := gi_r _ [] (by decide +kernel) (by decide +kernel)
theorem lw_1_145 : GoodIn lw_tbl (lwords 1 145 (9, m_none, 1)) := gi_r _ [] (by decide +kernel) (by decide +kernel)
theorem lwA_1 : ∀ q ∈ lnk_1, GoodIn lw_tbl (lwords 1 q.1 q.2) := List.forall_mem_cons.mpr ⟨lw_1_3, List.forall_mem_cons.mpr ⟨lw_1_34, List.forall_mem_cons.mpr ⟨lw_1_37, List.forall_mem_cons.mpr ⟨lw_1_41, List.forall_mem_cons.mpr ⟨lw_1_48, List.forall_mem_cons.mpr ⟨lw_1_56, List.forall_mem_cons.mpr ⟨lw_1_61, List.forall_mem_cons.mpr ⟨lw_1_64, List.forall_mem_cons.mpr ⟨lw_1_67, List.forall_mem_cons.mpr ⟨lw_1_70, List.forall_mem_cons.mpr ⟨lw_1_73, List.forall_mem_cons.mpr ⟨lw_1_76, List.forall_mem_cons.mpr ⟨lw_1_79, List.forall_mem_cons.mpr ⟨lw_1_82, List.forall_mem_cons.mpr ⟨lw_1_85, List.forall_mem_cons.mpr ⟨lw_1_94, List.forall_mem_cons.mpr ⟨lw_1_97, List.forall_mem_cons.mpr ⟨lw_1_100, List.forall_mem_cons.mpr ⟨lw_1_103, List.forall_mem_cons.mpr ⟨lw_1_108, List.forall_mem_cons.mpr ⟨lw_1_116, List.forall_mem_cons.mpr ⟨lw_1_141, List.forall_mem_cons.mpr ⟨lw_1_145, fun _ h => absurd h List.not_mem_nil⟩⟩⟩⟩⟩⟩⟩⟩⟩⟩⟩⟩⟩⟩⟩⟩⟩⟩⟩⟩⟩⟩⟩
theorem lw_2_3 : GoodIn lw_tbl (lwords 2 3 (3, m_none, 0)) := gi_r _ [111, 104, 105] (by decide +kernel) (by decide +kernel)
theorem lw_2_24 : GoodIn lw_tbl (lwords 2 24 (2, m_X4_init, 2)) := gi_r _ [115, 116, 86, 117] (by decide +kernel) (by decide +kernel)
theorem lwA_2 : ∀ q ∈ lnk_2, GoodIn lw_tbl (lwords 2 q.1 q.2) := List.forall_mem_cons.mpr ⟨lw_2_3, List.forall_mem_cons.mpr ⟨lw_2_24, fun _ h => absurd h List.not_mem_nil⟩⟩
theorem lw_3_3 : GoodIn lw_tbl (lwords 3 3 (3, m_none, 0)) := gi_r _ [247, 104, 105] (by decide +kernel) (by decide +kernel)
theorem lwA_3 : ∀ q ∈ lnk_3, GoodIn lw_tbl (lwords 3 q.1 q.2) := List.forall_mem_cons.mpr ⟨lw_3_3, fun _ h => absurd h List.not_mem_nil⟩
theorem lw_4_1 : GoodIn lw_tbl (lwords 4 1 (3, m_none, 0)) := gi_r _ [118, 104, 105] (by decide +kernel) (by decide +kernel)
theorem lwA_4 : ∀ q ∈ lnk_4, GoodIn lw_tbl (lwords 4 q.1 q.2) := List.forall_mem_cons.mpr ⟨lw_4_1, fun _ h => absurd h List.not_mem_nil⟩
theorem lw_5_1 : GoodIn lw_tbl (lwords 5 1 (3, m_none, 0)) := gi_r _ [103, 104, 105] (by decide +kernel) (by decide +kernel)
theorem lw_5_9 : GoodIn lw_tbl (lwords 5 9 (2, m_X2_init, 0)) := gi_r _ [108, 109, 85, 110] (by decide +kernel) (by decide +kernel)
theorem lw_5_18 : GoodIn lw_tbl (lwords 5 18 (2, m_X0_init, 1)) := gi_r _ [146, 147, 87, 148] (by decide +kernel) (by decide +kernel)
theorem lw_5_53 : GoodIn lw_tbl (lwords 5 53 (0, m_X5_told, 2)) := gi_r _ [294, 295, 296, 84, 297] (by decide +kernel) (by decide +kernel)
theorem lw_5_73 : GoodIn lw_tbl (lwords 5 73 (0, m_X5_debtPlace, 1)) := gi_r _ [298, 300, 0, 84, 301] (by decide +kernel) (by decide +kernel)
theorem lw_5_80 : GoodIn lw_tbl (lwords 5 80 (0, m_X0_join, 2)) := gi_r _ [338, 339, 340, 87, 341] (by decide +kernel) (by decide +kernel)
theorem lw_5_83 : GoodIn lw_tbl (lwords 5 83 (0, m_X5_isDancer, 1)) := gi_r _ [306, 308, 2, 84, 309] (by decide +kernel) (by decide +kernel)
theorem lw_5_90 : GoodIn lw_tbl (lwords 5 90 (0, m_X0_breath, 1)) := gi_r _ [310, 311, 312, 87, 313] (by decide +kernel) (by decide +kernel)
theorem lw_5_93 : GoodIn lw_tbl (lwords 5 93 (0, m_X0_owes, 1)) := gi_r _ [329, 330, 331, 87, 332] (by decide +kernel) (by decide +kernel)
theorem lw_5_96 : GoodIn lw_tbl (lwords 5 96 (0, m_X0_owedTo, 1)) := gi_r _ [333, 319, 320, 87, 321] (by decide +kernel) (by decide +kernel)
theorem lw_5_99 : GoodIn lw_tbl (lwords 5 99 (0, m_X5_isTwo, 2)) := gi_r _ [302, 304, 1, 84, 305] (by decide +kernel) (by decide +kernel)
theorem lw_5_103 : GoodIn lw_tbl (lwords 5 103 (0, m_X0_owing, 2)) := gi_r _ [347, 348, 349, 87, 350] (by decide +kernel) (by decide +kernel)
theorem lw_5_106 : GoodIn lw_tbl (lwords 5 106 (0, m_X0_pays, 2)) := gi_r _ [351, 352, 353, 87, 354] (by decide +kernel) (by decide +kernel)
theorem lw_5_109 : GoodIn lw_tbl (lwords 5 109 (0, m_X0_will, 2)) := gi_r _ [355, 356, 357, 87, 358] (by decide +kernel) (by decide +kernel)
theorem lw_5_112 : GoodIn lw_tbl (lwords 5 112 (0, m_X0_may, 2)) := gi_r _ [360, 361, 362, 87, 363] (by decide +kernel) (by decide +kernel)
theorem lw_5_115 : GoodIn lw_tbl (lwords 5 115 (0, m_X1_hold, 1)) := gi_r _ [370, 371, 372, 88, 373] (by decide +kernel) (by decide +kernel)
theorem lw_5_124 : GoodIn lw_tbl (lwords 5 124 (0, m_X1_read, 0)) := gi_r _ [378, 379, 380, 88, 381] (by decide +kernel) (by decide +kernel)
theorem lw_5_131 : GoodIn lw_tbl (lwords 5 131 (0, m_X2_keep, 1)) := gi_r _ [576, 577, 578, 85, 579] (by decide +kernel) (by decide +kernel)
theorem lw_5_138 : GoodIn lw_tbl (lwords 5 138 (0, m_X0_step, 2)) := gi_r _ [589, 590, 591, 87, 592] (by decide +kernel) (by decide +kernel)
theorem lw_5_141 : GoodIn lw_tbl (lwords 5 141 (0, m_X0_danceRound, 0)) := gi_r _ [607, 608, 609, 87, 610] (by decide +kernel) (by decide +kernel)
theorem lw_5_145 : GoodIn lw_tbl (lwords 5 145 (0, m_X0_endNight, 0)) := gi_r _ [619, 620, 621, 87, 622] (by decide +kernel) (by decide +kernel)
theorem lw_5_148 : GoodIn lw_tbl (lwords 5 148 (0, m_X5_readRing, 1)) := gi_r _ [627, 629, 19, 84, 630] (by decide +kernel) (by decide +kernel)
theorem lw_5_151 : GoodIn lw_tbl (lwords 5 151 (4, m_none, 2)) := gi_r _ [631, 484, 95, 485] (by decide +kernel) (by decide +kernel)
theorem lw_5_156 : GoodIn lw_tbl (lwords 5 156 (0, m_X0_lessen, 3)) := gi_r _ [632, 599, 600, 87, 601] (by decide +kernel) (by decide +kernel)
theorem lw_5_160 : GoodIn lw_tbl (lwords 5 160 (0, m_X5_think, 0)) := gi_r _ [637, 639, 20, 84, 640] (by decide +kernel) (by decide +kernel)
theorem lw_5_164 : GoodIn lw_tbl (lwords 5 164 (0, m_X0_all, 0)) := gi_r _ [646, 647, 648, 87, 649] (by decide +kernel) (by decide +kernel)
theorem lw_5_167 : GoodIn lw_tbl (lwords 5 167 (0, m_X0_stillOwed, 0)) := gi_r _ [651, 652, 653, 87, 654] (by decide +kernel) (by decide +kernel)
theorem lw_5_170 : GoodIn lw_tbl (lwords 5 170 (0, m_X0_takeFrom, 1)) := gi_r _ [641, 642, 643, 87, 644] (by decide +kernel) (by decide +kernel)
theorem lw_5_174 : GoodIn lw_tbl (lwords 5 174 (0, m_X0_weigh, 0)) := gi_r _ [659, 660, 661, 87, 662] (by decide +kernel) (by decide +kernel)
theorem lw_5_177 : GoodIn lw_tbl (lwords 5 177 (0, m_X0_bestSet, 0)) := gi_r _ [663, 664, 665, 87, 666] (by decide +kernel) (by decide +kernel)
theorem lw_5_180 : GoodIn lw_tbl (lwords 5 180 (0, m_X0_paidBy, 1)) := gi_r _ [677, 674, 675, 87, 676] (by decide +kernel) (by decide +kernel)
theorem lw_5_183 : GoodIn lw_tbl (lwords 5 183 (0, m_X5_sitters, 0)) := gi_r _ [678, 680, 21, 84, 681] (by decide +kernel) (by decide +kernel)
theorem lw_5_186 : GoodIn lw_tbl (lwords 5 186 (0, m_X5_soonest, 0)) := gi_r _ [682, 684, 22, 84, 685] (by decide +kernel) (by decide +kernel)
theorem lw_5_189 : GoodIn lw_tbl (lwords 5 189 (0, m_X0_least, 0)) := gi_r _ [701, 702, 703, 87, 704] (by decide +kernel) (by decide +kernel)
theorem lw_5_192 : GoodIn lw_tbl (lwords 5 192 (0, m_X0_ring, 0)) := gi_r _ [705, 706, 707, 87, 708] (by decide +kernel) (by decide +kernel)
theorem lw_5_194 : GoodIn lw_tbl (lwords 5 194 (0, m_X0_ends, 0)) := gi_r _ [713, 714, 715, 87, 716] (by decide +kernel) (by decide +kernel)
theorem lw_5_197 : GoodIn lw_tbl (lwords 5 197 (0, m_X0_keeps, 0)) := gi_r _ [718, 719, 720, 87, 721] (by decide +kernel) (by decide +kernel)
theorem lw_5_202 : GoodIn lw_tbl (lwords 5 202 (1, m_X5_lowest, 3)) := gi_r _ [727, 728, 84, 729] (by decide +kernel) (by decide +kernel)
theorem lw_5_209 : GoodIn lw_tbl (lwords 5 209 (0, m_X5_clears, 2)) := gi_r _ [686, 688, 23, 84, 689] (by decide +kernel) (by decide +kernel)
theorem lw_5_212 : GoodIn lw_tbl (lwords 5 212 (0, m_X0_mostToMeet, 0)) := gi_r _ [690, 691, 692, 87, 693] (by decide +kernel) (by decide +kernel)
theorem lw_5_218 : GoodIn lw_tbl (lwords 5 218 (0, m_X0_mayAll, 1)) := gi_r _ [696, 670, 671, 87, 672] (by decide +kernel) (by decide +kernel)
theorem lw_5_221 : GoodIn lw_tbl (lwords 5 221 (0, m_X0_danceSet, 2)) := gi_r _ [697, 698, 699, 87, 700] (by decide +kernel) (by decide +kernel)
theorem lw_5_225 : GoodIn lw_tbl (lwords 5 225 (1, m_X5_isSheet, 1)) := gi_r _ [734, 735, 84, 736] (by decide +kernel) (by decide +kernel)
theorem lw_5_232 : GoodIn lw_tbl (lwords 5 232 (0, m_X0_firstOtherwise, 2)) := gi_r _ [737, 738, 739, 87, 740] (by decide +kernel) (by decide +kernel)
theorem lw_5_236 : GoodIn lw_tbl (lwords 5 236 (0, m_X5_kindsTold, 2)) := gi_r _ [741, 743, 25, 84, 744] (by decide +kernel) (by decide +kernel)
theorem lw_5_239 : GoodIn lw_tbl (lwords 5 239 (0, m_X5_numbersTold, 2)) := gi_r _ [750, 752, 26, 84, 753] (by decide +kernel) (by decide +kernel)
theorem lw_5_242 : GoodIn lw_tbl (lwords 5 242 (0, m_X5_roundsTold, 3)) := gi_r _ [754, 756, 27, 84, 757] (by decide +kernel) (by decide +kernel)
theorem lw_5_246 : GoodIn lw_tbl (lwords 5 246 (0, m_X5_donesTold, 3)) := gi_r _ [758, 760, 28, 84, 761] (by decide +kernel) (by decide +kernel)
theorem lw_5_249 : GoodIn lw_tbl (lwords 5 249 (0, m_X5_textsTold, 2)) := gi_r _ [762, 764, 29, 84, 765] (by decide +kernel) (by decide +kernel)
theorem lw_5_252 : GoodIn lw_tbl (lwords 5 252 (0, m_X5_dancersTold, 2)) := gi_r _ [766, 768, 30, 84, 769] (by decide +kernel) (by decide +kernel)
theorem lw_5_255 : GoodIn lw_tbl (lwords 5 255 (0, m_X0_paysAs, 2)) := gi_r _ [745, 746, 747, 87, 748] (by decide +kernel) (by decide +kernel)
theorem lw_5_259 : GoodIn lw_tbl (lwords 5 259 (0, m_X3_become, 2)) := gi_r _ [774, 775, 776, 89, 777] (by decide +kernel) (by decide +kernel)
theorem lw_5_263 : GoodIn lw_tbl (lwords 5 263 (0, m_X3_put, 2)) := gi_r _ [778, 779, 780, 89, 781] (by decide +kernel) (by decide +kernel)
theorem lw_5_266 : GoodIn lw_tbl (lwords 5 266 (0, m_X0_draw, 1)) := gi_r _ [786, 787, 788, 87, 789] (by decide +kernel) (by decide +kernel)
theorem lw_5_274 : GoodIn lw_tbl (lwords 5 274 (1, m_X5_isSort, 1)) := gi_r _ [811, 812, 84, 813] (by decide +kernel) (by decide +kernel)
theorem lw_5_277 : GoodIn lw_tbl (lwords 5 277 (0, m_X3_holds, 2)) := gi_r _ [818, 819, 820, 89, 821] (by decide +kernel) (by decide +kernel)
theorem lw_5_283 : GoodIn lw_tbl (lwords 5 283 (6, m_none, 5)) := gi_r _ [826, 566, 565, 97] (by decide +kernel) (by decide +kernel)
theorem lw_5_289 : GoodIn lw_tbl (lwords 5 289 (0, m_X5_dancer, 2)) := gi_r _ [831, 335, 336, 84, 337] (by decide +kernel) (by decide +kernel)
theorem lw_5_34 : GoodIn lw_tbl (lwords 5 34 (12, m_X1_init, 0)) := gi_r _ [205, 88, 206] (by decide +kernel) (by decide +kernel)
theorem lw_5_41 : GoodIn lw_tbl (lwords 5 41 (12, m_X3_init, 0)) := gi_r _ [245, 89, 246] (by decide +kernel) (by decide +kernel)
theorem lwA_5 : ∀ q ∈ lnk_5, GoodIn lw_tbl (lwords 5 q.1 q.2) := List.forall_mem_cons.mpr ⟨lw_5_1, List.forall_mem_cons.mpr ⟨lw_5_9, List.forall_mem_cons.mpr ⟨lw_5_18, List.forall_mem_cons.mpr ⟨lw_5_53, List.forall_mem_cons.mpr ⟨lw_5_73, List.forall_mem_cons.mpr ⟨lw_5_80, List.forall_mem_cons.mpr ⟨lw_5_83, List.forall_mem_cons.mpr ⟨lw_5_90, List.forall_mem_cons.mpr ⟨lw_5_93, List.forall_mem_cons.mpr ⟨lw_5_96, List.forall_mem_cons.mpr ⟨lw_5_99, List.forall_mem_cons.mpr ⟨lw_5_103, List.forall_mem_cons.mpr ⟨lw_5_106, List.forall_mem_cons.mpr ⟨lw_5_109, List.forall_mem_cons.mpr ⟨lw_5_112, List.forall_mem_cons.mpr ⟨lw_5_115, List.forall_mem_cons.mpr ⟨lw_5_124, List.forall_mem_cons.mpr ⟨lw_5_131, List.forall_mem_cons.mpr ⟨lw_5_138, List.forall_mem_cons.mpr ⟨lw_5_141, List.forall_mem_cons.mpr ⟨lw_5_145, List.forall_mem_cons.mpr ⟨lw_5_148, List.forall_mem_cons.mpr ⟨lw_5_151, List.forall_mem_cons.mpr ⟨lw_5_156, List.forall_mem_cons.mpr ⟨lw_5_160, List.forall_mem_cons.mpr ⟨lw_5_164, List.forall_mem_cons.mpr ⟨lw_5_167, List.forall_mem_cons.mpr ⟨lw_5_170, List.forall_mem_cons.mpr ⟨lw_5_174, List.forall_mem_cons.mpr ⟨lw_5_177, List.forall_mem_cons.mpr ⟨lw_5_180, List.forall_mem_cons.mpr ⟨lw_5_183, List.forall_mem_cons.mpr ⟨lw_5_186, List.forall_mem_cons.mpr ⟨lw_5_189, List.forall_mem_cons.mpr ⟨lw_5_192, List.forall_mem_cons.mpr ⟨lw_5_194, List.forall_mem_cons.mpr ⟨lw_5_197, List.forall_mem_cons.mpr ⟨lw_5_202, List.forall_mem_cons.mpr ⟨lw_5_209, List.forall_mem_cons.mpr ⟨lw_5_212, List.forall_mem_cons.mpr ⟨lw_5_218, List.forall_mem_cons.mpr ⟨lw_5_221, List.forall_mem_cons.mpr ⟨lw_5_225, List.forall_mem_cons.mpr ⟨lw_5_232, List.forall_mem_cons.mpr ⟨lw_5_236, List.forall_mem_cons.mpr ⟨lw_5_239, List.forall_mem_cons.mpr ⟨lw_5_242, List.forall_mem_cons.mpr ⟨lw_5_246, List.forall_mem_cons.mpr ⟨lw_5_249, List.forall_mem_cons.mpr ⟨lw_5_252, List.forall_mem_cons.mpr ⟨lw_5_255, List.forall_mem_cons.mpr ⟨lw_5_259, List.forall_mem_cons.mpr ⟨lw_5_263, List.forall_mem_cons.mpr ⟨lw_5_266, List.forall_mem_cons.mpr ⟨lw_5_274, List.forall_mem_cons.mpr ⟨lw_5_277, List.forall_mem_cons.mpr ⟨lw_5_283, List.forall_mem_cons.mpr ⟨lw_5_289, List.forall_mem_cons.mpr ⟨lw_5_34, List.forall_mem_cons.mpr ⟨lw_5_41, fun _ h => absurd h List.not_mem_nil⟩⟩⟩⟩⟩⟩⟩⟩⟩⟩⟩⟩⟩⟩⟩⟩⟩⟩⟩⟩⟩⟩⟩⟩⟩⟩⟩⟩⟩⟩⟩⟩⟩⟩⟩⟩⟩⟩⟩⟩⟩⟩⟩⟩⟩⟩⟩⟩⟩⟩⟩⟩⟩⟩⟩⟩⟩⟩⟩⟩
theorem lw_6_7 : GoodIn lw_tbl (lwords 6 7 (3, m_none, 0)) := gi_r _ [843, 104, 105] (by decide +kernel) (by decide +kernel)
theorem lw_6_72 : GoodIn lw_tbl (lwords 6 72 (1, m_X6_isApart, 1)) := gi_r _ [844, 845, 90, 846] (by decide +kernel) (by decide +kernel)
theorem lw_6_76 : GoodIn lw_tbl (lwords 6 76 (0, m_X6_spell, 9)) := gi_r _ [850, 852, 31, 90, 853] (by decide +kernel) (by decide +kernel)
theorem lw_6_86 : GoodIn lw_tbl (lwords 6 86 (1, m_X6_in, 3)) := gi_r _ [995, 996, 90, 997] (by decide +kernel) (by decide +kernel)
theorem lw_6_90 : GoodIn lw_tbl (lwords 6 90 (0, m_X6_isOne, 1)) := gi_r _ [1006, 1008, 34, 90, 1009] (by decide +kernel) (by decide +kernel)
theorem lw_6_93 : GoodIn lw_tbl (lwords 6 93 (0, m_X6_areTwo, 2)) := gi_r _ [1002, 1004, 33, 90, 1005] (by decide +kernel) (by decide +kernel)
theorem lw_6_99 : GoodIn lw_tbl (lwords 6 99 (0, m_X6_isOf, 2)) := gi_r _ [998, 1000, 32, 90, 1001] (by decide +kernel) (by decide +kernel)
theorem lw_6_102 : GoodIn lw_tbl (lwords 6 102 (1, m_X6_mostOf, 1)) := gi_r _ [1010, 1011, 90, 1012] (by decide +kernel) (by decide +kernel)
theorem lw_6_106 : GoodIn lw_tbl (lwords 6 106 (0, m_X6_told, 2)) := gi_r _ [1013, 1014, 1015, 90, 1016] (by decide +kernel) (by decide +kernel)
theorem lw_6_110 : GoodIn lw_tbl (lwords 6 110 (0, m_X6_lays, 3)) := gi_r _ [1115, 1117, 56, 90, 1118] (by decide +kernel) (by decide +kernel)
theorem lw_6_120 : GoodIn lw_tbl (lwords 6 120 (1, m_X6_placeOf, 1)) := gi_r _ [1018, 1019, 90, 1020] (by decide +kernel) (by decide +kernel)
theorem lw_6_132 : GoodIn lw_tbl (lwords 6 132 (0, m_X6_breathOf, 1)) := gi_r _ [1021, 1023, 35, 90, 1024] (by decide +kernel) (by decide +kernel)
theorem lw_6_135 : GoodIn lw_tbl (lwords 6 135 (0, m_X6_owesOf, 1)) := gi_r _ [1111, 1113, 55, 90, 1114] (by decide +kernel) (by decide +kernel)
theorem lw_6_138 : GoodIn lw_tbl (lwords 6 138 (0, m_X6_owedTo, 1)) := gi_r _ [1029, 1031, 37, 90, 1032] (by decide +kernel) (by decide +kernel)
theorem lw_6_141 : GoodIn lw_tbl (lwords 6 141 (0, m_X6_debtOf, 2)) := gi_r _ [1033, 1035, 38, 90, 1036] (by decide +kernel) (by decide +kernel)
theorem lw_6_158 : GoodIn lw_tbl (lwords 6 158 (0, m_X6_byteAt, 1)) := gi_r _ [1045, 1047, 41, 90, 1048] (by decide +kernel) (by decide +kernel)
theorem lw_6_188 : GoodIn lw_tbl (lwords 6 188 (0, m_X6_isLetter, 2)) := gi_r _ [1058, 1060, 43, 90, 1061] (by decide +kernel) (by decide +kernel)
theorem lw_6_194 : GoodIn lw_tbl (lwords 6 194 (0, m_X6_fail, 0)) := gi_r _ [1066, 1068, 45, 90, 1069] (by decide +kernel) (by decide +kernel)
theorem lw_6_197 : GoodIn lw_tbl (lwords 6 197 (0, m_X6_next, 0)) := gi_r _ [1041, 1043, 40, 90, 1044] (by decide +kernel) (by decide +kernel)
theorem lw_6_200 : GoodIn lw_tbl (lwords 6 200 (0, m_X6_isWord, 8)) := gi_r _ [1054, 1056, 42, 90, 1057] (by decide +kernel) (by decide +kernel)
theorem lw_6_222 : GoodIn lw_tbl (lwords 6 222 (0, m_X6_isSign, 1)) := gi_r _ [1098, 1100, 53, 90, 1101] (by decide +kernel) (by decide +kernel)
theorem lw_6_225 : GoodIn lw_tbl (lwords 6 225 (0, m_X6_opens, 0)) := gi_r _ [1082, 1084, 49, 90, 1085] (by decide +kernel) (by decide +kernel)
theorem lw_6_229 : GoodIn lw_tbl (lwords 6 229 (0, m_X6_atom, 0)) := gi_r _ [1094, 1096, 52, 90, 1097] (by decide +kernel) (by decide +kernel)
theorem lw_6_233 : GoodIn lw_tbl (lwords 6 233 (0, m_X6_either, 0)) := gi_r _ [1070, 1072, 46, 90, 1073] (by decide +kernel) (by decide +kernel)
theorem lw_6_236 : GoodIn lw_tbl (lwords 6 236 (0, m_X6_name, 0)) := gi_r _ [1102, 1104, 54, 90, 1105] (by decide +kernel) (by decide +kernel)
theorem lw_6_239 : GoodIn lw_tbl (lwords 6 239 (0, m_X6_term, 0)) := gi_r _ [1090, 1092, 51, 90, 1093] (by decide +kernel) (by decide +kernel)
theorem lw_6_244 : GoodIn lw_tbl (lwords 6 244 (0, m_X6_not, 0)) := gi_r _ [1078, 1080, 48, 90, 1081] (by decide +kernel) (by decide +kernel)
theorem lw_6_247 : GoodIn lw_tbl (lwords 6 247 (0, m_X6_added, 0)) := gi_r _ [1086, 1088, 50, 90, 1089] (by decide +kernel) (by decide +kernel)
theorem lw_6_252 : GoodIn lw_tbl (lwords 6 252 (0, m_X6_both, 0)) := gi_r _ [1074, 1076, 47, 90, 1077] (by decide +kernel) (by decide +kernel)
theorem lw_6_255 : GoodIn lw_tbl (lwords 6 255 (0, m_X6_part, 1)) := gi_r _ [1062, 1064, 44, 90, 1065] (by decide +kernel) (by decide +kernel)
theorem lw_6_259 : GoodIn lw_tbl (lwords 6 259 (0, m_X6_read, 2)) := gi_r _ [1037, 1039, 39, 90, 1040] (by decide +kernel) (by decide +kernel)
theorem lw_6_262 : GoodIn lw_tbl (lwords 6 262 (1, m_X6_within, 3)) := gi_r _ [1108, 1109, 90, 1110] (by decide +kernel) (by decide +kernel)
theorem lw_6_266 : GoodIn lw_tbl (lwords 6 266 (0, m_X6_says, 3)) := gi_r _ [1025, 1027, 36, 90, 1028] (by decide +kernel) (by decide +kernel)
theorem lw_6_269 : GoodIn lw_tbl (lwords 6 269 (0, m_X6_willOf, 2)) := gi_r _ [1148, 1150, 58, 90, 1151] (by decide +kernel) (by decide +kernel)
theorem lw_6_272 : GoodIn lw_tbl (lwords 6 272 (0, m_X6_hasBreath, 1)) := gi_r _ [1156, 1158, 60, 90, 1159] (by decide +kernel) (by decide +kernel)
theorem lw_6_277 : GoodIn lw_tbl (lwords 6 277 (0, m_X6_paysOf, 2)) := gi_r _ [1144, 1146, 57, 90, 1147] (by decide +kernel) (by decide +kernel)
theorem lw_6_280 : GoodIn lw_tbl (lwords 6 280 (0, m_X6_mayDance, 2)) := gi_r _ [1152, 1154, 59, 90, 1155] (by decide +kernel) (by decide +kernel)
theorem lw_6_283 : GoodIn lw_tbl (lwords 6 283 (0, m_X6_dances, 1)) := gi_r _ [1168, 1170, 62, 90, 1171] (by decide +kernel) (by decide +kernel)
theorem lw_6_287 : GoodIn lw_tbl (lwords 6 287 (0, m_X6_danceBoth, 2)) := gi_r _ [1164, 1166, 61, 90, 1167] (by decide +kernel) (by decide +kernel)
theorem lw_6_293 : GoodIn lw_tbl (lwords 6 293 (0, m_X6_passes, 0)) := gi_r _ [1176, 1178, 63, 90, 1179] (by decide +kernel) (by decide +kernel)
theorem lw_6_297 : GoodIn lw_tbl (lwords 6 297 (0, m_X6_ringOf, 1)) := gi_r _ [1188, 1190, 64, 90, 1191] (by decide +kernel) (by decide +kernel)
theorem lw_6_302 : GoodIn lw_tbl (lwords 6 302 (0, m_X6_laysAside, 0)) := gi_r _ [1198, 1200, 65, 90, 1201] (by decide +kernel) (by decide +kernel)
theorem lw_6_305 : GoodIn lw_tbl (lwords 6 305 (0, m_X6_owedAll, 0)) := gi_r _ [1202, 1204, 66, 90, 1205] (by decide +kernel) (by decide +kernel)
theorem lw_6_308 : GoodIn lw_tbl (lwords 6 308 (0, m_X6_owedSet, 0)) := gi_r _ [1206, 1208, 67, 90, 1209] (by decide +kernel) (by decide +kernel)
theorem lw_6_311 : GoodIn lw_tbl (lwords 6 311 (0, m_X6_laysBack, 0)) := gi_r _ [1210, 1212, 68, 90, 1213] (by decide +kernel) (by decide +kernel)
theorem lw_6_314 : GoodIn lw_tbl (lwords 6 314 (1, m_X6_both_, 1)) := gi_r _ [847, 848, 90, 849] (by decide +kernel) (by decide +kernel)
theorem lw_6_316 : GoodIn lw_tbl (lwords 6 316 (1, m_X6_greater, 1)) := gi_r _ [1226, 1227, 90, 1228] (by decide +kernel) (by decide +kernel)
theorem lw_6_319 : GoodIn lw_tbl (lwords 6 319 (1, m_X6_lesser, 1)) := gi_r _ [1229, 1230, 90, 1231] (by decide +kernel) (by decide +kernel)
theorem lw_6_322 : GoodIn lw_tbl (lwords 6 322 (0, m_X6_isSet, 1)) := gi_r _ [1222, 1224, 70, 90, 1225] (by decide +kernel) (by decide +kernel)
theorem lw_6_325 : GoodIn lw_tbl (lwords 6 325 (0, m_X6_dancesOf, 1)) := gi_r _ [1232, 1234, 71, 90, 1235] (by decide +kernel) (by decide +kernel)
theorem lw_6_328 : GoodIn lw_tbl (lwords 6 328 (0, m_X6_isPaidBy, 1)) := gi_r _ [1244, 1246, 74, 90, 1247] (by decide +kernel) (by decide +kernel)
theorem lw_6_332 : GoodIn lw_tbl (lwords 6 332 (0, m_X6_ringFrom, 4)) := gi_r _ [1257, 1259, 77, 90, 1260] (by decide +kernel) (by decide +kernel)
theorem lw_6_336 : GoodIn lw_tbl (lwords 6 336 (0, m_X6_bestSet, 1)) := gi_r _ [1218, 1220, 69, 90, 1221] (by decide +kernel) (by decide +kernel)
theorem lw_6_339 : GoodIn lw_tbl (lwords 6 339 (0, m_X6_nextRound, 1)) := gi_r _ [1236, 1238, 72, 90, 1239] (by decide +kernel) (by decide +kernel)
theorem lw_6_342 : GoodIn lw_tbl (lwords 6 342 (0, m_X6_soonest, 0)) := gi_r _ [1240, 1242, 73, 90, 1243] (by decide +kernel) (by decide +kernel)
theorem lw_6_345 : GoodIn lw_tbl (lwords 6 345 (0, m_X6_leastOwed, 0)) := gi_r _ [1248, 1250, 75, 90, 1251] (by decide +kernel) (by decide +kernel)
theorem lw_6_348 : GoodIn lw_tbl (lwords 6 348 (0, m_X6_longestRing, 0)) := gi_r _ [1253, 1255, 76, 90, 1256] (by decide +kernel) (by decide +kernel)
theorem lw_6_351 : GoodIn lw_tbl (lwords 6 351 (0, m_X6_ends, 0)) := gi_r _ [1261, 1263, 78, 90, 1264] (by decide +kernel) (by decide +kernel)
theorem lw_6_354 : GoodIn lw_tbl (lwords 6 354 (0, m_X6_keeper, 0)) := gi_r _ [1265, 1267, 79, 90, 1268] (by decide +kernel) (by decide +kernel)
theorem lw_6_357 : GoodIn lw_tbl (lwords 6 357 (1, m_X6_lowest, 3)) := gi_r _ [1273, 1274, 90, 1275] (by decide +kernel) (by decide +kernel)
theorem lw_6_363 : GoodIn lw_tbl (lwords 6 363 (0, m_X6_firstOther, 2)) := gi_r _ [1285, 1287, 80, 90, 1288] (by decide +kernel) (by decide +kernel)
theorem lw_6_366 : GoodIn lw_tbl (lwords 6 366 (1, m_X6_isSheet, 1)) := gi_r _ [1281, 1282, 90, 1283] (by decide +kernel) (by decide +kernel)
theorem lw_6_369 : GoodIn lw_tbl (lwords 6 369 (0, m_X6_likeSet, 2)) := gi_r _ [1289, 1291, 81, 90, 1292] (by decide +kernel) (by decide +kernel)
theorem lw_6_374 : GoodIn lw_tbl (lwords 6 374 (0, m_X6_sheet, 3)) := gi_r _ [1298, 1299, 1300, 90, 1301] (by decide +kernel) (by decide +kernel)
theorem lw_6_378 : GoodIn lw_tbl (lwords 6 378 (0, m_X6_endsDrawn, 1)) := gi_r _ [1307, 1309, 82, 90, 1310] (by decide +kernel) (by decide +kernel)
theorem lw_6_396 : GoodIn lw_tbl (lwords 6 396 (0, m_X6_dancer, 2)) := gi_r _ [1342, 1120, 1121, 90, 1122] (by decide +kernel) (by decide +kernel)
theorem lw_6_399 : GoodIn lw_tbl (lwords 6 399 (1, m_X6_over, 1)) := gi_r _ [1347, 1348, 90, 1349] (by decide +kernel) (by decide +kernel)
theorem lwA_6 : ∀ q ∈ lnk_6, GoodIn lw_tbl (lwords 6 q.1 q.2) := List.forall_mem_cons.mpr ⟨lw_6_7, List.forall_mem_cons.mpr ⟨lw_6_72, List.forall_mem_cons.mpr ⟨lw_6_76, List.forall_mem_cons.mpr ⟨lw_6_86, List.forall_mem_cons.mpr ⟨lw_6_90, List.forall_mem_cons.mpr ⟨lw_6_93, List.forall_mem_cons.mpr ⟨lw_6_99, List.forall_mem_cons.mpr ⟨lw_6_102, List.forall_mem_cons.mpr ⟨lw_6_106, List.forall_mem_cons.mpr ⟨lw_6_110, List.forall_mem_cons.mpr ⟨lw_6_120, List.forall_mem_cons.mpr ⟨lw_6_132, List.forall_mem_cons.mpr ⟨lw_6_135, List.forall_mem_cons.mpr ⟨lw_6_138, List.forall_mem_cons.mpr ⟨lw_6_141, List.forall_mem_cons.mpr ⟨lw_6_158, List.forall_mem_cons.mpr ⟨lw_6_188, List.forall_mem_cons.mpr ⟨lw_6_194, List.forall_mem_cons.mpr ⟨lw_6_197, List.forall_mem_cons.mpr ⟨lw_6_200, List.forall_mem_cons.mpr ⟨lw_6_222, List.forall_mem_cons.mpr ⟨lw_6_225, List.forall_mem_cons.mpr ⟨lw_6_229, List.forall_mem_cons.mpr ⟨lw_6_233, List.forall_mem_cons.mpr ⟨lw_6_236, List.forall_mem_cons.mpr ⟨lw_6_239, List.forall_mem_cons.mpr ⟨lw_6_244, List.forall_mem_cons.mpr ⟨lw_6_247, List.forall_mem_cons.mpr ⟨lw_6_252, List.forall_mem_cons.mpr ⟨lw_6_255, List.forall_mem_cons.mpr ⟨lw_6_259, List.forall_mem_cons.mpr ⟨lw_6_262, List.forall_mem_cons.mpr ⟨lw_6_266, List.forall_mem_cons.mpr ⟨lw_6_269, List.forall_mem_cons.mpr ⟨lw_6_272, List.forall_mem_cons.mpr ⟨lw_6_277, List.forall_mem_cons.mpr ⟨lw_6_280, List.forall_mem_cons.mpr ⟨lw_6_283, List.forall_mem_cons.mpr ⟨lw_6_287, List.forall_mem_cons.mpr ⟨lw_6_293, List.forall_mem_cons.mpr ⟨lw_6_297, List.forall_mem_cons.mpr ⟨lw_6_302, List.forall_mem_cons.mpr ⟨lw_6_305, List.forall_mem_cons.mpr ⟨lw_6_308, List.forall_mem_cons.mpr ⟨lw_6_311, List.forall_mem_cons.mpr ⟨lw_6_314, List.forall_mem_cons.mpr ⟨lw_6_316, List.forall_mem_cons.mpr ⟨lw_6_319, List.forall_mem_cons.mpr ⟨lw_6_322, List.forall_mem_cons.mpr ⟨lw_6_325, List.forall_mem_cons.mpr ⟨lw_6_328, List.forall_mem_cons.mpr ⟨lw_6_332, List.forall_mem_cons.mpr ⟨lw_6_336, List.forall_mem_cons.mpr ⟨lw_6_339, List.forall_mem_cons.mpr ⟨lw_6_342, List.forall_mem_cons.mpr ⟨lw_6_345, List.forall_mem_cons.mpr ⟨lw_6_348, List.forall_mem_cons.mpr ⟨lw_6_351, List.forall_mem_cons.mpr ⟨lw_6_354, List.forall_mem_cons.mpr ⟨lw_6_357, List.forall_mem_cons.mpr ⟨lw_6_363, List.forall_mem_cons.mpr ⟨lw_6_366, List.forall_mem_cons.mpr ⟨lw_6_369, List.forall_mem_cons.mpr ⟨lw_6_374, List.forall_mem_cons.mpr ⟨lw_6_378, List.forall_mem_cons.mpr ⟨lw_6_396, List.forall_mem_cons.mpr ⟨lw_6_399, fun _ h => absurd h List.not_mem_nil⟩⟩⟩⟩⟩⟩⟩⟩⟩⟩⟩⟩⟩⟩⟩⟩⟩⟩⟩⟩⟩⟩⟩⟩⟩⟩⟩⟩⟩⟩⟩⟩⟩⟩⟩⟩⟩⟩⟩⟩⟩⟩⟩⟩⟩⟩⟩⟩⟩⟩⟩⟩⟩⟩⟩⟩⟩⟩⟩⟩⟩⟩⟩⟩⟩⟩⟩
theorem lw_7_9 : GoodIn lw_tbl (lwords 7 9 (2, m_X5_init, 0)) := gi_r _ [100, 101, 84, 102] (by decide +kernel) (by decide +kernel)
theorem lw_7_12 : GoodIn lw_tbl (lwords 7 12 (2, m_X6_init, 0)) := gi_r _ [840, 841, 90, 842] (by decide +kernel) (by decide +kernel)
theorem lw_7_13 : GoodIn lw_tbl (lwords 7 13 (0, m_X5_set, 3)) := gi_r _ [288, 289, 290, 84, 291] (by decide +kernel) (by decide +kernel)
theorem lw_7_17 : GoodIn lw_tbl (lwords 7 17 (0, m_X6_set, 3)) := gi_r _ [990, 991, 992, 90, 993] (by decide +kernel) (by decide +kernel)
theorem lw_7_18 : GoodIn lw_tbl (lwords 7 18 (0, m_X5_dancer, 2)) := gi_r _ [334, 335, 336, 84, 337] (by decide +kernel) (by decide +kernel)
theorem lw_7_22 : GoodIn lw_tbl (lwords 7 22 (0, m_X6_dancer, 2)) := gi_r _ [1119, 1120, 1121, 90, 1122] (by decide +kernel) (by decide +kernel)
theorem lw_7_23 : GoodIn lw_tbl (lwords 7 23 (0, m_X5_told, 2)) := gi_r _ [342, 295, 296, 84, 297] (by decide +kernel) (by decide +kernel)
theorem lw_7_26 : GoodIn lw_tbl (lwords 7 26 (0, m_X6_told, 2)) := gi_r _ [1125, 1014, 1015, 90, 1016] (by decide +kernel) (by decide +kernel)
theorem lw_7_27 : GoodIn lw_tbl (lwords 7 27 (0, m_X5_asks, 3)) := gi_r _ [343, 344, 345, 84, 346] (by decide +kernel) (by decide +kernel)
theorem lw_7_30 : GoodIn lw_tbl (lwords 7 30 (0, m_X6_asks, 3)) := gi_r _ [1139, 1140, 1141, 90, 1142] (by decide +kernel) (by decide +kernel)
theorem lw_7_31 : GoodIn lw_tbl (lwords 7 31 (0, m_X5_feed, 1)) := gi_r _ [366, 367, 368, 84, 369] (by decide +kernel) (by decide +kernel)
theorem lw_7_35 : GoodIn lw_tbl (lwords 7 35 (0, m_X6_feed, 1)) := gi_r _ [1126, 1127, 1128, 90, 1129] (by decide +kernel) (by decide +kernel)
theorem lw_7_36 : GoodIn lw_tbl (lwords 7 36 (0, m_X5_text, 0)) := gi_r _ [374, 375, 376, 84, 377] (by decide +kernel) (by decide +kernel)
theorem lw_7_40 : GoodIn lw_tbl (lwords 7 40 (0, m_X6_text, 0)) := gi_r _ [1131, 1132, 1133, 90, 1134] (by decide +kernel) (by decide +kernel)
theorem lw_7_41 : GoodIn lw_tbl (lwords 7 41 (0, m_X5_force, 1)) := gi_r _ [581, 582, 583, 84, 584] (by decide +kernel) (by decide +kernel)
theorem lw_7_44 : GoodIn lw_tbl (lwords 7 44 (0, m_X6_force, 1)) := gi_r _ [1135, 1136, 1137, 90, 1138] (by decide +kernel) (by decide +kernel)
theorem lw_7_45 : GoodIn lw_tbl (lwords 7 45 (0, m_X5_dance, 2)) := gi_r _ [585, 586, 587, 84, 588] (by decide +kernel) (by decide +kernel)
theorem lw_7_48 : GoodIn lw_tbl (lwords 7 48 (0, m_X6_dance, 2)) := gi_r _ [1160, 1161, 1162, 90, 1163] (by decide +kernel) (by decide +kernel)
theorem lw_7_49 : GoodIn lw_tbl (lwords 7 49 (0, m_X5_round, 0)) := gi_r _ [603, 604, 605, 84, 606] (by decide +kernel) (by decide +kernel)
theorem lw_7_52 : GoodIn lw_tbl (lwords 7 52 (0, m_X6_round, 0)) := gi_r _ [1172, 1173, 1174, 90, 1175] (by decide +kernel) (by decide +kernel)
theorem lw_7_53 : GoodIn lw_tbl (lwords 7 53 (0, m_X5_night, 0)) := gi_r _ [615, 616, 617, 84, 618] (by decide +kernel) (by decide +kernel)
theorem lw_7_56 : GoodIn lw_tbl (lwords 7 56 (0, m_X6_night, 0)) := gi_r _ [1180, 1181, 1182, 90, 1183] (by decide +kernel) (by decide +kernel)
theorem lw_7_57 : GoodIn lw_tbl (lwords 7 57 (0, m_X5_strike, 1)) := gi_r _ [623, 624, 625, 84, 626] (by decide +kernel) (by decide +kernel)
theorem lw_7_60 : GoodIn lw_tbl (lwords 7 60 (0, m_X6_strike, 1)) := gi_r _ [1184, 1185, 1186, 90, 1187] (by decide +kernel) (by decide +kernel)
theorem lw_7_61 : GoodIn lw_tbl (lwords 7 61 (0, m_X5_run, 4)) := gi_r _ [633, 634, 635, 84, 636] (by decide +kernel) (by decide +kernel)
theorem lw_7_65 : GoodIn lw_tbl (lwords 7 65 (0, m_X6_run, 4)) := gi_r _ [1193, 1194, 1195, 90, 1196] (by decide +kernel) (by decide +kernel)
theorem lw_7_66 : GoodIn lw_tbl (lwords 7 66 (0, m_X5_best, 1)) := gi_r _ [655, 656, 657, 84, 658] (by decide +kernel) (by decide +kernel)
theorem lw_7_69 : GoodIn lw_tbl (lwords 7 69 (0, m_X6_best, 1)) := gi_r _ [1214, 1215, 1216, 90, 1217] (by decide +kernel) (by decide +kernel)
theorem lw_7_70 : GoodIn lw_tbl (lwords 7 70 (0, m_X5_share, 2)) := gi_r _ [722, 723, 724, 84, 725] (by decide +kernel) (by decide +kernel)
theorem lw_7_74 : GoodIn lw_tbl (lwords 7 74 (0, m_X6_share, 2)) := gi_r _ [1269, 1270, 1271, 90, 1272] (by decide +kernel) (by decide +kernel)
theorem lw_7_75 : GoodIn lw_tbl (lwords 7 75 (0, m_X5_tells, 4)) := gi_r _ [730, 731, 732, 84, 733] (by decide +kernel) (by decide +kernel)
theorem lw_7_78 : GoodIn lw_tbl (lwords 7 78 (0, m_X6_tells, 4)) := gi_r _ [1277, 1278, 1279, 90, 1280] (by decide +kernel) (by decide +kernel)
theorem lw_7_79 : GoodIn lw_tbl (lwords 7 79 (0, m_X5_film, 4)) := gi_r _ [770, 771, 772, 84, 773] (by decide +kernel) (by decide +kernel)
theorem lw_7_82 : GoodIn lw_tbl (lwords 7 82 (0, m_X6_film, 4)) := gi_r _ [1293, 1294, 1295, 90, 1296] (by decide +kernel) (by decide +kernel)
theorem lw_7_83 : GoodIn lw_tbl (lwords 7 83 (0, m_X5_drawn, 1)) := gi_r _ [782, 783, 784, 84, 785] (by decide +kernel) (by decide +kernel)
theorem lw_7_86 : GoodIn lw_tbl (lwords 7 86 (0, m_X6_drawn, 1)) := gi_r _ [1303, 1304, 1305, 90, 1306] (by decide +kernel) (by decide +kernel)
theorem lw_7_87 : GoodIn lw_tbl (lwords 7 87 (0, m_X5_chance, 4)) := gi_r _ [791, 792, 793, 84, 794] (by decide +kernel) (by decide +kernel)
theorem lw_7_91 : GoodIn lw_tbl (lwords 7 91 (0, m_X6_chance, 4)) := gi_r _ [1312, 1313, 1314, 90, 1315] (by decide +kernel) (by decide +kernel)
theorem lw_7_92 : GoodIn lw_tbl (lwords 7 92 (0, m_X5_image, 0)) := gi_r _ [795, 796, 797, 84, 798] (by decide +kernel) (by decide +kernel)
theorem lw_7_95 : GoodIn lw_tbl (lwords 7 95 (0, m_X6_image, 0)) := gi_r _ [1317, 1318, 1319, 90, 1320] (by decide +kernel) (by decide +kernel)
theorem lw_7_96 : GoodIn lw_tbl (lwords 7 96 (0, m_X5_back, 0)) := gi_r _ [799, 800, 801, 84, 802] (by decide +kernel) (by decide +kernel)
theorem lw_7_99 : GoodIn lw_tbl (lwords 7 99 (0, m_X6_back, 0)) := gi_r _ [1321, 1322, 1323, 90, 1324] (by decide +kernel) (by decide +kernel)
theorem lw_7_100 : GoodIn lw_tbl (lwords 7 100 (0, m_X5_count, 1)) := gi_r _ [803, 804, 805, 84, 806] (by decide +kernel) (by decide +kernel)
theorem lw_7_103 : GoodIn lw_tbl (lwords 7 103 (0, m_X6_count, 1)) := gi_r _ [1325, 1326, 1327, 90, 1328] (by decide +kernel) (by decide +kernel)
theorem lw_7_104 : GoodIn lw_tbl (lwords 7 104 (0, m_X5_sheet, 3)) := gi_r _ [807, 808, 809, 84, 810] (by decide +kernel) (by decide +kernel)
theorem lw_7_107 : GoodIn lw_tbl (lwords 7 107 (0, m_X6_sheet, 3)) := gi_r _ [1329, 1299, 1300, 90, 1301] (by decide +kernel) (by decide +kernel)
theorem lw_7_108 : GoodIn lw_tbl (lwords 7 108 (0, m_X5_cell, 3)) := gi_r _ [814, 815, 816, 84, 817] (by decide +kernel) (by decide +kernel)
theorem lw_7_111 : GoodIn lw_tbl (lwords 7 111 (0, m_X6_cell, 3)) := gi_r _ [1330, 1331, 1332, 90, 1333] (by decide +kernel) (by decide +kernel)
theorem lw_7_112 : GoodIn lw_tbl (lwords 7 112 (0, m_X5_copy, 5)) := gi_r _ [822, 823, 824, 84, 825] (by decide +kernel) (by decide +kernel)
theorem lw_7_116 : GoodIn lw_tbl (lwords 7 116 (0, m_X6_copy, 5)) := gi_r _ [1334, 1335, 1336, 90, 1337] (by decide +kernel) (by decide +kernel)
theorem lw_7_117 : GoodIn lw_tbl (lwords 7 117 (0, m_X5_room, 4)) := gi_r _ [827, 828, 829, 84, 830] (by decide +kernel) (by decide +kernel)
theorem lw_7_120 : GoodIn lw_tbl (lwords 7 120 (0, m_X6_room, 4)) := gi_r _ [1338, 1339, 1340, 90, 1341] (by decide +kernel) (by decide +kernel)
theorem lw_7_121 : GoodIn lw_tbl (lwords 7 121 (0, m_X5_taken, 2)) := gi_r _ [832, 833, 834, 84, 835] (by decide +kernel) (by decide +kernel)
theorem lw_7_124 : GoodIn lw_tbl (lwords 7 124 (0, m_X6_taken, 2)) := gi_r _ [1343, 1344, 1345, 90, 1346] (by decide +kernel) (by decide +kernel)
theorem lwA_7 : ∀ q ∈ lnk_7, GoodIn lw_tbl (lwords 7 q.1 q.2) := List.forall_mem_cons.mpr ⟨lw_7_9, List.forall_mem_cons.mpr ⟨lw_7_12, List.forall_mem_cons.mpr ⟨lw_7_13, List.forall_mem_cons.mpr ⟨lw_7_17, List.forall_mem_cons.mpr ⟨lw_7_18, List.forall_mem_cons.mpr ⟨lw_7_22, List.forall_mem_cons.mpr ⟨lw_7_23, List.forall_mem_cons.mpr ⟨lw_7_26, List.forall_mem_cons.mpr ⟨lw_7_27, List.forall_mem_cons.mpr ⟨lw_7_30, List.forall_mem_cons.mpr ⟨lw_7_31, List.forall_mem_cons.mpr ⟨lw_7_35, List.forall_mem_cons.mpr ⟨lw_7_36, List.forall_mem_cons.mpr ⟨lw_7_40, List.forall_mem_cons.mpr ⟨lw_7_41, List.forall_mem_cons.mpr ⟨lw_7_44, List.forall_mem_cons.mpr ⟨lw_7_45, List.forall_mem_cons.mpr ⟨lw_7_48, List.forall_mem_cons.mpr ⟨lw_7_49, List.forall_mem_cons.mpr ⟨lw_7_52, List.forall_mem_cons.mpr ⟨lw_7_53, List.forall_mem_cons.mpr ⟨lw_7_56, List.forall_mem_cons.mpr ⟨lw_7_57, List.forall_mem_cons.mpr ⟨lw_7_60, List.forall_mem_cons.mpr ⟨lw_7_61, List.forall_mem_cons.mpr ⟨lw_7_65, List.forall_mem_cons.mpr ⟨lw_7_66, List.forall_mem_cons.mpr ⟨lw_7_69, List.forall_mem_cons.mpr ⟨lw_7_70, List.forall_mem_cons.mpr ⟨lw_7_74, List.forall_mem_cons.mpr ⟨lw_7_75, List.forall_mem_cons.mpr ⟨lw_7_78, List.forall_mem_cons.mpr ⟨lw_7_79, List.forall_mem_cons.mpr ⟨lw_7_82, List.forall_mem_cons.mpr ⟨lw_7_83, List.forall_mem_cons.mpr ⟨lw_7_86, List.forall_mem_cons.mpr ⟨lw_7_87, List.forall_mem_cons.mpr ⟨lw_7_91, List.forall_mem_cons.mpr ⟨lw_7_92, List.forall_mem_cons.mpr ⟨lw_7_95, List.forall_mem_cons.mpr ⟨lw_7_96, List.forall_mem_cons.mpr ⟨lw_7_99, List.forall_mem_cons.mpr ⟨lw_7_100, List.forall_mem_cons.mpr ⟨lw_7_103, List.forall_mem_cons.mpr ⟨lw_7_104, List.forall_mem_cons.mpr ⟨lw_7_107, List.forall_mem_cons.mpr ⟨lw_7_108, List.forall_mem_cons.mpr ⟨lw_7_111, List.forall_mem_cons.mpr ⟨lw_7_112, List.forall_mem_cons.mpr ⟨lw_7_116, List.forall_mem_cons.mpr ⟨lw_7_117, List.forall_mem_cons.mpr ⟨lw_7_120, List.forall_mem_cons.mpr ⟨lw_7_121, List.forall_mem_cons.mpr ⟨lw_7_124, fun _ h => absurd h List.not_mem_nil⟩⟩⟩⟩⟩⟩⟩⟩⟩⟩⟩⟩⟩⟩⟩⟩⟩⟩⟩⟩⟩⟩⟩⟩⟩⟩⟩⟩⟩⟩⟩⟩⟩⟩⟩⟩⟩⟩⟩⟩⟩⟩⟩⟩⟩⟩⟩⟩⟩⟩⟩⟩⟩⟩
def fwords (own idx : Nat) (e : Nat × Nat × Nat × Bool) : List Cond := match nth vwCl e.1 with
  | none => []
  | some q => [.fieldLink (own8 own) idx (q.2.1 e.2.1).1 (q.2.1 e.2.1).2.1 (q.2.1 e.2.1).2.2.1]
set_option maxRecDepth 100000 in
theorem fW_ok : GoodIn lw_tbl (allT fldT fwords) := gi_r _ [161, 163, 165, 167, 172, 173, 152, 153, 155, 157, 159, 133, 169, 171, 252, 254, 208, 211, 213, 209, 212, 214, 219, 215, 216, 218, 129, 132, 134, 130, 122, 120, 248, 253, 250, 119, 121, 263, 264, 265, 266, 267, 268, 270, 156, 158, 164, 166, 168, 154, 162, 210, 131, 217, 160, 170, 249, 251, 269, 255, 854, 855, 858, 862, 863, 864, 866, 883, 884, 885, 886, 887, 888, 889, 890, 894, 895, 896, 897, 856, 865, 860, 861, 857, 859, 874, 873, 875, 877, 876, 878, 880, 881, 879, 867, 868, 869, 870, 871, 872, 882, 891, 892, 893] (by decide +kernel) (by decide +kernel)
def cwords (own idx : Nat) (ci : Nat) : List Cond := match nth vwCl ci with
  | none => [.classLink (own8 own) idx "[I"]
  | some q => [.classLink (own8 own) idx q.1, .instantiable q.1 q.2.2, .initialized q.1]
set_option maxRecDepth 100000 in
theorem cW_ok : GoodIn lw_tbl (allT clkT cwords) := gi_r _ [567, 114, 86, 574, 112, 114, 86, 106, 107, 85, 144, 145, 87, 202, 203, 88, 241, 243, 89, 98, 99, 84, 838, 839, 90] (by decide +kernel) (by decide +kernel)
def lcwords (own idx : Nat) (v : Int64) : List Cond := [.constantLong (own8 own) idx v]
set_option maxRecDepth 100000 in
theorem lcW_ok : GoodIn lw_tbl (allT lckT lcwords) := gi_r _ [726, 994, 1017, 1049, 1050, 1051, 1052, 1053, 1106, 1107, 1123, 1124, 1143, 1130, 1197, 1276, 1284, 1297, 1302, 1316] (by decide +kernel) (by decide +kernel)
def icwords (own idx : Nat) (v : Int32) : List Cond := [.constant (own8 own) idx v]
set_option maxRecDepth 100000 in
theorem icW_ok : GoodIn lw_tbl (allT ickT icwords) := gi_r _ [790, 1192, 1252, 1311] (by decide +kernel) (by decide +kernel)
def sfwords (own idx : Nat) (j : Nat) : List Cond := if own = 5 then [.fieldLink RX5 idx RX5 (stN j) "[I"] else []
set_option maxRecDepth 100000 in
theorem sfW_ok : GoodIn lw_tbl (allT sflT sfwords) := gi_r _ [292, 695, 836] (by decide +kernel) (by decide +kernel)
theorem uW_0 : GoodIn lw_tbl wsX00 := gi_r _ [174, 176, 178, 180, 182, 184, 186, 188, 190, 192, 194, 196, 198] (by decide +kernel) (by decide +kernel)
theorem uW_1 : GoodIn lw_tbl wsX10 := gi_r _ [220, 222, 224, 226, 228, 230, 232, 234, 236, 238] (by decide +kernel) (by decide +kernel)
theorem uW_2 : GoodIn lw_tbl wsX20 := gi_r _ [135, 137, 139, 141] (by decide +kernel) (by decide +kernel)
theorem uW_3 : GoodIn lw_tbl wsX30 := gi_r _ [256, 258, 260] (by decide +kernel) (by decide +kernel)
theorem uW_4 : GoodIn lw_tbl wsX40 := gi_r _ [123, 125] (by decide +kernel) (by decide +kernel)
theorem uW_5 : GoodIn lw_tbl wsX50 := gi_r _ [271, 273, 275, 277, 279, 281, 283, 285] (by decide +kernel) (by decide +kernel)
theorem uW_6 : GoodIn lw_tbl wsX60 := gi_r _ [898, 900, 902, 904, 906, 908, 910, 912, 914, 916, 918, 920, 922, 924, 926, 928, 930, 932, 934, 936, 938, 940, 942, 944, 946, 948, 950, 952, 954, 956, 958, 960, 962, 964, 966, 968, 970, 972, 974, 976, 978, 980, 982, 984, 986] (by decide +kernel) (by decide +kernel)
theorem aW_ok : GoodIn lw_tbl [.arrayClass .int, .arrayClass .boolean] := gi_r _ [128, 989] (by decide +kernel) (by decide +kernel)
/-- the words that every method is given: all good ones of the tables -/
def goodB (w : Cond) : Bool := match w with
  | .code .. => true
  | w => goodWord w
def ALLW : List Cond := lw_tbl.filter goodWord
theorem ALLW_good {big : List Cond} (h : ∀ w ∈ ALLW, w ∈ big) : GoodIn big ALLW := fun w hw => ⟨h w hw, good_of_word (List.mem_filter.mp hw).2⟩
theorem ALLW_in {ws : List Cond} (h : GoodIn lw_tbl ws) (hg : ws.all goodWord = true) : ∀ w ∈ ws, w ∈ ALLW := fun w hw => List.mem_filter.mpr ⟨(h w hw).1, List.all_eq_true.mp hg w hw⟩
theorem lwW {own idx : Nat} {e : LK} (h : lnk own idx = some e) : GoodIn lw_tbl (lwords own idx e) := by
  unfold lnk at h
  split at h
  · cases h
  · rename_i l hl
    have hm := lkp_mem l idx e h
    match own, hl with
    | 0, hl => cases hl; exact lwA_0 _ hm
    | 1, hl => cases hl; exact lwA_1 _ hm
    | 2, hl => cases hl; exact lwA_2 _ hm
    | 3, hl => cases hl; exact lwA_3 _ hm
    | 4, hl => cases hl; exact lwA_4 _ hm
    | 5, hl => cases hl; exact lwA_5 _ hm
    | 6, hl => cases hl; exact lwA_6 _ hm
    | 7, hl => cases hl; exact lwA_7 _ hm
    | n + 8, hl => simp [lnkT, nth] at hl
end
section
/-! THE TABLES ARE WHAT THE BYTES SAY -/
def ckI (i : Instr) (pc t : Nat) (c : Int32) (sw : List (Int32 × Nat)) : Bool := match i with
  | .iconst v => decide (Int32.ofInt v = c)
  | .bipush v => decide ((Int8.ofInt v).toInt32 = c)
  | .sipush v => decide ((Int16.ofInt v).toInt32 = c)
  | .iinc _ v => decide (Int32.ofInt v = c)
  | .ifCond _ o => decide ((pc : Int) + o = (t : Int))
  | .if_icmp _ o => decide ((pc : Int) + o = (t : Int))
  | .goto o => decide ((pc : Int) + o = (t : Int))
  | .ifnonnull o => decide ((pc : Int) + o = (t : Int))
  | .tableswitch d lo hi offs => decide ((pc : Int) + d = (t : Int)) && decide (hi - lo + 1 = (sw.length : Int)) && decide (offs.size = sw.length) && decide (0 ≤ lo) && decide (hi < 100000)
      && (List.range sw.length).all fun k => match nth sw k, offs[k]? with
        | some q, some o => decide (q.1 = Int32.ofInt (lo + k)) && decide ((pc : Int) + o = (q.2 : Int))
        | _, _ => false
  | .lookupswitch d ps => decide ((pc : Int) + d = (t : Int)) && (ps.toList.zip (ps.toList.drop 1)).all (fun (a, next) => a.1 < next.1) && decide (ps.toList.length = sw.length)
      && (List.range sw.length).all fun k => match nth sw k, ps.toList[k]? with
        | some q, some o => decide (q.1 = Int32.ofInt o.1) && decide ((pc : Int) + o.2 = (q.2 : Int)) && decide (0 ≤ o.1) && decide (o.1 < 100000)
        | _, _ => false
  | _ => true
/-- how long an instruction is (0: a switch) -/
def lenI (i : Instr) : Nat := match i with
  | .tableswitch _ _ _ _ => 0
  | .lookupswitch _ _ => 0
  | .bipush _ => 2 | .ldc _ => 2 | .iload _ => 2 | .lload _ => 2 | .aload _ => 2 | .istore _ => 2 | .lstore _ => 2 | .astore _ => 2 | .newarray _ => 2
  | .sipush _ => 3 | .ldc_w _ => 3 | .ldc2_w _ => 3 | .iinc _ _ => 3 | .ifCond _ _ => 3 | .if_icmp _ _ => 3 | .goto _ => 3 | .ifnonnull _ => 3 | .getfield _ => 3 | .putfield _ => 3 | .getstatic _ => 3 | .anewarray _ => 3 | .new _ => 3 | .checkcast _ => 3 | .invokevirtual _ => 3 | .invokestatic _ => 3 | .invokespecial _ => 3
  | _ => 1
/-- a store goes to a local that there is -/
def locI (i : Instr) (nL : Nat) : Bool := match i with
  | .istore k => Nat.ble (k + 1) nL
  | .istore_n k => Nat.ble (k.val + 1) nL
  | .astore k => Nat.ble (k + 1) nL
  | .astore_n k => Nat.ble (k.val + 1) nL
  | .lstore k => Nat.ble (k + 2) nL
  | .lstore_n k => Nat.ble (k.val + 2) nL
  | .iinc k _ => Nat.ble (k + 1) nL
  | _ => true
/-- a final field is set in a constructor alone -/
def pfI (i : Instr) (Y : MT) : Bool := match i with
  | .putfield ix => (match fld Y.1.2.1 ix with
    | some (ci, _, _, true) => decide (Y.2.1.name = "<init>") && Nat.beq ci Y.1.2.1
    | _ => true)
  | _ => true
def ckE (Y : MT) (pc : Nat) : Bool := match codeAt Y pc with
  | none => true
  | some (i, n, t, c, sw) => decide (decode Y.2.2.1 pc = .ok (i, n - pc)) && Nat.ble pc n && ckI i pc t c sw && (Nat.beq (lenI i) 0 || Nat.beq n (pc + lenI i)) && locI i Y.2.2.2.1 && pfI i Y
/-- a method's table -/
def ckM (Y : MT) : Bool := (List.range (16 * Y.1.1.length)).all (ckE Y)
def ckP (Y : MT) : Prop := ∀ pc, pc < 16 * Y.1.1.length → ckE Y pc = true
theorem ckP_of {Y : MT} (h : ckM Y = true) : ckP Y := fun pc hl => List.all_eq_true.mp h pc (List.mem_range.mpr hl)
theorem ckM_at {Y : MT} (h : ckP Y) {pc : Nat} {i : Instr} {n t : Nat} {c : Int32} {sw : List (Int32 × Nat)} (hc : codeAt Y pc = some (i, n, t, c, sw)) : decode Y.2.2.1 pc = .ok (i, n - pc) ∧ pc ≤ n ∧ ckI i pc t c sw = true ∧ (lenI i = 0 ∨ n = pc + lenI i) ∧ locI i Y.2.2.2.1 = true ∧ pfI i Y = true := by
  have hl : pc < 16 * Y.1.1.length := by
    rcases Nat.lt_or_ge (pc / 16) Y.1.1.length with g | g
    · omega
    · rw [codeAt, nth_get, List.getElem?_eq_none g] at hc
      cases hc
  have h1 := h pc hl
  simp only [ckE, hc, Bool.and_eq_true, decide_eq_true_eq] at h1
  refine ⟨h1.1.1.1.1.1, Nat.le_of_ble_eq_true h1.1.1.1.1.2, h1.1.1.1.2, ?_, h1.1.2, h1.2⟩
  rcases (Bool.or_eq_true _ _).mp h1.1.1.2 with z | z
  · exact Or.inl (Nat.eq_of_beq_eq_true z)
  · exact Or.inr (Nat.eq_of_beq_eq_true z)
/-- a method's place among the others: its class, its type, its name -/
def rkOf (ret : Option FieldType) : Nat := match ret with
  | none => 0
  | some .int => 1
  | some .long => 2
  | some .boolean => 4
  | some (.object _) => 3
  | _ => 9
def ckN (Y : MT) : Bool := decide (Y.2.1.cls = own8 Y.1.2.1) && plainName Y.2.1.cls && decide (Y.2.1.cls ≠ "java/lang/invoke/MethodHandle") && decide (Y.2.1.cls ≠ "java/lang/invoke/VarHandle") && decide (rkOf Y.2.2.2.2 = Y.1.2.2.2.2) && Nat.ble Y.2.2.2.1 40
def ckL (own : Nat) (e : LK) : Bool := match e.1 with
  | 0 => ckN e.2.1 && decide ((parseMethodDescriptor e.2.1.2.1.desc).map (fun d => d.parameters.length) = some e.2.2)
  | 1 => ckN e.2.1 && decide ((parseMethodDescriptor e.2.1.2.1.desc).map (fun d => d.parameters.length) = some e.2.2) && decide (e.2.1.2.1.cls = own8 own)
  | 2 => ckN e.2.1 && decide ((parseMethodDescriptor e.2.1.2.1.desc).map (fun d => d.parameters.length) = some e.2.2) && decide (e.2.1.2.1.name = "<init>") && decide (e.2.1.2.2.2.2 = none)
  | 11 => ckN e.2.1 && decide ((parseMethodDescriptor e.2.1.2.1.desc).map (fun d => d.parameters.length) = some e.2.2) && decide (e.2.1.2.1 = yX5_within) && Nat.beq own 0
  | 12 => ckN e.2.1 && decide ((parseMethodDescriptor e.2.1.2.1.desc).map (fun d => d.parameters.length) = some e.2.2) && decide (e.2.1.2.1.name = "<init>") && decide (e.2.1.2.2.2.2 = none) && Nat.beq own 5
  | _ => true
set_option maxRecDepth 100000 in
theorem ckL_ok : ((enum lnkT 0).all fun q => q.2.all fun e => ckL q.1 e.2) = true := by decide +kernel
/-- the nest's links, by their places -/
theorem ckNest : (lnk_0.all fun e => cond (Nat.beq e.2.1 11) (Nat.beq e.1 72) true) = true ∧ (lnk_5.all fun e => cond (Nat.beq e.2.1 12) ((Nat.beq e.1 34 && decide (e.2.2.1.2.1 = yX1_init)) || (Nat.beq e.1 41 && decide (e.2.2.1.2.1 = yX3_init))) true) = true := by decide +kernel
def ckF (_own : Nat) (e : Nat × Nat × Nat × Bool) : Bool := match nth vwCl e.1 with
  | none => false
  | some q => Nat.ble (e.2.1 + 1) q.2.2 && decide (fty e.1 e.2.1 = e.2.2.1) && decide ((q.2.1 e.2.1).2.2.2 = e.2.2.2) && decide ((q.2.1 e.2.1).1 = own8 e.1) && Nat.ble e.1 6
theorem ckF_ok : ((enum fldT 0).all fun q => q.2.all fun e => ckF q.1 e.2) = true := by decide +kernel
def ckS (own idx j : Nat) : Bool := Nat.ble 61 j && Nat.ble j 65 && ((Nat.beq own 5) || (Nat.beq own 0 && ((Nat.beq idx 24 && Nat.beq j 61) || (Nat.beq idx 107 && Nat.beq j 62) || (Nat.beq idx 131 && Nat.beq j 63))))
theorem ckS_ok : ((enum sflT 0).all fun q => q.2.all fun e => ckS q.1 e.1 e.2) = true := by decide +kernel
theorem enum_all {α : Type} {T : List (List (Nat × α))} {f : Nat → Nat → α → Bool} (h : ((enum T 0).all fun q => q.2.all fun e => f q.1 e.1 e.2) = true) {own idx : Nat} {l : List (Nat × α)} {e : α} (h1 : nth T own = some l) (h2 : lkp l idx = some e) : f own idx e = true := by
  have a := enum_nth T 0 own l h1
  have b := List.all_eq_true.mp h _ a
  have c := List.all_eq_true.mp b (idx, e) (lkp_mem l idx e h2)
  simpa using c
end
section
set_option maxRecDepth 100000 in
theorem ck_X0_init : ckP m_X0_init := ckP_of (by decide +kernel)
set_option maxRecDepth 100000 in
theorem ck_X0_takeFrom : ckP m_X0_takeFrom := ckP_of (by decide +kernel)
set_option maxRecDepth 100000 in
theorem ck_X0_join : ckP m_X0_join := ckP_of (by decide +kernel)
set_option maxRecDepth 100000 in
theorem ck_X0_owing : ckP m_X0_owing := ckP_of (by decide +kernel)
set_option maxRecDepth 100000 in
theorem ck_X0_owes : ckP m_X0_owes := ckP_of (by decide +kernel)
set_option maxRecDepth 100000 in
theorem ck_X0_owedTo : ckP m_X0_owedTo := ckP_of (by decide +kernel)
set_option maxRecDepth 100000 in
theorem ck_X0_all : ckP m_X0_all := ckP_of (by decide +kernel)
set_option maxRecDepth 100000 in
theorem ck_X0_value : ckP m_X0_value := ckP_of (by decide +kernel)
set_option maxRecDepth 100000 in
theorem ck_X0_pays : ckP m_X0_pays := ckP_of (by decide +kernel)
set_option maxRecDepth 100000 in
theorem ck_X0_will : ckP m_X0_will := ckP_of (by decide +kernel)
set_option maxRecDepth 100000 in
theorem ck_X0_breath : ckP m_X0_breath := ckP_of (by decide +kernel)
set_option maxRecDepth 100000 in
theorem ck_X0_may : ckP m_X0_may := ckP_of (by decide +kernel)
set_option maxRecDepth 100000 in
theorem ck_X0_step : ckP m_X0_step := ckP_of (by decide +kernel)
set_option maxRecDepth 100000 in
theorem ck_X0_lessen : ckP m_X0_lessen := ckP_of (by decide +kernel)
set_option maxRecDepth 100000 in
theorem ck_X0_settle : ckP m_X0_settle := ckP_of (by decide +kernel)
set_option maxRecDepth 100000 in
theorem ck_X0_danceRound : ckP m_X0_danceRound := ckP_of (by decide +kernel)
set_option maxRecDepth 100000 in
theorem ck_X0_endNight : ckP m_X0_endNight := ckP_of (by decide +kernel)
set_option maxRecDepth 100000 in
theorem ck_X0_ends : ckP m_X0_ends := ckP_of (by decide +kernel)
set_option maxRecDepth 100000 in
theorem ck_X0_draw : ckP m_X0_draw := ckP_of (by decide +kernel)
set_option maxRecDepth 100000 in
theorem ck_X0_stillOwed : ckP m_X0_stillOwed := ckP_of (by decide +kernel)
set_option maxRecDepth 100000 in
theorem ck_X0_keeps : ckP m_X0_keeps := ckP_of (by decide +kernel)
set_option maxRecDepth 100000 in
theorem ck_X0_least : ckP m_X0_least := ckP_of (by decide +kernel)
set_option maxRecDepth 100000 in
theorem ck_X0_ring : ckP m_X0_ring := ckP_of (by decide +kernel)
set_option maxRecDepth 100000 in
theorem ck_X0_longest : ckP m_X0_longest := ckP_of (by decide +kernel)
set_option maxRecDepth 100000 in
theorem ck_X0_mostToMeet : ckP m_X0_mostToMeet := ckP_of (by decide +kernel)
set_option maxRecDepth 100000 in
theorem ck_X0_weigh : ckP m_X0_weigh := ckP_of (by decide +kernel)
set_option maxRecDepth 100000 in
theorem ck_X0_mayAll : ckP m_X0_mayAll := ckP_of (by decide +kernel)
set_option maxRecDepth 100000 in
theorem ck_X0_paidBy : ckP m_X0_paidBy := ckP_of (by decide +kernel)
set_option maxRecDepth 100000 in
theorem ck_X0_bestSet : ckP m_X0_bestSet := ckP_of (by decide +kernel)
set_option maxRecDepth 100000 in
theorem ck_X0_danceSet : ckP m_X0_danceSet := ckP_of (by decide +kernel)
set_option maxRecDepth 100000 in
theorem ck_X0_firstOtherwise : ckP m_X0_firstOtherwise := ckP_of (by decide +kernel)
set_option maxRecDepth 100000 in
theorem ck_X0_paysAs : ckP m_X0_paysAs := ckP_of (by decide +kernel)
set_option maxRecDepth 100000 in
theorem ck_X1_init : ckP m_X1_init := ckP_of (by decide +kernel)
end
section
set_option maxRecDepth 100000 in
theorem ck_X1_hold : ckP m_X1_hold := ckP_of (by decide +kernel)
set_option maxRecDepth 100000 in
theorem ck_X1_read : ckP m_X1_read := ckP_of (by decide +kernel)
set_option maxRecDepth 100000 in
theorem ck_X1_pass : ckP m_X1_pass := ckP_of (by decide +kernel)
set_option maxRecDepth 100000 in
theorem ck_X1_put : ckP m_X1_put := ckP_of (by decide +kernel)
set_option maxRecDepth 100000 in
theorem ck_X1_either : ckP m_X1_either := ckP_of (by decide +kernel)
set_option maxRecDepth 100000 in
theorem ck_X1_both : ckP m_X1_both := ckP_of (by decide +kernel)
set_option maxRecDepth 100000 in
theorem ck_X1_denied : ckP m_X1_denied := ckP_of (by decide +kernel)
set_option maxRecDepth 100000 in
theorem ck_X1_compared : ckP m_X1_compared := ckP_of (by decide +kernel)
set_option maxRecDepth 100000 in
theorem ck_X1_sum : ckP m_X1_sum := ckP_of (by decide +kernel)
set_option maxRecDepth 100000 in
theorem ck_X1_term : ckP m_X1_term := ckP_of (by decide +kernel)
set_option maxRecDepth 100000 in
theorem ck_X1_one : ckP m_X1_one := ckP_of (by decide +kernel)
set_option maxRecDepth 100000 in
theorem ck_X1_opens : ckP m_X1_opens := ckP_of (by decide +kernel)
set_option maxRecDepth 100000 in
theorem ck_X1_next : ckP m_X1_next := ckP_of (by decide +kernel)
set_option maxRecDepth 100000 in
theorem ck_X1_nextNumber : ckP m_X1_nextNumber := ckP_of (by decide +kernel)
set_option maxRecDepth 100000 in
theorem ck_X1_nextWord : ckP m_X1_nextWord := ckP_of (by decide +kernel)
set_option maxRecDepth 100000 in
theorem ck_X1_spells : ckP m_X1_spells := ckP_of (by decide +kernel)
set_option maxRecDepth 100000 in
theorem ck_X1_isDigit : ckP m_X1_isDigit := ckP_of (by decide +kernel)
set_option maxRecDepth 100000 in
theorem ck_X1_isLetter : ckP m_X1_isLetter := ckP_of (by decide +kernel)
set_option maxRecDepth 100000 in
theorem ck_X2_init : ckP m_X2_init := ckP_of (by decide +kernel)
set_option maxRecDepth 100000 in
theorem ck_X2_keep : ckP m_X2_keep := ckP_of (by decide +kernel)
set_option maxRecDepth 100000 in
theorem ck_X2_value : ckP m_X2_value := ckP_of (by decide +kernel)
set_option maxRecDepth 100000 in
theorem ck_X3_init : ckP m_X3_init := ckP_of (by decide +kernel)
set_option maxRecDepth 100000 in
theorem ck_X3_become : ckP m_X3_become := ckP_of (by decide +kernel)
set_option maxRecDepth 100000 in
theorem ck_X3_holds : ckP m_X3_holds := ckP_of (by decide +kernel)
set_option maxRecDepth 100000 in
theorem ck_X3_put : ckP m_X3_put := ckP_of (by decide +kernel)
set_option maxRecDepth 100000 in
theorem ck_X4_init : ckP m_X4_init := ckP_of (by decide +kernel)
set_option maxRecDepth 100000 in
theorem ck_X5_init : ckP m_X5_init := ckP_of (by decide +kernel)
set_option maxRecDepth 100000 in
theorem ck_X5_set : ckP m_X5_set := ckP_of (by decide +kernel)
set_option maxRecDepth 100000 in
theorem ck_X5_dancer : ckP m_X5_dancer := ckP_of (by decide +kernel)
set_option maxRecDepth 100000 in
theorem ck_X5_told : ckP m_X5_told := ckP_of (by decide +kernel)
set_option maxRecDepth 100000 in
theorem ck_X5_asks : ckP m_X5_asks := ckP_of (by decide +kernel)
set_option maxRecDepth 100000 in
theorem ck_X5_isDancer : ckP m_X5_isDancer := ckP_of (by decide +kernel)
set_option maxRecDepth 100000 in
theorem ck_X5_isTwo : ckP m_X5_isTwo := ckP_of (by decide +kernel)
end
section
set_option maxRecDepth 100000 in
theorem ck_X5_debtPlace : ckP m_X5_debtPlace := ckP_of (by decide +kernel)
set_option maxRecDepth 100000 in
theorem ck_X5_feed : ckP m_X5_feed := ckP_of (by decide +kernel)
set_option maxRecDepth 100000 in
theorem ck_X5_text : ckP m_X5_text := ckP_of (by decide +kernel)
set_option maxRecDepth 100000 in
theorem ck_X5_force : ckP m_X5_force := ckP_of (by decide +kernel)
set_option maxRecDepth 100000 in
theorem ck_X5_dance : ckP m_X5_dance := ckP_of (by decide +kernel)
set_option maxRecDepth 100000 in
theorem ck_X5_round : ckP m_X5_round := ckP_of (by decide +kernel)
set_option maxRecDepth 100000 in
theorem ck_X5_night : ckP m_X5_night := ckP_of (by decide +kernel)
set_option maxRecDepth 100000 in
theorem ck_X5_strike : ckP m_X5_strike := ckP_of (by decide +kernel)
set_option maxRecDepth 100000 in
theorem ck_X5_readRing : ckP m_X5_readRing := ckP_of (by decide +kernel)
set_option maxRecDepth 100000 in
theorem ck_X5_run : ckP m_X5_run := ckP_of (by decide +kernel)
set_option maxRecDepth 100000 in
theorem ck_X5_think : ckP m_X5_think := ckP_of (by decide +kernel)
set_option maxRecDepth 100000 in
theorem ck_X5_best : ckP m_X5_best := ckP_of (by decide +kernel)
set_option maxRecDepth 100000 in
theorem ck_X5_share : ckP m_X5_share := ckP_of (by decide +kernel)
set_option maxRecDepth 100000 in
theorem ck_X5_sitters : ckP m_X5_sitters := ckP_of (by decide +kernel)
set_option maxRecDepth 100000 in
theorem ck_X5_soonest : ckP m_X5_soonest := ckP_of (by decide +kernel)
set_option maxRecDepth 100000 in
theorem ck_X5_clears : ckP m_X5_clears := ckP_of (by decide +kernel)
set_option maxRecDepth 100000 in
theorem ck_X5_lowest : ckP m_X5_lowest := ckP_of (by decide +kernel)
set_option maxRecDepth 100000 in
theorem ck_X5_tells : ckP m_X5_tells := ckP_of (by decide +kernel)
set_option maxRecDepth 100000 in
theorem ck_X5_kindsTold : ckP m_X5_kindsTold := ckP_of (by decide +kernel)
set_option maxRecDepth 100000 in
theorem ck_X5_numbersTold : ckP m_X5_numbersTold := ckP_of (by decide +kernel)
set_option maxRecDepth 100000 in
theorem ck_X5_roundsTold : ckP m_X5_roundsTold := ckP_of (by decide +kernel)
set_option maxRecDepth 100000 in
theorem ck_X5_donesTold : ckP m_X5_donesTold := ckP_of (by decide +kernel)
set_option maxRecDepth 100000 in
theorem ck_X5_textsTold : ckP m_X5_textsTold := ckP_of (by decide +kernel)
set_option maxRecDepth 100000 in
theorem ck_X5_dancersTold : ckP m_X5_dancersTold := ckP_of (by decide +kernel)
set_option maxRecDepth 100000 in
theorem ck_X5_film : ckP m_X5_film := ckP_of (by decide +kernel)
set_option maxRecDepth 100000 in
theorem ck_X5_drawn : ckP m_X5_drawn := ckP_of (by decide +kernel)
set_option maxRecDepth 100000 in
theorem ck_X5_chance : ckP m_X5_chance := ckP_of (by decide +kernel)
set_option maxRecDepth 100000 in
theorem ck_X5_image : ckP m_X5_image := ckP_of (by decide +kernel)
set_option maxRecDepth 100000 in
theorem ck_X5_back : ckP m_X5_back := ckP_of (by decide +kernel)
set_option maxRecDepth 100000 in
theorem ck_X5_count : ckP m_X5_count := ckP_of (by decide +kernel)
set_option maxRecDepth 100000 in
theorem ck_X5_sheet : ckP m_X5_sheet := ckP_of (by decide +kernel)
set_option maxRecDepth 100000 in
theorem ck_X5_cell : ckP m_X5_cell := ckP_of (by decide +kernel)
set_option maxRecDepth 100000 in
theorem ck_X5_copy : ckP m_X5_copy := ckP_of (by decide +kernel)
end
section
set_option maxRecDepth 100000 in
theorem ck_X5_room : ckP m_X5_room := ckP_of (by decide +kernel)
set_option maxRecDepth 100000 in
theorem ck_X5_taken : ckP m_X5_taken := ckP_of (by decide +kernel)
set_option maxRecDepth 100000 in
theorem ck_X5_isSheet : ckP m_X5_isSheet := ckP_of (by decide +kernel)
set_option maxRecDepth 100000 in
theorem ck_X5_isSort : ckP m_X5_isSort := ckP_of (by decide +kernel)
set_option maxRecDepth 100000 in
theorem ck_X5_within : ckP m_X5_within := ckP_of (by decide +kernel)
set_option maxRecDepth 100000 in
theorem ck_X6_in : ckP m_X6_in := ckP_of (by decide +kernel)
set_option maxRecDepth 100000 in
theorem ck_X6_within : ckP m_X6_within := ckP_of (by decide +kernel)
set_option maxRecDepth 100000 in
theorem ck_X6_init : ckP m_X6_init := ckP_of (by decide +kernel)
set_option maxRecDepth 100000 in
theorem ck_X6_spell : ckP m_X6_spell := ckP_of (by decide +kernel)
set_option maxRecDepth 100000 in
theorem ck_X6_isOne : ckP m_X6_isOne := ckP_of (by decide +kernel)
set_option maxRecDepth 100000 in
theorem ck_X6_areTwo : ckP m_X6_areTwo := ckP_of (by decide +kernel)
set_option maxRecDepth 100000 in
theorem ck_X6_isOf : ckP m_X6_isOf := ckP_of (by decide +kernel)
set_option maxRecDepth 100000 in
theorem ck_X6_placeOf : ckP m_X6_placeOf := ckP_of (by decide +kernel)
set_option maxRecDepth 100000 in
theorem ck_X6_mostOf : ckP m_X6_mostOf := ckP_of (by decide +kernel)
set_option maxRecDepth 100000 in
theorem ck_X6_set : ckP m_X6_set := ckP_of (by decide +kernel)
set_option maxRecDepth 100000 in
theorem ck_X6_lays : ckP m_X6_lays := ckP_of (by decide +kernel)
set_option maxRecDepth 100000 in
theorem ck_X6_dancer : ckP m_X6_dancer := ckP_of (by decide +kernel)
set_option maxRecDepth 100000 in
theorem ck_X6_told : ckP m_X6_told := ckP_of (by decide +kernel)
set_option maxRecDepth 100000 in
theorem ck_X6_debtOf : ckP m_X6_debtOf := ckP_of (by decide +kernel)
set_option maxRecDepth 100000 in
theorem ck_X6_owesOf : ckP m_X6_owesOf := ckP_of (by decide +kernel)
set_option maxRecDepth 100000 in
theorem ck_X6_owedTo : ckP m_X6_owedTo := ckP_of (by decide +kernel)
set_option maxRecDepth 100000 in
theorem ck_X6_owedAll : ckP m_X6_owedAll := ckP_of (by decide +kernel)
set_option maxRecDepth 100000 in
theorem ck_X6_feed : ckP m_X6_feed := ckP_of (by decide +kernel)
set_option maxRecDepth 100000 in
theorem ck_X6_byteAt : ckP m_X6_byteAt := ckP_of (by decide +kernel)
set_option maxRecDepth 100000 in
theorem ck_X6_next : ckP m_X6_next := ckP_of (by decide +kernel)
set_option maxRecDepth 100000 in
theorem ck_X6_fail : ckP m_X6_fail := ckP_of (by decide +kernel)
set_option maxRecDepth 100000 in
theorem ck_X6_isLetter : ckP m_X6_isLetter := ckP_of (by decide +kernel)
set_option maxRecDepth 100000 in
theorem ck_X6_isWord : ckP m_X6_isWord := ckP_of (by decide +kernel)
set_option maxRecDepth 100000 in
theorem ck_X6_isSign : ckP m_X6_isSign := ckP_of (by decide +kernel)
set_option maxRecDepth 100000 in
theorem ck_X6_opens : ckP m_X6_opens := ckP_of (by decide +kernel)
set_option maxRecDepth 100000 in
theorem ck_X6_name : ckP m_X6_name := ckP_of (by decide +kernel)
set_option maxRecDepth 100000 in
theorem ck_X6_atom : ckP m_X6_atom := ckP_of (by decide +kernel)
set_option maxRecDepth 100000 in
theorem ck_X6_term : ckP m_X6_term := ckP_of (by decide +kernel)
end
section
set_option maxRecDepth 100000 in
theorem ck_X6_added : ckP m_X6_added := ckP_of (by decide +kernel)
set_option maxRecDepth 100000 in
theorem ck_X6_not : ckP m_X6_not := ckP_of (by decide +kernel)
set_option maxRecDepth 100000 in
theorem ck_X6_both : ckP m_X6_both := ckP_of (by decide +kernel)
set_option maxRecDepth 100000 in
theorem ck_X6_either : ckP m_X6_either := ckP_of (by decide +kernel)
set_option maxRecDepth 100000 in
theorem ck_X6_part : ckP m_X6_part := ckP_of (by decide +kernel)
set_option maxRecDepth 100000 in
theorem ck_X6_read : ckP m_X6_read := ckP_of (by decide +kernel)
set_option maxRecDepth 100000 in
theorem ck_X6_text : ckP m_X6_text := ckP_of (by decide +kernel)
set_option maxRecDepth 100000 in
theorem ck_X6_force : ckP m_X6_force := ckP_of (by decide +kernel)
set_option maxRecDepth 100000 in
theorem ck_X6_says : ckP m_X6_says := ckP_of (by decide +kernel)
set_option maxRecDepth 100000 in
theorem ck_X6_paysOf : ckP m_X6_paysOf := ckP_of (by decide +kernel)
set_option maxRecDepth 100000 in
theorem ck_X6_willOf : ckP m_X6_willOf := ckP_of (by decide +kernel)
set_option maxRecDepth 100000 in
theorem ck_X6_breathOf : ckP m_X6_breathOf := ckP_of (by decide +kernel)
set_option maxRecDepth 100000 in
theorem ck_X6_hasBreath : ckP m_X6_hasBreath := ckP_of (by decide +kernel)
set_option maxRecDepth 100000 in
theorem ck_X6_mayDance : ckP m_X6_mayDance := ckP_of (by decide +kernel)
set_option maxRecDepth 100000 in
theorem ck_X6_asks : ckP m_X6_asks := ckP_of (by decide +kernel)
set_option maxRecDepth 100000 in
theorem ck_X6_dances : ckP m_X6_dances := ckP_of (by decide +kernel)
set_option maxRecDepth 100000 in
theorem ck_X6_danceBoth : ckP m_X6_danceBoth := ckP_of (by decide +kernel)
set_option maxRecDepth 100000 in
theorem ck_X6_dance : ckP m_X6_dance := ckP_of (by decide +kernel)
set_option maxRecDepth 100000 in
theorem ck_X6_passes : ckP m_X6_passes := ckP_of (by decide +kernel)
set_option maxRecDepth 100000 in
theorem ck_X6_round : ckP m_X6_round := ckP_of (by decide +kernel)
set_option maxRecDepth 100000 in
theorem ck_X6_night : ckP m_X6_night := ckP_of (by decide +kernel)
set_option maxRecDepth 100000 in
theorem ck_X6_ringOf : ckP m_X6_ringOf := ckP_of (by decide +kernel)
set_option maxRecDepth 100000 in
theorem ck_X6_strike : ckP m_X6_strike := ckP_of (by decide +kernel)
set_option maxRecDepth 100000 in
theorem ck_X6_laysAside : ckP m_X6_laysAside := ckP_of (by decide +kernel)
set_option maxRecDepth 100000 in
theorem ck_X6_laysBack : ckP m_X6_laysBack := ckP_of (by decide +kernel)
set_option maxRecDepth 100000 in
theorem ck_X6_owedSet : ckP m_X6_owedSet := ckP_of (by decide +kernel)
set_option maxRecDepth 100000 in
theorem ck_X6_run : ckP m_X6_run := ckP_of (by decide +kernel)
set_option maxRecDepth 100000 in
theorem ck_X6_both_ : ckP m_X6_both_ := ckP_of (by decide +kernel)
set_option maxRecDepth 100000 in
theorem ck_X6_lesser : ckP m_X6_lesser := ckP_of (by decide +kernel)
set_option maxRecDepth 100000 in
theorem ck_X6_greater : ckP m_X6_greater := ckP_of (by decide +kernel)
set_option maxRecDepth 100000 in
theorem ck_X6_isApart : ckP m_X6_isApart := ckP_of (by decide +kernel)
set_option maxRecDepth 100000 in
theorem ck_X6_isSet : ckP m_X6_isSet := ckP_of (by decide +kernel)
set_option maxRecDepth 100000 in
theorem ck_X6_dancesOf : ckP m_X6_dancesOf := ckP_of (by decide +kernel)
end
section
set_option maxRecDepth 100000 in
theorem ck_X6_bestSet : ckP m_X6_bestSet := ckP_of (by decide +kernel)
set_option maxRecDepth 100000 in
theorem ck_X6_nextRound : ckP m_X6_nextRound := ckP_of (by decide +kernel)
set_option maxRecDepth 100000 in
theorem ck_X6_isPaidBy : ckP m_X6_isPaidBy := ckP_of (by decide +kernel)
set_option maxRecDepth 100000 in
theorem ck_X6_soonest : ckP m_X6_soonest := ckP_of (by decide +kernel)
set_option maxRecDepth 100000 in
theorem ck_X6_leastOwed : ckP m_X6_leastOwed := ckP_of (by decide +kernel)
set_option maxRecDepth 100000 in
theorem ck_X6_ringFrom : ckP m_X6_ringFrom := ckP_of (by decide +kernel)
set_option maxRecDepth 100000 in
theorem ck_X6_longestRing : ckP m_X6_longestRing := ckP_of (by decide +kernel)
set_option maxRecDepth 100000 in
theorem ck_X6_ends : ckP m_X6_ends := ckP_of (by decide +kernel)
set_option maxRecDepth 100000 in
theorem ck_X6_keeper : ckP m_X6_keeper := ckP_of (by decide +kernel)
set_option maxRecDepth 100000 in
theorem ck_X6_best : ckP m_X6_best := ckP_of (by decide +kernel)
set_option maxRecDepth 100000 in
theorem ck_X6_lowest : ckP m_X6_lowest := ckP_of (by decide +kernel)
set_option maxRecDepth 100000 in
theorem ck_X6_share : ckP m_X6_share := ckP_of (by decide +kernel)
set_option maxRecDepth 100000 in
theorem ck_X6_firstOther : ckP m_X6_firstOther := ckP_of (by decide +kernel)
set_option maxRecDepth 100000 in
theorem ck_X6_likeSet : ckP m_X6_likeSet := ckP_of (by decide +kernel)
set_option maxRecDepth 100000 in
theorem ck_X6_tells : ckP m_X6_tells := ckP_of (by decide +kernel)
set_option maxRecDepth 100000 in
theorem ck_X6_film : ckP m_X6_film := ckP_of (by decide +kernel)
set_option maxRecDepth 100000 in
theorem ck_X6_endsDrawn : ckP m_X6_endsDrawn := ckP_of (by decide +kernel)
set_option maxRecDepth 100000 in
theorem ck_X6_drawn : ckP m_X6_drawn := ckP_of (by decide +kernel)
set_option maxRecDepth 100000 in
theorem ck_X6_chance : ckP m_X6_chance := ckP_of (by decide +kernel)
set_option maxRecDepth 100000 in
theorem ck_X6_image : ckP m_X6_image := ckP_of (by decide +kernel)
set_option maxRecDepth 100000 in
theorem ck_X6_back : ckP m_X6_back := ckP_of (by decide +kernel)
set_option maxRecDepth 100000 in
theorem ck_X6_count : ckP m_X6_count := ckP_of (by decide +kernel)
set_option maxRecDepth 100000 in
theorem ck_X6_isSheet : ckP m_X6_isSheet := ckP_of (by decide +kernel)
set_option maxRecDepth 100000 in
theorem ck_X6_sheet : ckP m_X6_sheet := ckP_of (by decide +kernel)
set_option maxRecDepth 100000 in
theorem ck_X6_cell : ckP m_X6_cell := ckP_of (by decide +kernel)
set_option maxRecDepth 100000 in
theorem ck_X6_copy : ckP m_X6_copy := ckP_of (by decide +kernel)
set_option maxRecDepth 100000 in
theorem ck_X6_room : ckP m_X6_room := ckP_of (by decide +kernel)
set_option maxRecDepth 100000 in
theorem ck_X6_over : ckP m_X6_over := ckP_of (by decide +kernel)
set_option maxRecDepth 100000 in
theorem ck_X6_taken : ckP m_X6_taken := ckP_of (by decide +kernel)
end
section
set_option maxRecDepth 100000 in
theorem ck_L_law_0 : ((List.range 160).all fun i => ckE m_L_law (0 + i)) = true := by decide +kernel
set_option maxRecDepth 100000 in
theorem ck_L_law_1 : ((List.range 160).all fun i => ckE m_L_law (160 + i)) = true := by decide +kernel
set_option maxRecDepth 100000 in
theorem ck_L_law_2 : ((List.range 160).all fun i => ckE m_L_law (320 + i)) = true := by decide +kernel
set_option maxRecDepth 100000 in
theorem ck_L_law_3 : ((List.range 160).all fun i => ckE m_L_law (480 + i)) = true := by decide +kernel
set_option maxRecDepth 100000 in
theorem ck_L_law_4 : ((List.range 160).all fun i => ckE m_L_law (640 + i)) = true := by decide +kernel
set_option maxRecDepth 100000 in
theorem ck_L_law_5 : ((List.range 160).all fun i => ckE m_L_law (800 + i)) = true := by decide +kernel
set_option maxRecDepth 100000 in
theorem ck_L_law_6 : ((List.range 160).all fun i => ckE m_L_law (960 + i)) = true := by decide +kernel
theorem ck_L_law : ckP m_L_law := by
  intro pc hpc
  have hl : 16 * m_L_law.1.1.length = 1040 := by decide +kernel
  rw [hl] at hpc
  rcases Nat.lt_or_ge pc 160 with h0 | h0
  · have := List.all_eq_true.mp ck_L_law_0 (pc - 0) (List.mem_range.mpr (by omega))
    rwa [show 0 + (pc - 0) = pc by omega] at this
  rcases Nat.lt_or_ge pc 320 with h1 | h1
  · have := List.all_eq_true.mp ck_L_law_1 (pc - 160) (List.mem_range.mpr (by omega))
    rwa [show 160 + (pc - 160) = pc by omega] at this
  rcases Nat.lt_or_ge pc 480 with h2 | h2
  · have := List.all_eq_true.mp ck_L_law_2 (pc - 320) (List.mem_range.mpr (by omega))
    rwa [show 320 + (pc - 320) = pc by omega] at this
  rcases Nat.lt_or_ge pc 640 with h3 | h3
  · have := List.all_eq_true.mp ck_L_law_3 (pc - 480) (List.mem_range.mpr (by omega))
    rwa [show 480 + (pc - 480) = pc by omega] at this
  rcases Nat.lt_or_ge pc 800 with h4 | h4
  · have := List.all_eq_true.mp ck_L_law_4 (pc - 640) (List.mem_range.mpr (by omega))
    rwa [show 640 + (pc - 640) = pc by omega] at this
  rcases Nat.lt_or_ge pc 960 with h5 | h5
  · have := List.all_eq_true.mp ck_L_law_5 (pc - 800) (List.mem_range.mpr (by omega))
    rwa [show 800 + (pc - 800) = pc by omega] at this
  · have := List.all_eq_true.mp ck_L_law_6 (pc - 960) (List.mem_range.mpr (by omega))
    rwa [show 960 + (pc - 960) = pc by omega] at this
end
section
/-! ONE INSTRUCTION OF THE MACHINE AM -/
def nnSet (S : St) (j g k : Nat) : St := (S.1, S.2.1, up3 S.2.2.1 j g k true, S.2.2.2)
def ivSet (S : St) (j g k : Nat) (v : Int32) : St := (up3 S.1 j g k v, S.2)
/-- a new cell: 0 everywhere, nothing set; its length, where that varies -/
def mkC (S : St) (j g n : Nat) : St := (zr3 S.1 j g 0, S.2.1, zr3 S.2.2.1 j g false, (if j = 31 then upN S.2.2.2.1 g n else S.2.2.2.1), S.2.2.2.2 + 1)
/-- a call of a method of the program: the arguments, what it may make, how it goes on -/
def goC (Y : MT) (call : CT) (P : PT) (n : Nat) (L : List (Option AV)) (S : St) (fc fs : Nat) (Z : MT) (q : Option (List AV × List AV)) : Prop := match q with
  | none => False
  | some (as, rest) => cond (Nat.ble (catS rest) 8 && Nat.ble (catS as) Z.2.2.2.1)
      (cond (Nat.beq Z.1.2.2.1 0 && Nat.beq Z.1.2.2.2.1 0)
        (call Z as S fun v S' => P n L (v.toList ++ rest) S' fc fs)
        (fc + Z.1.2.2.1 ≤ Y.1.2.2.1 ∧ fs + Z.1.2.2.2.1 ≤ Y.1.2.2.2.1 ∧ call Z as S fun v S' => (Z.1.2.2.1 < 100 → S'.2.2.2.2 = S.2.2.2.2 + Z.1.2.2.1) ∧ P n L (v.toList ++ rest) S' (fc + Z.1.2.2.1) (fs + Z.1.2.2.2.1)))
      False
/-- the receiver is of the method's class -/
def rcv (Z : MT) (q : Option (List AV × List AV)) : Bool := match q with
  | some (Sum.inr (Sum.inr (some r)) :: _, _) => Nat.ble (clsP r.1) 6 && Nat.beq (clsP r.1) Z.1.2.1
  | _ => false
def chI (S : St) (j g : Nat) (i : Int32) (k : Nat) : Prop := i = nI k ∧ k < aln S.2.2.2.1 j g
/-- so few cells were made in this frame that their number is known -/
def few (fc : Nat) (h : Prop) : Prop := cond (Nat.blt fc 100) h False
def G (Y : MT) (call : CT) (K : KT) (P : PT) (i : Instr) (n t : Nat) (c : Int32) (sw : List (Int32 × Nat)) (L : List (Option AV)) (st : List AV) (S : St) (fc fs : Nat) : Prop :=
  match i with
  | .iconst _ => P n L (aI c :: st) S fc fs
  | .bipush _ => P n L (aI c :: st) S fc fs
  | .sipush _ => P n L (aI c :: st) S fc fs
  | .lconst z => P n L (aL (Int64.ofNat z.val) :: st) S fc fs
  | .aconst_null => P n L (aN :: st) S fc fs
  | .ldc ix => (match stk Y.1.2.1 ix with
    | some g => P n L (aR 70 g :: st) S fc fs
    | none => (match ick Y.1.2.1 ix with
      | some v => P n L (aI v :: st) S fc fs
      | none => False))
  | .ldc_w ix => (match ick Y.1.2.1 ix with
      | some v => P n L (aI v :: st) S fc fs
      | none => False)
  | .ldc2_w ix => (match lck Y.1.2.1 ix with
      | some v => P n L (aL v :: st) S fc fs
      | none => False)
  | .iload k => getI L k fun x => P n L (aI x :: st) S fc fs
  | .iload_n k => getI L k.val fun x => P n L (aI x :: st) S fc fs
  | .lload k => getJ L k fun x => P n L (aL x :: st) S fc fs
  | .lload_n k => getJ L k.val fun x => P n L (aL x :: st) S fc fs
  | .aload k => getA L k fun x => P n L (Sum.inr (Sum.inr x) :: st) S fc fs
  | .aload_n k => getA L k.val fun x => P n L (Sum.inr (Sum.inr x) :: st) S fc fs
  | .istore k => popI st fun x r => P n (putL L k (aI x)) r S fc fs
  | .istore_n k => popI st fun x r => P n (putL L k.val (aI x)) r S fc fs
  | .lstore k => popJ st fun x r => P n (putL L k (aL x)) r S fc fs
  | .lstore_n k => popJ st fun x r => P n (putL L k.val (aL x)) r S fc fs
  | .astore k => popR st fun j g r => P n (putL L k (aR j g)) r S fc fs
  | .astore_n k => (match st with
    | Sum.inr (Sum.inr q) :: r => P n (putL L k.val (Sum.inr (Sum.inr q))) r S fc fs
    | _ => False)
  | .iinc k _ => getI L k fun x => P n (putL L k (aI (x + c))) st S fc fs
  | .iadd => popI st fun y r => popI r fun x r => P n L (aI (x + y) :: r) S fc fs
  | .isub => popI st fun y r => popI r fun x r => P n L (aI (x - y) :: r) S fc fs
  | .imul => popI st fun y r => popI r fun x r => P n L (aI (x * y) :: r) S fc fs
  | .iand => popI st fun y r => popI r fun x r => P n L (aI (x &&& y) :: r) S fc fs
  | .ior => popI st fun y r => popI r fun x r => P n L (aI (x ||| y) :: r) S fc fs
  | .ixor => popI st fun y r => popI r fun x r => P n L (aI (x ^^^ y) :: r) S fc fs
  | .idiv => popI st fun y r => popI r fun x r => ¬ y = 0 ∧ P n L (aI (x / y) :: r) S fc fs
  | .irem => popI st fun y r => popI r fun x r => ¬ y = 0 ∧ P n L (aI (x - x / y * y) :: r) S fc fs
  | .ishl => popI st fun y r => popI r fun x r => P n L (aI (x <<< (y &&& 31)) :: r) S fc fs
  | .ishr => popI st fun y r => popI r fun x r => P n L (aI (x >>> (y &&& 31)) :: r) S fc fs
  | .iushr => popI st fun y r => popI r fun x r => P n L (aI (x.toUInt32 >>> (y.toUInt32 &&& Int32.toUInt32 31)).toInt32 :: r) S fc fs
  | .ineg => popI st fun x r => P n L (aI (-x) :: r) S fc fs
  | .i2l => popI st fun x r => P n L (aL x.toInt64 :: r) S fc fs
  | .l2i => popJ st fun x r => P n L (aI x.toInt32 :: r) S fc fs
  | .i2b => popI st fun x r => P n L (aI x.toInt8.toInt32 :: r) S fc fs
  | .i2s => popI st fun x r => P n L (aI x.toInt16.toInt32 :: r) S fc fs
  | .i2c => popI st fun x r => P n L (aI (x.toUInt32 % 65536).toInt32 :: r) S fc fs
  | .ladd => popJ st fun y r => popJ r fun x r => P n L (aL (x + y) :: r) S fc fs
  | .lsub => popJ st fun y r => popJ r fun x r => P n L (aL (x - y) :: r) S fc fs
  | .lmul => popJ st fun y r => popJ r fun x r => P n L (aL (x * y) :: r) S fc fs
  | .ldiv => popJ st fun y r => popJ r fun x r => ¬ y = 0 ∧ P n L (aL (x / y) :: r) S fc fs
  | .lrem => popJ st fun y r => popJ r fun x r => ¬ y = 0 ∧ P n L (aL (x - x / y * y) :: r) S fc fs
  | .lcmp => popJ st fun y r => popJ r fun x r => P n L (aI (lg_cmp x y) :: r) S fc fs
  | .dup => popS st fun v r => P n L (v :: v :: r) S fc fs
  | .dup2 => popS st fun v r => popS r fun u r => P n L (v :: u :: v :: u :: r) S fc fs
  | .pop => popS st fun _ r => P n L r S fc fs
  | .ifCond .eq _ => popI st fun x r => (x = 0 → P t L r S fc fs) ∧ (¬ x = 0 → P n L r S fc fs)
  | .ifCond .ne _ => popI st fun x r => (¬ x = 0 → P t L r S fc fs) ∧ (x = 0 → P n L r S fc fs)
  | .ifCond .lt _ => popI st fun x r => (x < 0 → P t L r S fc fs) ∧ (¬ x < 0 → P n L r S fc fs)
  | .ifCond .ge _ => popI st fun x r => (0 ≤ x → P t L r S fc fs) ∧ (¬ 0 ≤ x → P n L r S fc fs)
  | .ifCond .gt _ => popI st fun x r => (0 < x → P t L r S fc fs) ∧ (¬ 0 < x → P n L r S fc fs)
  | .ifCond .le _ => popI st fun x r => (x ≤ 0 → P t L r S fc fs) ∧ (¬ x ≤ 0 → P n L r S fc fs)
  | .if_icmp .eq _ => popI st fun y r => popI r fun x r => (x = y → P t L r S fc fs) ∧ (¬ x = y → P n L r S fc fs)
  | .if_icmp .ne _ => popI st fun y r => popI r fun x r => (¬ x = y → P t L r S fc fs) ∧ (x = y → P n L r S fc fs)
  | .if_icmp .lt _ => popI st fun y r => popI r fun x r => (x < y → P t L r S fc fs) ∧ (¬ x < y → P n L r S fc fs)
  | .if_icmp .ge _ => popI st fun y r => popI r fun x r => (y ≤ x → P t L r S fc fs) ∧ (¬ y ≤ x → P n L r S fc fs)
  | .if_icmp .gt _ => popI st fun y r => popI r fun x r => (y < x → P t L r S fc fs) ∧ (¬ y < x → P n L r S fc fs)
  | .if_icmp .le _ => popI st fun y r => popI r fun x r => (x ≤ y → P t L r S fc fs) ∧ (¬ x ≤ y → P n L r S fc fs)
  | .goto _ => P t L st S fc fs
  | .ifnonnull _ => (match st with
    | Sum.inr (Sum.inr none) :: r => P n L r S fc fs
    | Sum.inr (Sum.inr (some _)) :: r => P t L r S fc fs
    | _ => False)
  | .tableswitch _ _ _ _ => popI st fun x r => swP x (fun d => P d L r S fc fs) sw t
  | .lookupswitch _ _ => popI st fun x r => swP x (fun d => P d L r S fc fs) sw t
  | .getfield ix => (match fld Y.1.2.1 ix with
    | none => False
    | some (ci, k, ty, _) => popR st fun j g r => cond (Nat.beq (clsP j) ci) (match ty with
      | 1 => P n L (aL S.2.1 :: r) S fc fs
      | 2 => S.2.2.1 j g k = true ∧ P n L (Sum.inr (Sum.inr (some (frf j g k))) :: r) S fc fs
      | _ => P n L (aI (S.1 j g k) :: r) S fc fs) False)
  | .putfield ix => (match fld Y.1.2.1 ix with
    | none => False
    | some (ci, k, ty, _) => few fc (match ty with
      | 1 => popJ st fun x r => popR r fun j _ r => cond (Nat.beq (clsP j) ci) (P n L r (S.1, x, S.2.2) fc fs) False
      | 2 => popR st fun a b r => popR r fun j g r => cond (Nat.beq (clsP j) ci) (frf j g k = (a, b) ∧ P n L r (nnSet S j g k) fc fs) False
      | 3 => popI st fun x r => popR r fun j g r => cond (Nat.beq (clsP j) ci) ((x = 0 ∨ x = 1) ∧ P n L r (ivSet S j g k x) fc fs) False
      | _ => popI st fun x r => popR r fun j g r => cond (Nat.beq (clsP j) ci) (P n L r (ivSet S j g k x) fc fs) False))
  | .getstatic ix => (match sfl Y.1.2.1 ix with
    | none => False
    | some j => P n L (aR j 0 :: st) S fc fs)
  | .iaload => popI st fun i r => popR r fun j g r => cond (Nat.beq (iak j) 1 || Nat.beq (iak j) 3) (∃ k, chI S j g i k ∧ P n L (aI (S.1 j g k) :: r) S fc fs) False
  | .baload => popI st fun i r => popR r fun j g r => cond (Nat.beq (iak j) 2) (∃ k, chI S j g i k ∧ P n L (aI (S.1 j g k) :: r) S fc fs) False
  | .aaload => popI st fun i r => popR r fun j g r => cond (Nat.ble 1 (rfk j)) (∃ k, chI S j g i k ∧ S.2.2.1 j g k = true ∧ P n L (Sum.inr (Sum.inr (some (erf j k))) :: r) S fc fs) False
  | .iastore => few fc (popI st fun x r => popI r fun i r => popR r fun j g r => cond (Nat.beq (iak j) 1) (∃ k, chI S j g i k ∧ P n L r (ivSet S j g k x) fc fs) False)
  | .bastore => few fc (popI st fun x r => popI r fun i r => popR r fun j g r => cond (Nat.beq (iak j) 2) (∃ k, chI S j g i k ∧ (x = 0 ∨ x = 1) ∧ P n L r (ivSet S j g k x) fc fs) False)
  | .aastore => few fc (popR st fun a b r => popI r fun i r => popR r fun j g r => cond (Nat.ble 1 (rfk j)) (∃ k, chI S j g i k ∧ erf j k = (a, b) ∧ P n L r (nnSet S j g k) fc fs) False)
  | .arraylength => popR st fun j g r => cond (Nat.ble 1 (iak j) || Nat.ble 1 (rfk j)) (P n L (aI (nI (aln S.2.2.2.1 j g)) :: r) S fc fs) False
  | .newarray .int => few fc (popI st fun x r => ∃ (j g k : Nat), x = nI k ∧ k ≤ 1000 ∧ idOf S.2.2.2.2 = (j, g) ∧ g ≤ 100 ∧ iak j = 1 ∧ (j = 31 ∨ aln S.2.2.2.1 j g = k) ∧ fc + 1 ≤ Y.1.2.2.1 ∧ fs + k ≤ Y.1.2.2.2.1 ∧ P n L (aR j g :: r) (mkC S j g k) (fc + 1) (fs + k))
  | .newarray .boolean => few fc (popI st fun x r => ∃ (j g k : Nat), x = nI k ∧ k ≤ 1000 ∧ idOf S.2.2.2.2 = (j, g) ∧ iak j = 2 ∧ aln S.2.2.2.1 j g = k ∧ fc + 1 ≤ Y.1.2.2.1 ∧ fs + k ≤ Y.1.2.2.2.1 ∧ P n L (aR j g :: r) (mkC S j g k) (fc + 1) (fs + k))
  | .anewarray ix => (match clk Y.1.2.1 ix with
    | none => False
    | some ci => few fc <| popI st fun x r => ∃ (j g k : Nat), x = nI k ∧ k ≤ 1000 ∧ idOf S.2.2.2.2 = (j, g) ∧ ((rfk j = 1 ∧ ci = 0) ∨ (rfk j = 2 ∧ ci = 3) ∨ (rfk j = 3 ∧ ci = 4)) ∧ aln S.2.2.2.1 j g = k ∧ fc + 1 ≤ Y.1.2.2.1 ∧ fs + k ≤ Y.1.2.2.2.1 ∧ P n L (aR j g :: r) (mkC S j g k) (fc + 1) (fs + k))
  | .new ix => (match clk Y.1.2.1 ix with
    | none => False
    | some ci => (match nth vwCl ci with
      | none => False
      | some q => few fc <| ∃ (j g : Nat), idOf S.2.2.2.2 = (j, g) ∧ clsP j = ci ∧ fc + 1 ≤ Y.1.2.2.1 ∧ fs + q.2.2 ≤ Y.1.2.2.2.1 ∧ (ci = 6 → S.2.1 = 0) ∧ P n L (aR j g :: st) (mkC S j g 0) (fc + 1) (fs + q.2.2)))
  | .checkcast ix => cond (match clk Y.1.2.1 ix with
    | some 8 => true
    | _ => false) (popR st fun j g r => cond (Nat.beq (iak j) 1) (P n L (aR j g :: r) S fc fs) False) False
  | .invokevirtual ix => (match lnk Y.1.2.1 ix with
    | none => False
    | some (kd, Z, na) => (match kd with
      | 0 => cond (rcv Z (popN (na + 1) st [])) (goC Y call P n L S fc fs Z (popN (na + 1) st [])) False
      | 7 => few fc <| popR st fun j g r => cond (Nat.beq (iak j) 1 && Nat.ble (catS r) 8) (∃ (a b : Nat), idOf S.2.2.2.2 = (a, b) ∧ iak a = 1 ∧ ¬ a = 31 ∧ aln S.2.2.2.1 a b = aln S.2.2.2.1 j g ∧ fc + 1 ≤ Y.1.2.2.1 ∧ fs + aln S.2.2.2.1 j g ≤ Y.1.2.2.2.1 ∧ P n L (aR a b :: r) ((fun x y z => if x = a ∧ y = b then S.1 j g z else S.1 x y z), S.2.1, zr3 S.2.2.1 a b false, S.2.2.2.1, S.2.2.2.2 + 1) (fc + 1) (fs + aln S.2.2.2.1 j g)) False
      | 8 => popR st fun j g r => cond (Nat.beq j 70 && Nat.ble (catS r) 8) (P n L (aI (nI (strG g).length) :: r) S fc fs) False
      | 9 => popI st fun i r => popR r fun j g r => cond (Nat.beq j 70 && Nat.ble (catS r) 8) (∃ k, i = nI k ∧ k < (strG g).length ∧ P n L (aI ((strG g).getD k 0) :: r) S fc fs) False
      | 10 => popI st fun i r => popR r fun j g r => cond (Nat.beq j 70 && Nat.ble (catS r) 8) (∀ v : Int32, ((v = -1 ∧ i ∉ strG g) ∨ ∃ k, v = nI k ∧ (strG g)[k]? = some i) → P n L (aI v :: r) S fc fs) False
      | _ => False))
  | .invokestatic ix => (match lnk Y.1.2.1 ix with
    | none => False
    | some (kd, Z, na) => (match kd with
      | 1 => goC Y call P n L S fc fs Z (popN na st [])
      | 11 => goC Y call P n L S fc fs Z (popN na st [])
      | 4 => popI st fun y r => popI r fun x r => cond (Nat.ble (catS r) 8) (P n L (aI (if y < x then y else x) :: r) S fc fs) False
      | 5 => popI st fun y r => popI r fun x r => cond (Nat.ble (catS r) 8) (P n L (aI (if x < y then y else x) :: r) S fc fs) False
      | 6 => few fc <| popI st fun z r => popI r fun dp r => popR r fun a b r => popI r fun sp r => popR r fun j g r => cond (Nat.beq (iak a) 1 && Nat.beq (iak j) 1 && Nat.ble (catS r) 8) (∃ (ks kd kn : Nat), sp = nI ks ∧ dp = nI kd ∧ z = nI kn ∧ ks + kn ≤ aln S.2.2.2.1 j g ∧ kd + kn ≤ aln S.2.2.2.1 a b ∧ kn ≤ 1000 ∧ P n L r ((fun x y k => if x = a ∧ y = b ∧ kd ≤ k ∧ k < kd + kn then S.1 j g (ks + (k - kd)) else S.1 x y k), S.2) fc fs) False
      | _ => False))
  | .invokespecial ix => (match lnk Y.1.2.1 ix with
    | none => False
    | some (kd, Z, na) => (match kd with
      | 2 => cond (rcv Z (popN (na + 1) st [])) (goC Y call P n L S fc fs Z (popN (na + 1) st [])) False
      | 12 => cond (rcv Z (popN (na + 1) st [])) (goC Y call P n L S fc fs Z (popN (na + 1) st [])) False
      | 3 => popR st fun _ _ r => cond (Nat.ble (catS r) 8) (P n L r S fc fs) False
      | _ => False))
  | .ireturn => (match st with
    | [Sum.inl x] => (match Y.1.2.2.2.2 with
      | 1 => K (some (aI x)) S
      | 4 => (x = 0 ∨ x = 1) ∧ K (some (aI x)) S
      | _ => False)
    | _ => False)
  | .lreturn => (match st with
    | [Sum.inr (Sum.inl x)] => (match Y.1.2.2.2.2 with
      | 2 => K (some (aL x)) S
      | _ => False)
    | _ => False)
  | .areturn => (match st with
    | [Sum.inr (Sum.inr q)] => (match Y.1.2.2.2.2 with
      | 3 => K (some (Sum.inr (Sum.inr q))) S
      | _ => False)
    | _ => False)
  | .return_ => (match st with
    | [] => (match Y.1.2.2.2.2 with
      | 0 => K none S
      | _ => False)
    | _ => False)
  | _ => False
def F (Y : MT) (call : CT) (K : KT) (P : PT) (pc : Nat) (L : List (Option AV)) (st : List AV) (S : St) (fc fs : Nat) : Prop := match codeAt Y pc with
  | none => False
  | some (i, n, t, c, sw) => G Y call K P i n t c sw L st S fc fs
/-- the least P that the instructions allow -/
def WP (Y : MT) (call : CT) (K : KT) (pc : Nat) (L : List (Option AV)) (st : List AV) (S : St) (fc fs : Nat) : Prop :=
  ∀ P : PT, (∀ pc L st S fc fs, F Y call K P pc L st S fc fs → P pc L st S fc fs) → P pc L st S fc fs
def Call : Nat → CT
  | 0, _, _, _, _ => False
  | d + 1, Y, as, S, K => WP Y (Call d) K 0 (mkL Y.2.2.2.1 as) [] S 0 0
theorem Call.mk {d : Nat} {Y : MT} {as : List AV} {S : St} {K : KT} (h : WP Y (Call d) K 0 (mkL Y.2.2.2.1 as) [] S 0 0) : Call (d + 1) Y as S K := h
theorem Call.of {d k : Nat} {Y : MT} {as : List AV} {S : St} {K : KT} (hd : k + 1 ≤ d) (h : ∀ e, k ≤ e → ∀ P : PT, (∀ pc L st S fc fs, F Y (Call e) K P pc L st S fc fs → P pc L st S fc fs) → P 0 (mkL Y.2.2.2.1 as) [] S 0 0) : Call d Y as S K := by
  cases d with
  | zero => omega
  | succ e => exact h e (by omega)
end
section
/-! WHAT A STATE OF THE MACHINE AM IS IN THE HEAP -/
/-- what stands around: the classes' numbers, the arrays' classes (0 int[], 1 Floor[], 2 Sheet[], 3 Text[], 4 boolean[]), where the cells begin, where the static cells lie, what the static arrays hold, how long the script is -/
abbrev Env0 : Type := va_G × (Nat → ClassId) × Nat × (Nat → Nat → Nat) × (Nat → Nat → Int32) × Nat
def adr (E : Env0) (j g : Nat) : Nat := if j < 60 then E.2.2.1 + numP j g else E.2.2.2.1 j g
def cv (E : Env0) (v : AV) : Value := match v with
  | Sum.inl x => .int x
  | Sum.inr (Sum.inl x) => .long x
  | Sum.inr (Sum.inr none) => .null
  | Sum.inr (Sum.inr (some q)) => .ref (adr E q.1 q.2)
def fvl (E : Env0) (S : St) (j g k : Nat) : Value := match fty (clsP j) k with
  | 1 => .long S.2.1
  | 2 => if S.2.2.1 j g k = true then .ref (adr E (frf j g k).1 (frf j g k).2) else .null
  | _ => .int (S.1 j g k)
def el (E : Env0) (S : St) (q : Nat × Nat) : va_E :=
  if clsP q.1 < 7 then .inr (clsP q.1, (List.range (nFl (clsP q.1))).map (fvl E S q.1 q.2))
  else if iak q.1 = 2 then .inl (E.2.1 4, aln S.2.2.2.1 q.1 q.2, .inl (S.1 q.1 q.2))
  else if rfk q.1 = 0 then .inl (E.2.1 0, aln S.2.2.2.1 q.1 q.2, .inl (S.1 q.1 q.2))
  else .inl (E.2.1 (rfk q.1), aln S.2.2.2.1 q.1 q.2, .inr (.inr (.inr (.inr fun k => if S.2.2.1 q.1 q.2 k = true then some (adr E (erf q.1 k).1 (erf q.1 k).2) else none))))
def wld (E : Env0) (S : St) : va_W := (List.range S.2.2.2.2).map fun k => (E.2.2.1 + k, el E S (idOf k))
/-- a cell that is there; a static one -/
def lvP (S : St) (j g : Nat) : Prop := (j < 60 ∧ numP j g < S.2.2.2.2 ∧ idOf (numP j g) = (j, g)) ∨ (60 ≤ j ∧ j < 66 ∧ g = 0) ∨ (j = 70 ∧ g < 13)
def lvA (S : St) (v : AV) : Prop := match v with
  | Sum.inr (Sum.inr (some q)) => lvP S q.1 q.2
  | _ => True
def tysE (E : Env0) : List (ClassId × FieldType) := [(E.2.1 0, .int), (E.2.1 1, .object RX0), (E.2.1 2, .object RX3), (E.2.1 3, .object RX4), (E.2.1 4, .boolean)]
/-- the heap holds the state -/
def Rep (E : Env0) (S : St) (H : Heap) : Prop := H.size = E.2.2.1 + S.2.2.2.2 ∧ va_P E.1 vwCl (wld E S) H ∧ (∀ j, 60 ≤ j → ∀ k, S.1 j 0 k = E.2.2.2.2.1 j k) ∧ S.2.2.2.1 1000 = E.2.2.2.2.2 ∧ (∀ t, S.2.2.2.1 t ≤ 4000)
  ∧ (∀ j g k, lvP S j g → j < 60 → clsP j < 7 → fty (clsP j) k = 2 → k < nFl (clsP j) → S.2.2.1 j g k = true → lvP S (frf j g k).1 (frf j g k).2)
  ∧ (∀ j g k, lvP S j g → j < 60 → 1 ≤ rfk j → k < aln S.2.2.2.1 j g → S.2.2.1 j g k = true → lvP S (erf j k).1 (erf j k).2)
def baseA (E : Env0) : Nat → Prop := fun q => E.2.2.1 ≤ q
/-- what a state's tables and old cells say: it stays -/
def Stt (E : Env0) (X : State → Prop) (U : State) : Prop := va_K E.1 vwCl (tysE E) U
  ∧ (∀ j, 61 ≤ j → j ≤ 65 → va_Z RX5 (stN j) "[I" (.ref (E.2.2.2.1 j 0)) (baseA E) U U.heap)
  ∧ (∀ j, 60 ≤ j → j ≤ 65 → va_T .int (E.2.2.2.1 j 0) (aln (fun _ => E.2.2.2.2.2) j 0) (fun k => .int (E.2.2.2.2.1 j k)) (baseA E) U U.heap)
  ∧ va_Nw (.fieldLinkNest RX0 24 RX5 "LESSER" "[I" RX5) U ∧ va_Nw (.fieldLinkNest RX0 107 RX5 "GREATER" "[I" RX5) U ∧ va_Nw (.fieldLinkNest RX0 131 RX5 "SETS" "[I" RX5) U
  ∧ va_Nw (.methodLinkNest RX5 34 yX1_init RX5) U ∧ va_Nw (.methodLinkNest RX5 41 yX3_init RX5) U ∧ va_Nw (.methodLinkNest RX0 72 yX5_within RX5) U
  ∧ va_Nw (.castable "[I" "java/lang/Cloneable") U ∧ va_AO RX0 U ∧ va_AO RX3 U ∧ va_AO RX4 U ∧ E.2.2.1 ≤ U.heap.size ∧ E.2.2.2.2.2 ≤ 4000 ∧ X U
theorem numId (n : Nat) : numP (idOf n).1 (idOf n).2 = n := by
  by_cases h : n < 77
  · have hall : ∀ n, n < 77 → numP (idOf n).1 (idOf n).2 = n := by decide +kernel
    exact hall n h
  · have hn : nth idsT n = none := by
      rw [nth_get]
      exact List.getElem?_eq_none (by have : idsT.length = 77 := by decide +kernel
                                      omega)
    have hi : idOf n = (if (n - 77) % 3 = 0 then 31 else if (n - 77) % 3 = 1 then 30 else 32, (n - 77) / 3 + 1) := by simp [idOf, hn]
    rw [hi]
    dsimp only
    split
    · simp only [numP]
      rw [if_neg (by omega)]
      omega
    · split
      · simp only [numP]
        rw [if_neg (by omega)]
        omega
      · simp only [numP]
        rw [if_neg (by omega)]
        omega
theorem idInj {a b : Nat} (h : idOf a = idOf b) : a = b := by
  have h1 := numId a
  rw [h, numId b] at h1
  exact h1.symm
theorem idLt (n : Nat) : (idOf n).1 < 60 := by
  by_cases h : n < 77
  · have hall : ∀ n, n < 77 → (idOf n).1 < 60 := by decide +kernel
    exact hall n h
  · have hn : nth idsT n = none := by
      rw [nth_get]
      exact List.getElem?_eq_none (by have : idsT.length = 77 := by decide +kernel
                                      omega)
    have hi : idOf n = (if (n - 77) % 3 = 0 then 31 else if (n - 77) % 3 = 1 then 30 else 32, (n - 77) / 3 + 1) := by simp [idOf, hn]
    rw [hi]
    dsimp only
    split
    · decide
    · split <;> decide
theorem id40 (n g : Nat) (h : idOf n = (40, g)) : g = 0 := by
  by_cases hn : n < 77
  · have hall : ∀ n, n < 77 → (idOf n).1 = 40 → (idOf n).2 = 0 := by decide +kernel
    have := hall n hn (by rw [h])
    rw [h] at this
    exact this
  · have hn : nth idsT n = none := by
      rw [nth_get]
      exact List.getElem?_eq_none (by have : idsT.length = 77 := by decide +kernel
                                      omega)
    have hi : idOf n = (if (n - 77) % 3 = 0 then 31 else if (n - 77) % 3 = 1 then 30 else 32, (n - 77) / 3 + 1) := by simp [idOf, hn]
    rw [hi] at h
    have h1 := congrArg Prod.fst h
    dsimp only at h1
    split at h1
    · cases h1
    · split at h1 <;> cases h1
theorem wld_get {E : Env0} {S : St} {j g : Nat} (h : numP j g < S.2.2.2.2) (hi : idOf (numP j g) = (j, g)) : (wld E S)[numP j g]? = some (E.2.2.1 + numP j g, el E S (j, g)) := by
  simp [wld, List.getElem?_map, List.getElem?_range h, hi]
theorem wld_len {E : Env0} {S : St} : (wld E S).length = S.2.2.2.2 := by simp [wld]
theorem wld_D (E : Env0) (S : St) : va_D (baseA E) (wld E S) := by
  have key : ∀ (k : Nat) (q : Nat × va_E), (wld E S)[k]? = some q → q.1 = E.2.2.1 + k := by
    intro k q h
    have hk : k < (wld E S).length := (List.getElem?_eq_some_iff.mp h).1
    rw [wld_len] at hk
    simp only [wld, List.getElem?_map, List.getElem?_range hk, Option.map_some, Option.some.injEq] at h
    rw [← h]
  refine ⟨fun i j p q hi hj hpq => ?_, fun k q hk => ?_⟩
  · have h1 := key i p hi
    have h2 := key j q hj
    omega
  · rw [key k q hk]
    exact Nat.le_add_right _ _
/-- one cell changes -/
theorem wld_set {E : Env0} {S S' : St} {j g : Nat} (h : numP j g < S.2.2.2.2) (hc : S'.2.2.2.2 = S.2.2.2.2) (ho : ∀ k, k ≠ numP j g → k < S.2.2.2.2 → el E S' (idOf k) = el E S (idOf k)) (hi : idOf (numP j g) = (j, g)) : (wld E S).set (numP j g) (E.2.2.1 + numP j g, el E S' (j, g)) = wld E S' := by
  apply List.ext_getElem?
  intro k
  by_cases hk : k = numP j g
  · subst hk
    rw [List.getElem?_set_self (by rw [wld_len]; exact h), wld_get (by rw [hc]; exact h) hi]
  · rw [List.getElem?_set_ne (fun z => hk z.symm)]
    by_cases hl : k < S.2.2.2.2
    · simp [wld, List.getElem?_map, hc, List.getElem?_range hl, ho k hk hl]
    · rw [List.getElem?_eq_none (by rw [wld_len]; omega), List.getElem?_eq_none (by rw [wld_len]; omega)]
/-- one cell comes -/
theorem wld_push {E : Env0} {S S' : St} {q : Nat × Nat} (hq : idOf S.2.2.2.2 = q) (hc : S'.2.2.2.2 = S.2.2.2.2 + 1) (ho : ∀ k, k < S.2.2.2.2 → el E S' (idOf k) = el E S (idOf k)) : wld E S ++ [(E.2.2.1 + S.2.2.2.2, el E S' q)] = wld E S' := by
  have h1 : wld E S' = ((List.range S.2.2.2.2).map fun k => (E.2.2.1 + k, el E S' (idOf k))) ++ [(E.2.2.1 + S.2.2.2.2, el E S' q)] := by
    simp only [wld, hc, List.range_succ, List.map_append, List.map_cons, List.map_nil, hq]
  rw [h1]
  refine congrArg (· ++ _) (List.map_congr_left fun k hk => ?_)
  rw [ho k (List.mem_range.mp hk)]
theorem lvP.up {S S' : St} {j g : Nat} (h : lvP S j g) (hc : S.2.2.2.2 ≤ S'.2.2.2.2) : lvP S' j g := by
  rcases h with ⟨h1, h2, h3⟩ | h
  · exact Or.inl ⟨h1, Nat.lt_of_lt_of_le h2 hc, h3⟩
  · exact Or.inr h
theorem lvA.up {S S' : St} {v : AV} (h : lvA S v) (hc : S.2.2.2.2 ≤ S'.2.2.2.2) : lvA S' v := by
  unfold lvA at h ⊢
  split
  · exact lvP.up h hc
  · trivial
theorem lvP.in {S : St} {j g : Nat} (h : lvP S j g) (hj : j < 60) : numP j g < S.2.2.2.2 ∧ idOf (numP j g) = (j, g) := by
  rcases h with ⟨-, h2, h3⟩ | ⟨h, -⟩ | ⟨h, -⟩
  · exact ⟨h2, h3⟩
  · omega
  · omega
/-- the ints of one cell: the others' cells stay -/
theorem el_iv {E : Env0} {S : St} {j g k : Nat} {v : Int32} {q : Nat × Nat} (h : q ≠ (j, g)) : el E (ivSet S j g k v) q = el E S q := by
  have hne : ¬ (q.1 = j ∧ q.2 = g) := fun z => h (Prod.ext z.1 z.2)
  have h1 : ∀ z, (ivSet S j g k v).1 q.1 q.2 z = S.1 q.1 q.2 z := fun z => by
    simp only [ivSet, up3]
    rw [if_neg (fun y => hne ⟨y.1, y.2.1⟩)]
  have h2 : (ivSet S j g k v).1 q.1 q.2 = S.1 q.1 q.2 := funext h1
  have h3 : fvl E (ivSet S j g k v) q.1 q.2 = fvl E S q.1 q.2 := funext fun z => by
    unfold fvl
    split
    · rfl
    · rfl
    · rw [h1]
  unfold el
  rw [h2, h3]
  rfl
theorem el_nn {E : Env0} {S : St} {j g k : Nat} {q : Nat × Nat} (h : q ≠ (j, g)) : el E (nnSet S j g k) q = el E S q := by
  have hne : ¬ (q.1 = j ∧ q.2 = g) := fun z => h (Prod.ext z.1 z.2)
  have h1 : ∀ z, (nnSet S j g k).2.2.1 q.1 q.2 z = S.2.2.1 q.1 q.2 z := fun z => by
    simp only [nnSet, up3]
    rw [if_neg (fun y => hne ⟨y.1, y.2.1⟩)]
  have h3 : fvl E (nnSet S j g k) q.1 q.2 = fvl E S q.1 q.2 := funext fun z => by
    unfold fvl
    split
    · rfl
    · rw [h1]
    · rfl
  unfold el
  rw [h3]
  simp only [h1]
  rfl
end
section
/-! THE LOCALS -/
theorem good_back {w : Cond} (h : (w.onTables && w.keeps) = true ∨ ∃ ty, w = .arrayClass ty) : goodWord w = true := by
  rcases h with h | ⟨ty, rfl⟩
  · cases w <;> first | rfl | exact h
  · rfl
theorem ALLW_of {ws : List Cond} (h : GoodIn lw_tbl ws) : ∀ w ∈ ws, w ∈ ALLW := fun w hw => List.mem_filter.mpr ⟨(h w hw).1, good_back (h w hw).2⟩
def lvl (E : Env0) : List (Option AV) → Nat → List (Nat × Value)
  | [], _ => []
  | none :: l, n => lvl E l (n + 1)
  | some v :: l, n => (n, cv E v) :: lvl E l (n + 1)
theorem lvl_mem {E : Env0} : ∀ (L : List (Option AV)) (n : Nat) (q : Nat × Value), q ∈ lvl E L n ↔ ∃ k v, nth L k = some (some v) ∧ q = (n + k, cv E v)
  | [], n, q => by simp [lvl, nth]
  | none :: l, n, q => by
    rw [lvl, lvl_mem l (n + 1) q]
    constructor
    · rintro ⟨k, v, h, rfl⟩
      exact ⟨k + 1, v, h, by rw [show n + 1 + k = n + (k + 1) by omega]⟩
    · rintro ⟨k, v, h, rfl⟩
      cases k with
      | zero => simp [nth] at h
      | succ k => exact ⟨k, v, h, by rw [show n + 1 + k = n + (k + 1) by omega]⟩
  | some u :: l, n, q => by
    rw [lvl, List.mem_cons, lvl_mem l (n + 1) q]
    constructor
    · rintro (rfl | ⟨k, v, h, rfl⟩)
      · exact ⟨0, u, rfl, rfl⟩
      · exact ⟨k + 1, v, h, by rw [show n + 1 + k = n + (k + 1) by omega]⟩
    · rintro ⟨k, v, h, rfl⟩
      cases k with
      | zero =>
        simp only [nth, Option.some.injEq] at h
        subst h
        exact Or.inl rfl
      | succ k => exact Or.inr ⟨k, v, h, by rw [show n + 1 + k = n + (k + 1) by omega]⟩
def isJ (v : AV) : Bool := match v with
  | Sum.inr (Sum.inl _) => true
  | _ => false
theorem cv_cat {E : Env0} {v : AV} : (cv E v).category = 2 ↔ isJ v = true := by
  rcases v with x | x | x | x <;> simp [cv, isJ, Value.category]
theorem putL_len : ∀ (L : List (Option AV)) (i : Nat) (v : AV), (putL L i v).length = L.length
  | [], _, _ => rfl
  | a :: l, 0, v => by
    unfold putL
    split
    · cases l <;> rfl
    · rfl
  | a :: l, 1, v => by
    simp only [putL, List.length_cons]
    rw [putL_len l 0 v]
  | a :: l, n + 2, v => by
    simp only [putL, List.length_cons]
    rw [putL_len l (n + 1) v]
theorem putL_nth : ∀ (L : List (Option AV)) (i : Nat) (v u : AV) (k : Nat), nth (putL L i v) k = some (some u) →
    (k = i ∧ u = v) ∨ (k ≠ i ∧ nth L k = some (some u) ∧ ¬ (k + 1 = i ∧ isJ u = true) ∧ ¬ (isJ v = true ∧ k = i + 1))
  | [], _, _, _, _, h => by simp [putL, nth] at h
  | a :: l, 0, v, u, 0, h => by
    left
    refine ⟨rfl, ?_⟩
    unfold putL at h
    split at h <;> simpa [nth, eq_comm] using h
  | a :: l, 0, v, u, k + 1, h => by
    right
    refine ⟨by omega, ?_, by omega, ?_⟩
    · unfold putL at h
      split at h
      · cases l with
        | nil => simp [nth] at h
        | cons b t =>
          cases k with
          | zero => simp [nth] at h
          | succ k => exact h
      · exact h
    · rintro ⟨hv, hk⟩
      have hk : k = 0 := by omega
      subst hk
      rcases v with x | x | x
      · simp [isJ] at hv
      · cases l with
        | nil => simp [putL, nth] at h
        | cons b t => simp [putL, nth] at h
      · simp [isJ] at hv
  | a :: l, 1, v, u, 0, h => by
    right
    simp only [putL, nth] at h
    refine ⟨by omega, ?_, ?_, by omega⟩
    · rcases a with _ | x | x | x <;> first | exact h | (simp at h; done)
    · rintro ⟨-, hu⟩
      rcases a with _ | x | x | x <;> simp at h
      · subst h
        simp [isJ] at hu
      · subst h
        simp [isJ] at hu
  | a :: l, 1, v, u, k + 1, h => by
    simp only [putL, nth] at h
    rcases putL_nth l 0 v u k h with ⟨h1, h2⟩ | ⟨h1, h2, h3, h4⟩
    · exact Or.inl ⟨by omega, h2⟩
    · exact Or.inr ⟨by omega, h2, fun z => by omega, fun z => h4 ⟨z.1, by omega⟩⟩
  | a :: l, n + 2, v, u, 0, h => by
    simp only [putL, nth] at h
    exact Or.inr ⟨by omega, h, by omega, by omega⟩
  | a :: l, n + 2, v, u, k + 1, h => by
    simp only [putL, nth] at h
    rcases putL_nth l (n + 1) v u k h with ⟨h1, h2⟩ | ⟨h1, h2, h3, h4⟩
    · exact Or.inl ⟨by omega, h2⟩
    · exact Or.inr ⟨by omega, h2, fun z => h3 ⟨by omega, z.2⟩, fun z => h4 ⟨z.1, by omega⟩⟩
def LokL (E : Env0) (ls : Array Slot) (nL : Nat) (L : List (Option AV)) : Prop := lv_has ls nL (lvl E L 0) ∧ L.length = nL
theorem LokL.at {E : Env0} {ls : Array Slot} {nL : Nat} {L : List (Option AV)} (h : LokL E ls nL L) {i : Nat} {v : AV} (hv : nth L i = some (some v)) : ls[i]? = some (.val (cv E v)) := by
  have := h.1.2.2 (i, cv E v) ((lvl_mem L 0 _).mpr ⟨i, v, hv, by simp⟩)
  exact this
theorem lvl_at {E : Env0} : ∀ (L : List (Option AV)) (i n : Nat) (v : AV), nth L i = some (some v) → ∃ k : Nat, (lvl E L n)[k]? = some (n + i, cv E v) := by
  intro L i n v h
  exact List.getElem?_of_mem ((lvl_mem L n _).mpr ⟨i, v, h, rfl⟩)
/-- behind a store of one word -/
theorem LokL.put1 {E : Env0} {ls ls' : Array Slot} {nL : Nat} {L : List (Option AV)} {i : Nat} {v : AV} (h : LokL E ls nL L) (hv : isJ v = false) (h' : lv_has ls' nL ((i, cv E v) :: (lvl E L 0).filter (fun q => !(q.1 == i) && !(q.1 + 1 == i && q.2.category == 2)))) : LokL E ls' nL (putL L i v) := by
  refine ⟨⟨h'.1, h'.2.1, fun q hq => ?_⟩, by rw [putL_len]; exact h.2⟩
  obtain ⟨k, u, hk, rfl⟩ := (lvl_mem _ _ _).mp hq
  rcases putL_nth L i v u k hk with ⟨h1, h2⟩ | ⟨h1, h2, h3, h4⟩
  · subst h1; subst h2
    exact h'.2.2 (0 + k, cv E u) (by simp)
  · refine h'.2.2 _ (List.mem_cons_of_mem _ (List.mem_filter.mpr ⟨(lvl_mem L 0 _).mpr ⟨k, u, h2, rfl⟩, ?_⟩))
    simp only [Nat.zero_add, Bool.and_eq_true, Bool.not_eq_true', beq_eq_false_iff_ne, ne_eq, Bool.and_eq_false_iff]
    refine ⟨h1, ?_⟩
    by_cases hk : k + 1 = i
    · right
      intro hcat
      exact h3 ⟨hk, cv_cat.mp hcat⟩
    · exact Or.inl hk
theorem LokL.put2 {E : Env0} {ls ls' : Array Slot} {nL : Nat} {L : List (Option AV)} {i : Nat} {v : AV} (h : LokL E ls nL L) (hv : isJ v = true) (h' : lv_has ls' nL ((i, cv E v) :: (lvl E L 0).filter (fun q => !(q.1 == i) && (!(q.1 == i + 1) && !(q.1 + 1 == i && q.2.category == 2))))) : LokL E ls' nL (putL L i v) := by
  refine ⟨⟨h'.1, h'.2.1, fun q hq => ?_⟩, by rw [putL_len]; exact h.2⟩
  obtain ⟨k, u, hk, rfl⟩ := (lvl_mem _ _ _).mp hq
  rcases putL_nth L i v u k hk with ⟨h1, h2⟩ | ⟨h1, h2, h3, h4⟩
  · subst h1; subst h2
    exact h'.2.2 (0 + k, cv E u) (by simp)
  · refine h'.2.2 _ (List.mem_cons_of_mem _ (List.mem_filter.mpr ⟨(lvl_mem L 0 _).mpr ⟨k, u, h2, rfl⟩, ?_⟩))
    simp only [Nat.zero_add, Bool.and_eq_true, Bool.not_eq_true', beq_eq_false_iff_ne, ne_eq, Bool.and_eq_false_iff]
    refine ⟨h1, fun z => h4 ⟨hv, z⟩, ?_⟩
    by_cases hk : k + 1 = i
    · right
      intro hcat
      exact h3 ⟨hk, cv_cat.mp hcat⟩
    · exact Or.inl hk
theorem lvs_put {S : St} {L : List (Option AV)} {i : Nat} {v : AV} (h : ∀ k u, nth L k = some (some u) → lvA S u) (hv : lvA S v) : ∀ k u, nth (putL L i v) k = some (some u) → lvA S u := by
  intro k u hk
  rcases putL_nth L i v u k hk with ⟨-, h2⟩ | ⟨-, h2, -⟩
  · rw [h2]; exact hv
  · exact h k u h2
end
section
/-! SOUNDNESS: an instruction of AM is one of the machine -/
/-- where a method stands -/
def Ctx (E : Env0) (X : State → Prop) (Y : MT) (d : Nat) (p : Program) (R : Room) (s : State) (m : MethodId) (args : Array Value) (meth : Method) (c : Code) : Prop :=
  p.tables.exec = Jvm.exec ∧ c.code = Y.2.2.1 ∧ c.maxLocals = Y.2.2.2.1 ∧ s.vm.findClass (own8 Y.1.2.1) = some m.cls ∧ (∀ w ∈ ALLW, w.before args s = true) ∧ ckP Y ∧ Stt E X s ∧ d + 9 ≤ R.frames ∧ 64 * d + 664 ≤ R.locals ∧ Y.1.2.2.1 ≤ R.cells ∧ Y.1.2.2.2.1 ≤ R.slots ∧ (Y.2.1.name = "<init>" → meth.name = "<init>")
/-- what AM's place means -/
def PS (E : Env0) (Y : MT) (n0 : Nat) (p : Program) (l : Launch) (e : Env) (R : Room) (s : State) (m : MethodId) (args : Array Value) (below : List Frame) (meth : Method) (c : Code) (Q : State → Prop) : PT := fun pc L st S fc fs =>
  ∀ (H : Heap) (locs : List Loc) (ls : Array Slot), Rep E S H → LokL E ls Y.2.2.2.1 L → (∀ k v, nth L k = some (some v) → lvA S v) → (∀ v ∈ st, lvA S v) → va_S (baseA E) s.heap H locs → n0 ≤ S.2.2.2.2 → fc ≤ Y.1.2.2.1 → fs ≤ Y.1.2.2.2.1 → (fc < 100 → s.heap.size = E.2.2.1 + n0 ∧ S.2.2.2.2 = n0 + fc) →
    W p l e R s m args below meth c H locs fc fs Q (F0 m pc ls (st.map (cv E)))
section SND
variable {E : Env0} {X : State → Prop} {Y : MT} {d n0 : Nat} {p : Program} {l : Launch} {e : Env} {R : Room} {s : State} {m : MethodId} {args : Array Value} {below : List Frame} {meth : Method} {c : Code} {Q : State → Prop}
variable {pc t fc fs : Nat} {L : List (Option AV)} {st : List AV} {S : St}
theorem lv1 {v : AV} {st : List AV} (hv : lvA S v) (h : ∀ u ∈ st, lvA S u) : ∀ u ∈ v :: st, lvA S u := fun u hu => (List.mem_cons.mp hu).elim (fun z => z ▸ hv) (h u)
theorem lvt {v : AV} {st : List AV} (h : ∀ u ∈ v :: st, lvA S u) : ∀ u ∈ st, lvA S u := fun u hu => h u (List.mem_cons_of_mem _ hu)
theorem lvh {v : AV} {st : List AV} (h : ∀ u ∈ v :: st, lvA S u) : lvA S v := h v List.mem_cons_self
/-- a row that puts a number on the stack -/
theorem s_push {v : AV} {n : Nat} (hv : lvA S v) (hW : ∀ {H : Heap} {locs : List Loc} {ls : Array Slot}, W p l e R s m args below meth c H locs fc fs Q (F0 m n ls (cv E v :: st.map (cv E))) → W p l e R s m args below meth c H locs fc fs Q (F0 m pc ls (st.map (cv E))))
    (h : PS E Y n0 p l e R s m args below meth c Q n L (v :: st) S fc fs) : PS E Y n0 p l e R s m args below meth c Q pc L st S fc fs :=
  fun H locs ls h1 h2 h3 h4 h5 h6 h7 h8 h9 => hW (h H locs ls h1 h2 h3 (lv1 hv h4) h5 h6 h7 h8 h9)
theorem s_iconst (C : Ctx E X Y d p R s m args meth c) {z : Int} {x : Int32} (hd : decode Y.2.2.1 pc = .ok (.iconst z, 1)) (hx : Int32.ofInt z = x) (h : PS E Y n0 p l e R s m args below meth c Q (pc + 1) L (aI x :: st) S fc fs) : PS E Y n0 p l e R s m args below meth c Q pc L st S fc fs :=
  s_push (v := aI x) trivial (fun k => lv_iconst C.1 C.2.1 hd hx k) h
theorem s_bipush (C : Ctx E X Y d p R s m args meth c) {z : Int} {x : Int32} (hd : decode Y.2.2.1 pc = .ok (.bipush z, 2)) (hx : (Int8.ofInt z).toInt32 = x) (h : PS E Y n0 p l e R s m args below meth c Q (pc + 2) L (aI x :: st) S fc fs) : PS E Y n0 p l e R s m args below meth c Q pc L st S fc fs :=
  s_push (v := aI x) trivial (fun k => lv_bipush C.1 C.2.1 hd hx k) h
theorem s_sipush (C : Ctx E X Y d p R s m args meth c) {z : Int} {x : Int32} (hd : decode Y.2.2.1 pc = .ok (.sipush z, 3)) (hx : (Int16.ofInt z).toInt32 = x) (h : PS E Y n0 p l e R s m args below meth c Q (pc + 3) L (aI x :: st) S fc fs) : PS E Y n0 p l e R s m args below meth c Q pc L st S fc fs :=
  s_push (v := aI x) trivial (fun k => lv_sipush C.1 C.2.1 hd hx k) h
theorem s_lconst (C : Ctx E X Y d p R s m args meth c) {z : Fin 2} (hd : decode Y.2.2.1 pc = .ok (.lconst z, 1)) (h : PS E Y n0 p l e R s m args below meth c Q (pc + 1) L (aL (Int64.ofNat z.val) :: st) S fc fs) : PS E Y n0 p l e R s m args below meth c Q pc L st S fc fs :=
  s_push (v := aL (Int64.ofNat z.val)) trivial (fun k => lv_lconst C.1 C.2.1 hd rfl k) h
theorem s_null (C : Ctx E X Y d p R s m args meth c) (hd : decode Y.2.2.1 pc = .ok (.aconst_null, 1)) (h : PS E Y n0 p l e R s m args below meth c Q (pc + 1) L (aN :: st) S fc fs) : PS E Y n0 p l e R s m args below meth c Q pc L st S fc fs :=
  s_push (v := aN) trivial (fun k => lv_null C.1 C.2.1 hd k) h
theorem ickW {own idx : Nat} {v : Int32} (h : ick own idx = some v) : Jvm.Cond.constant (own8 own) idx v ∈ ALLW := by
  unfold ick at h
  split at h
  · cases h
  · rename_i l hl
    exact ALLW_of (ws := icwords own idx v) (fun w hw => icW_ok w (allT_in (f := icwords) hl h hw)) _ (by simp [icwords])
theorem lckW {own idx : Nat} {v : Int64} (h : lck own idx = some v) : Jvm.Cond.constantLong (own8 own) idx v ∈ ALLW := by
  unfold lck at h
  split at h
  · cases h
  · rename_i l hl
    exact ALLW_of (ws := lcwords own idx v) (fun w hw => lcW_ok w (allT_in (f := lcwords) hl h hw)) _ (by simp [lcwords])
theorem s_ldcI (C : Ctx E X Y d p R s m args meth c) {ix : Nat} {v : Int32} (hd : decode Y.2.2.1 pc = .ok (.ldc ix, 2)) (hv : ick Y.1.2.1 ix = some v) (h : PS E Y n0 p l e R s m args below meth c Q (pc + 2) L (aI v :: st) S fc fs) : PS E Y n0 p l e R s m args below meth c Q pc L st S fc fs :=
  s_push (v := aI v) trivial (fun k => lv_ldc C.1 C.2.1 C.2.2.2.1 (C.2.2.2.2.1 _ (ickW hv)) hd k) h
theorem s_ldcw (C : Ctx E X Y d p R s m args meth c) {ix : Nat} {v : Int32} (hd : decode Y.2.2.1 pc = .ok (.ldc_w ix, 3)) (hv : ick Y.1.2.1 ix = some v) (h : PS E Y n0 p l e R s m args below meth c Q (pc + 3) L (aI v :: st) S fc fs) : PS E Y n0 p l e R s m args below meth c Q pc L st S fc fs :=
  s_push (v := aI v) trivial (fun k => lv_ldcw C.1 C.2.1 C.2.2.2.1 (C.2.2.2.2.1 _ (ickW hv)) hd k) h
theorem s_ldc2 (C : Ctx E X Y d p R s m args meth c) {ix : Nat} {v : Int64} (hd : decode Y.2.2.1 pc = .ok (.ldc2_w ix, 3)) (hv : lck Y.1.2.1 ix = some v) (h : PS E Y n0 p l e R s m args below meth c Q (pc + 3) L (aL v :: st) S fc fs) : PS E Y n0 p l e R s m args below meth c Q pc L st S fc fs :=
  s_push (v := aL v) trivial (fun k => lv_ldc2 C.1 C.2.1 C.2.2.2.1 (C.2.2.2.2.1 _ (lckW hv)) hd k) h
/-- a row that reads a local -/
theorem s_load {v : AV} {n i : Nat} (hv : nth L i = some (some v)) (hW : ∀ {H : Heap} {locs : List Loc} {ls : Array Slot}, ls[i]? = some (.val (cv E v)) → W p l e R s m args below meth c H locs fc fs Q (F0 m n ls (cv E v :: st.map (cv E))) → W p l e R s m args below meth c H locs fc fs Q (F0 m pc ls (st.map (cv E))))
    (h : PS E Y n0 p l e R s m args below meth c Q n L (v :: st) S fc fs) : PS E Y n0 p l e R s m args below meth c Q pc L st S fc fs :=
  fun H locs ls h1 h2 h3 h4 h5 h6 h7 h8 h9 => hW (h2.at hv) (h H locs ls h1 h2 h3 (lv1 (h3 i v hv) h4) h5 h6 h7 h8 h9)
theorem getI_of {i : Nat} {k : Int32 → Prop} (h : getI L i k) : ∃ x, nth L i = some (some (aI x)) ∧ k x := by
  unfold getI at h
  split at h
  · exact ⟨_, by assumption, h⟩
  · exact h.elim
theorem getJ_of {i : Nat} {k : Int64 → Prop} (h : getJ L i k) : ∃ x, nth L i = some (some (aL x)) ∧ k x := by
  unfold getJ at h
  split at h
  · exact ⟨_, by assumption, h⟩
  · exact h.elim
theorem getA_of {i : Nat} {k : Option (Nat × Nat) → Prop} (h : getA L i k) : ∃ x, nth L i = some (some (Sum.inr (Sum.inr x))) ∧ k x := by
  unfold getA at h
  split at h
  · exact ⟨_, by assumption, h⟩
  · exact h.elim
theorem s_iload (C : Ctx E X Y d p R s m args meth c) {i : Nat} (hd : decode Y.2.2.1 pc = .ok (.iload i, 2)) (h : getI L i fun x => PS E Y n0 p l e R s m args below meth c Q (pc + 2) L (aI x :: st) S fc fs) : PS E Y n0 p l e R s m args below meth c Q pc L st S fc fs := by
  obtain ⟨x, hx, h⟩ := getI_of h
  exact s_load hx (fun hl k => lv_iload C.1 C.2.1 hd hl k) h
theorem s_iload_n (C : Ctx E X Y d p R s m args meth c) {i : Fin 4} (hd : decode Y.2.2.1 pc = .ok (.iload_n i, 1)) (h : getI L i.val fun x => PS E Y n0 p l e R s m args below meth c Q (pc + 1) L (aI x :: st) S fc fs) : PS E Y n0 p l e R s m args below meth c Q pc L st S fc fs := by
  obtain ⟨x, hx, h⟩ := getI_of h
  exact s_load hx (fun hl k => lv_iload_n C.1 C.2.1 hd rfl hl k) h
theorem s_lload (C : Ctx E X Y d p R s m args meth c) {i : Nat} (hd : decode Y.2.2.1 pc = .ok (.lload i, 2)) (h : getJ L i fun x => PS E Y n0 p l e R s m args below meth c Q (pc + 2) L (aL x :: st) S fc fs) : PS E Y n0 p l e R s m args below meth c Q pc L st S fc fs := by
  obtain ⟨x, hx, h⟩ := getJ_of h
  exact s_load hx (fun hl k => lv_lload C.1 C.2.1 hd hl k) h
theorem s_lload_n (C : Ctx E X Y d p R s m args meth c) {i : Fin 4} (hd : decode Y.2.2.1 pc = .ok (.lload_n i, 1)) (h : getJ L i.val fun x => PS E Y n0 p l e R s m args below meth c Q (pc + 1) L (aL x :: st) S fc fs) : PS E Y n0 p l e R s m args below meth c Q pc L st S fc fs := by
  obtain ⟨x, hx, h⟩ := getJ_of h
  exact s_load hx (fun hl k => lv_lload_n C.1 C.2.1 hd rfl hl k) h
theorem s_aload (C : Ctx E X Y d p R s m args meth c) {i : Nat} (hd : decode Y.2.2.1 pc = .ok (.aload i, 2)) (h : getA L i fun x => PS E Y n0 p l e R s m args below meth c Q (pc + 2) L (Sum.inr (Sum.inr x) :: st) S fc fs) : PS E Y n0 p l e R s m args below meth c Q pc L st S fc fs := by
  obtain ⟨x, hx, h⟩ := getA_of h
  rcases x with _ | x
  · exact s_load hx (fun hl k => lv_aloadN C.1 C.2.1 hd hl k) h
  · exact s_load hx (fun hl k => lv_aload C.1 C.2.1 hd hl k) h
theorem s_aload_n (C : Ctx E X Y d p R s m args meth c) {i : Fin 4} (hd : decode Y.2.2.1 pc = .ok (.aload_n i, 1)) (h : getA L i.val fun x => PS E Y n0 p l e R s m args below meth c Q (pc + 1) L (Sum.inr (Sum.inr x) :: st) S fc fs) : PS E Y n0 p l e R s m args below meth c Q pc L st S fc fs := by
  obtain ⟨x, hx, h⟩ := getA_of h
  rcases x with _ | x
  · exact s_load hx (fun hl k => lv_aload_nN C.1 C.2.1 hd rfl hl k) h
  · exact s_load hx (fun hl k => lv_aload_n C.1 C.2.1 hd rfl hl k) h
/-- a row that writes a local -/
theorem s_store {v : AV} {n i : Nat} {r : List AV} (hj : isJ v = false) (hW : ∀ {H : Heap} {locs : List Loc} {ls : Array Slot}, LokL E ls Y.2.2.2.1 L → (∀ ls' : Array Slot, lv_has ls' Y.2.2.2.1 ((i, cv E v) :: (lvl E L 0).filter (fun q => !(q.1 == i) && !(q.1 + 1 == i && q.2.category == 2))) → W p l e R s m args below meth c H locs fc fs Q (F0 m n ls' (r.map (cv E)))) → W p l e R s m args below meth c H locs fc fs Q (F0 m pc ls (cv E v :: r.map (cv E))))
    (h : PS E Y n0 p l e R s m args below meth c Q n (putL L i v) r S fc fs) : PS E Y n0 p l e R s m args below meth c Q pc L (v :: r) S fc fs :=
  fun H locs ls h1 h2 h3 h4 h5 h6 h7 h8 h9 => hW h2 (fun ls' h' => h H locs ls' h1 (h2.put1 hj h') (lvs_put h3 (lvh h4)) (lvt h4) h5 h6 h7 h8 h9)
theorem s_store2 {v : AV} {n i : Nat} {r : List AV} (hj : isJ v = true) (hW : ∀ {H : Heap} {locs : List Loc} {ls : Array Slot}, LokL E ls Y.2.2.2.1 L → (∀ ls' : Array Slot, lv_has ls' Y.2.2.2.1 ((i, cv E v) :: (lvl E L 0).filter (fun q => !(q.1 == i) && (!(q.1 == i + 1) && !(q.1 + 1 == i && q.2.category == 2)))) → W p l e R s m args below meth c H locs fc fs Q (F0 m n ls' (r.map (cv E)))) → W p l e R s m args below meth c H locs fc fs Q (F0 m pc ls (cv E v :: r.map (cv E))))
    (h : PS E Y n0 p l e R s m args below meth c Q n (putL L i v) r S fc fs) : PS E Y n0 p l e R s m args below meth c Q pc L (v :: r) S fc fs :=
  fun H locs ls h1 h2 h3 h4 h5 h6 h7 h8 h9 => hW h2 (fun ls' h' => h H locs ls' h1 (h2.put2 hj h') (lvs_put h3 (lvh h4)) (lvt h4) h5 h6 h7 h8 h9)
theorem popI_of {k : Int32 → List AV → Prop} (h : popI st k) : ∃ x r, st = aI x :: r ∧ k x r := by
  unfold popI at h
  split at h
  · exact ⟨_, _, rfl, h⟩
  · exact h.elim
theorem popJ_of {k : Int64 → List AV → Prop} (h : popJ st k) : ∃ x r, st = aL x :: r ∧ k x r := by
  unfold popJ at h
  split at h
  · exact ⟨_, _, rfl, h⟩
  · exact h.elim
theorem popR_of {k : Nat → Nat → List AV → Prop} (h : popR st k) : ∃ j g r, st = aR j g :: r ∧ k j g r := by
  unfold popR at h
  split at h
  · exact ⟨_, _, _, rfl, h⟩
  · exact h.elim
theorem popS_of {k : AV → List AV → Prop} (h : popS st k) : ∃ v r, st = v :: r ∧ isJ v = false ∧ k v r := by
  unfold popS at h
  split at h
  · exact ⟨_, _, rfl, rfl, h⟩
  · exact ⟨_, _, rfl, rfl, h⟩
  · exact h.elim
end SND
end
section
/-! SOUNDNESS, on: stores, numbers, branches -/
section SNE
variable {E : Env0} {X : State → Prop} {Y : MT} {d n0 : Nat} {p : Program} {l : Launch} {e : Env} {R : Room} {s : State} {m : MethodId} {args : Array Value} {below : List Frame} {meth : Method} {c : Code} {Q : State → Prop}
variable {pc t fc fs : Nat} {L : List (Option AV)} {st : List AV} {S : St}
theorem s_istore (C : Ctx E X Y d p R s m args meth c) {i : Nat} (hd : decode Y.2.2.1 pc = .ok (.istore i, 2)) (hi : i < Y.2.2.2.1) (h : popI st fun x r => PS E Y n0 p l e R s m args below meth c Q (pc + 2) (putL L i (aI x)) r S fc fs) : PS E Y n0 p l e R s m args below meth c Q pc L st S fc fs := by
  obtain ⟨x, r, rfl, h_1⟩ := popI_of h
  exact s_store (v := aI x) rfl (fun hl k => lv_istore C.1 C.2.1 hd hl.1 hi rfl k) h_1
theorem s_istore_n (C : Ctx E X Y d p R s m args meth c) {i : Fin 4} (hd : decode Y.2.2.1 pc = .ok (.istore_n i, 1)) (hi : i.val < Y.2.2.2.1) (h : popI st fun x r => PS E Y n0 p l e R s m args below meth c Q (pc + 1) (putL L i.val (aI x)) r S fc fs) : PS E Y n0 p l e R s m args below meth c Q pc L st S fc fs := by
  obtain ⟨x, r, rfl, h_1⟩ := popI_of h
  exact s_store (v := aI x) rfl (fun hl k => lv_istore_n C.1 C.2.1 hd rfl hl.1 hi rfl k) h_1
theorem s_lstore (C : Ctx E X Y d p R s m args meth c) {i : Nat} (hd : decode Y.2.2.1 pc = .ok (.lstore i, 2)) (hi : i + 1 < Y.2.2.2.1) (h : popJ st fun x r => PS E Y n0 p l e R s m args below meth c Q (pc + 2) (putL L i (aL x)) r S fc fs) : PS E Y n0 p l e R s m args below meth c Q pc L st S fc fs := by
  obtain ⟨x, r, rfl, h_1⟩ := popJ_of h
  exact s_store2 (v := aL x) rfl (fun hl k => lv_lstore C.1 C.2.1 hd hl.1 hi rfl k) h_1
theorem s_lstore_n (C : Ctx E X Y d p R s m args meth c) {i : Fin 4} (hd : decode Y.2.2.1 pc = .ok (.lstore_n i, 1)) (hi : i.val + 1 < Y.2.2.2.1) (h : popJ st fun x r => PS E Y n0 p l e R s m args below meth c Q (pc + 1) (putL L i.val (aL x)) r S fc fs) : PS E Y n0 p l e R s m args below meth c Q pc L st S fc fs := by
  obtain ⟨x, r, rfl, h_1⟩ := popJ_of h
  exact s_store2 (v := aL x) rfl (fun hl k => lv_lstore_n C.1 C.2.1 hd rfl hl.1 hi rfl k) h_1
theorem s_astore (C : Ctx E X Y d p R s m args meth c) {i : Nat} (hd : decode Y.2.2.1 pc = .ok (.astore i, 2)) (hi : i < Y.2.2.2.1) (h : popR st fun j g r => PS E Y n0 p l e R s m args below meth c Q (pc + 2) (putL L i (aR j g)) r S fc fs) : PS E Y n0 p l e R s m args below meth c Q pc L st S fc fs := by
  obtain ⟨j, g, r, rfl, h_1⟩ := popR_of h
  exact s_store (v := aR j g) rfl (fun hl k => lv_astore C.1 C.2.1 hd hl.1 hi rfl k) h_1
theorem s_astore_n (C : Ctx E X Y d p R s m args meth c) {i : Fin 4} (hd : decode Y.2.2.1 pc = .ok (.astore_n i, 1)) (hi : i.val < Y.2.2.2.1) {q : Option (Nat × Nat)} {r : List AV} (h : PS E Y n0 p l e R s m args below meth c Q (pc + 1) (putL L i.val (Sum.inr (Sum.inr q))) r S fc fs) : PS E Y n0 p l e R s m args below meth c Q pc L (Sum.inr (Sum.inr q) :: r) S fc fs := by
  rcases q with _ | q
  · exact s_store (v := aN) rfl (fun hl k => lv_astore_nN C.1 C.2.1 hd rfl hl.1 hi rfl k) h
  · exact s_store (v := aR q.1 q.2) rfl (fun hl k => lv_astore_n C.1 C.2.1 hd rfl hl.1 hi rfl k) h
theorem s_iinc (C : Ctx E X Y d p R s m args meth c) {i : Nat} {z : Int} {x : Int32} (hd : decode Y.2.2.1 pc = .ok (.iinc i z, 3)) (hz : Int32.ofInt z = x) (hi : i < Y.2.2.2.1) (h : getI L i fun y => PS E Y n0 p l e R s m args below meth c Q (pc + 3) (putL L i (aI (y + x))) st S fc fs) : PS E Y n0 p l e R s m args below meth c Q pc L st S fc fs := by
  obtain ⟨y, hy, h_1⟩ := getI_of h
  intro H locs ls h1 h2 h3 h4 h5 h6 h7 h8 h9
  obtain ⟨k, hk⟩ := lvl_at (E := E) L i 0 (aI y) hy
  rw [Nat.zero_add] at hk
  exact lv_iinc C.1 C.2.1 hd h2.1 hk (by rw [hz]) hi rfl (fun ls' h' => h_1 H locs ls' h1 (h2.put1 (v := aI (y + x)) rfl h') (lvs_put h3 trivial) h4 h5 h6 h7 h8 h9)
/-- a row that takes numbers and gives one -/
theorem s_op1 {a v : AV} {n : Nat} {r : List AV} (hv : lvA S v) (hW : ∀ {H : Heap} {locs : List Loc} {ls : Array Slot}, W p l e R s m args below meth c H locs fc fs Q (F0 m n ls (cv E v :: r.map (cv E))) → W p l e R s m args below meth c H locs fc fs Q (F0 m pc ls (cv E a :: r.map (cv E))))
    (h : PS E Y n0 p l e R s m args below meth c Q n L (v :: r) S fc fs) : PS E Y n0 p l e R s m args below meth c Q pc L (a :: r) S fc fs :=
  fun H locs ls h1 h2 h3 h4 h5 h6 h7 h8 h9 => hW (h H locs ls h1 h2 h3 (lv1 hv (lvt h4)) h5 h6 h7 h8 h9)
theorem s_op2 {a b v : AV} {n : Nat} {r : List AV} (hv : lvA S v) (hW : ∀ {H : Heap} {locs : List Loc} {ls : Array Slot}, W p l e R s m args below meth c H locs fc fs Q (F0 m n ls (cv E v :: r.map (cv E))) → W p l e R s m args below meth c H locs fc fs Q (F0 m pc ls (cv E a :: cv E b :: r.map (cv E))))
    (h : PS E Y n0 p l e R s m args below meth c Q n L (v :: r) S fc fs) : PS E Y n0 p l e R s m args below meth c Q pc L (a :: b :: r) S fc fs :=
  fun H locs ls h1 h2 h3 h4 h5 h6 h7 h8 h9 => hW (h H locs ls h1 h2 h3 (lv1 hv (lvt (lvt h4))) h5 h6 h7 h8 h9)
theorem s_bin {f : Int32 → Int32 → Int32} (hW : ∀ {x y : Int32} {H : Heap} {locs : List Loc} {ls : Array Slot} {r : List Value}, W p l e R s m args below meth c H locs fc fs Q (F0 m (pc + 1) ls (.int (f x y) :: r)) → W p l e R s m args below meth c H locs fc fs Q (F0 m pc ls (.int y :: .int x :: r)))
    (h : popI st fun y r => popI r fun x r => PS E Y n0 p l e R s m args below meth c Q (pc + 1) L (aI (f x y) :: r) S fc fs) : PS E Y n0 p l e R s m args below meth c Q pc L st S fc fs := by
  obtain ⟨y, r, rfl, h_1⟩ := popI_of h
  obtain ⟨x, r, rfl, h_2⟩ := popI_of h_1
  exact s_op2 (v := aI (f x y)) trivial (fun k => hW k) h_2
theorem s_binG {f : Int32 → Int32 → Int32} (hW : ∀ {x y : Int32} {H : Heap} {locs : List Loc} {ls : Array Slot} {r : List Value}, ¬ y = 0 → W p l e R s m args below meth c H locs fc fs Q (F0 m (pc + 1) ls (.int (f x y) :: r)) → W p l e R s m args below meth c H locs fc fs Q (F0 m pc ls (.int y :: .int x :: r)))
    (h : popI st fun y r => popI r fun x r => ¬ y = 0 ∧ PS E Y n0 p l e R s m args below meth c Q (pc + 1) L (aI (f x y) :: r) S fc fs) : PS E Y n0 p l e R s m args below meth c Q pc L st S fc fs := by
  obtain ⟨y, r, rfl, h_1⟩ := popI_of h
  obtain ⟨x, r, rfl, h_2⟩ := popI_of h_1
  exact s_op2 (v := aI (f x y)) trivial (fun k => hW h_2.1 k) h_2.2
theorem s_binL {f : Int64 → Int64 → Int64} (hW : ∀ {x y : Int64} {H : Heap} {locs : List Loc} {ls : Array Slot} {r : List Value}, W p l e R s m args below meth c H locs fc fs Q (F0 m (pc + 1) ls (.long (f x y) :: r)) → W p l e R s m args below meth c H locs fc fs Q (F0 m pc ls (.long y :: .long x :: r)))
    (h : popJ st fun y r => popJ r fun x r => PS E Y n0 p l e R s m args below meth c Q (pc + 1) L (aL (f x y) :: r) S fc fs) : PS E Y n0 p l e R s m args below meth c Q pc L st S fc fs := by
  obtain ⟨y, r, rfl, h_1⟩ := popJ_of h
  obtain ⟨x, r, rfl, h_2⟩ := popJ_of h_1
  exact s_op2 (v := aL (f x y)) trivial (fun k => hW k) h_2
theorem s_binLG {f : Int64 → Int64 → Int64} (hW : ∀ {x y : Int64} {H : Heap} {locs : List Loc} {ls : Array Slot} {r : List Value}, ¬ y = 0 → W p l e R s m args below meth c H locs fc fs Q (F0 m (pc + 1) ls (.long (f x y) :: r)) → W p l e R s m args below meth c H locs fc fs Q (F0 m pc ls (.long y :: .long x :: r)))
    (h : popJ st fun y r => popJ r fun x r => ¬ y = 0 ∧ PS E Y n0 p l e R s m args below meth c Q (pc + 1) L (aL (f x y) :: r) S fc fs) : PS E Y n0 p l e R s m args below meth c Q pc L st S fc fs := by
  obtain ⟨y, r, rfl, h_1⟩ := popJ_of h
  obtain ⟨x, r, rfl, h_2⟩ := popJ_of h_1
  exact s_op2 (v := aL (f x y)) trivial (fun k => hW h_2.1 k) h_2.2
theorem s_lcmp (C : Ctx E X Y d p R s m args meth c) (hd : decode Y.2.2.1 pc = .ok (.lcmp, 1)) (h : popJ st fun y r => popJ r fun x r => PS E Y n0 p l e R s m args below meth c Q (pc + 1) L (aI (lg_cmp x y) :: r) S fc fs) : PS E Y n0 p l e R s m args below meth c Q pc L st S fc fs := by
  obtain ⟨y, r, rfl, h_1⟩ := popJ_of h
  obtain ⟨x, r, rfl, h_2⟩ := popJ_of h_1
  exact s_op2 (v := aI (lg_cmp x y)) trivial (fun k => W.lcmp C.1 C.2.1 hd k) h_2
theorem s_un {f : Int32 → AV} (hf : ∀ x, lvA S (f x)) (hW : ∀ {x : Int32} {H : Heap} {locs : List Loc} {ls : Array Slot} {r : List Value}, W p l e R s m args below meth c H locs fc fs Q (F0 m (pc + 1) ls (cv E (f x) :: r)) → W p l e R s m args below meth c H locs fc fs Q (F0 m pc ls (.int x :: r)))
    (h : popI st fun x r => PS E Y n0 p l e R s m args below meth c Q (pc + 1) L (f x :: r) S fc fs) : PS E Y n0 p l e R s m args below meth c Q pc L st S fc fs := by
  obtain ⟨x, r, rfl, h_1⟩ := popI_of h
  exact s_op1 (hf x) (fun k => hW k) h_1
theorem s_l2i (C : Ctx E X Y d p R s m args meth c) (hd : decode Y.2.2.1 pc = .ok (.l2i, 1)) (h : popJ st fun x r => PS E Y n0 p l e R s m args below meth c Q (pc + 1) L (aI x.toInt32 :: r) S fc fs) : PS E Y n0 p l e R s m args below meth c Q pc L st S fc fs := by
  obtain ⟨x, r, rfl, h_1⟩ := popJ_of h
  exact s_op1 (v := aI x.toInt32) trivial (fun k => lv_l2i C.1 C.2.1 hd rfl k) h_1
theorem cv_cat1 {v : AV} (h : isJ v = false) : (cv E v).category = 1 := by
  rcases v with x | x | x | x <;> first | rfl | (simp [isJ] at h; done)
theorem s_dup (C : Ctx E X Y d p R s m args meth c) (hd : decode Y.2.2.1 pc = .ok (.dup, 1)) (h : popS st fun v r => PS E Y n0 p l e R s m args below meth c Q (pc + 1) L (v :: v :: r) S fc fs) : PS E Y n0 p l e R s m args below meth c Q pc L st S fc fs := by
  obtain ⟨v, r, rfl, hv, h_1⟩ := popS_of h
  exact fun H locs ls h1 h2 h3 h4 h5 h6 h7 h8 h9 => lv_dup C.1 C.2.1 hd (cv_cat1 hv) (h_1 H locs ls h1 h2 h3 (lv1 (lvh h4) h4) h5 h6 h7 h8 h9)
theorem s_dup2 (C : Ctx E X Y d p R s m args meth c) (hd : decode Y.2.2.1 pc = .ok (.dup2, 1)) (h : popS st fun v r => popS r fun u r => PS E Y n0 p l e R s m args below meth c Q (pc + 1) L (v :: u :: v :: u :: r) S fc fs) : PS E Y n0 p l e R s m args below meth c Q pc L st S fc fs := by
  obtain ⟨v, r, rfl, hv, h_1⟩ := popS_of h
  obtain ⟨u, r, rfl, hu, h_2⟩ := popS_of h_1
  exact fun H locs ls h1 h2 h3 h4 h5 h6 h7 h8 h9 => lv_dup2_11 C.1 C.2.1 hd (cv_cat1 hv) (cv_cat1 hu) (h_2 H locs ls h1 h2 h3 (lv1 (lvh h4) (lv1 (lvh (lvt h4)) h4)) h5 h6 h7 h8 h9)
theorem s_pop (C : Ctx E X Y d p R s m args meth c) (hd : decode Y.2.2.1 pc = .ok (.pop, 1)) (h : popS st fun _ r => PS E Y n0 p l e R s m args below meth c Q (pc + 1) L r S fc fs) : PS E Y n0 p l e R s m args below meth c Q pc L st S fc fs := by
  obtain ⟨v, r, rfl, hv, h_1⟩ := popS_of h
  exact fun H locs ls h1 h2 h3 h4 h5 h6 h7 h8 h9 => lv_pop C.1 C.2.1 hd (cv_cat1 hv) (h_1 H locs ls h1 h2 h3 (lvt h4) h5 h6 h7 h8 h9)
/-- a branch on one number, on two -/
theorem s_br1 {u w : Int32 → Prop} {n : Nat} (hW : ∀ {x : Int32} {H : Heap} {locs : List Loc} {ls : Array Slot} {r : List Value}, (u x → W p l e R s m args below meth c H locs fc fs Q (F0 m t ls r)) → (w x → W p l e R s m args below meth c H locs fc fs Q (F0 m n ls r)) → W p l e R s m args below meth c H locs fc fs Q (F0 m pc ls (.int x :: r)))
    (h : popI st fun x r => (u x → PS E Y n0 p l e R s m args below meth c Q t L r S fc fs) ∧ (w x → PS E Y n0 p l e R s m args below meth c Q n L r S fc fs)) : PS E Y n0 p l e R s m args below meth c Q pc L st S fc fs := by
  obtain ⟨x, r, rfl, h_1⟩ := popI_of h
  exact fun H locs ls h1 h2 h3 h4 h5 h6 h7 h8 h9 => hW (fun z => h_1.1 z H locs ls h1 h2 h3 (lvt h4) h5 h6 h7 h8 h9) (fun z => h_1.2 z H locs ls h1 h2 h3 (lvt h4) h5 h6 h7 h8 h9)
theorem s_br2 {u w : Int32 → Int32 → Prop} {n : Nat} (hW : ∀ {x y : Int32} {H : Heap} {locs : List Loc} {ls : Array Slot} {r : List Value}, (u x y → W p l e R s m args below meth c H locs fc fs Q (F0 m t ls r)) → (w x y → W p l e R s m args below meth c H locs fc fs Q (F0 m n ls r)) → W p l e R s m args below meth c H locs fc fs Q (F0 m pc ls (.int y :: .int x :: r)))
    (h : popI st fun y r => popI r fun x r => (u x y → PS E Y n0 p l e R s m args below meth c Q t L r S fc fs) ∧ (w x y → PS E Y n0 p l e R s m args below meth c Q n L r S fc fs)) : PS E Y n0 p l e R s m args below meth c Q pc L st S fc fs := by
  obtain ⟨y, r, rfl, h_1⟩ := popI_of h
  obtain ⟨x, r, rfl, h_2⟩ := popI_of h_1
  exact fun H locs ls h1 h2 h3 h4 h5 h6 h7 h8 h9 => hW (fun z => h_2.1 z H locs ls h1 h2 h3 (lvt (lvt h4)) h5 h6 h7 h8 h9) (fun z => h_2.2 z H locs ls h1 h2 h3 (lvt (lvt h4)) h5 h6 h7 h8 h9)
theorem s_goto (C : Ctx E X Y d p R s m args meth c) {o : Int} (hd : decode Y.2.2.1 pc = .ok (.goto o, 3)) (ht : (pc : Int) + o = (t : Int)) (h : PS E Y n0 p l e R s m args below meth c Q t L st S fc fs) : PS E Y n0 p l e R s m args below meth c Q pc L st S fc fs :=
  fun H locs ls h1 h2 h3 h4 h5 h6 h7 h8 h9 => lv_goto C.1 C.2.1 hd ht (h H locs ls h1 h2 h3 h4 h5 h6 h7 h8 h9)
theorem s_ifnn (C : Ctx E X Y d p R s m args meth c) {o : Int} (hd : decode Y.2.2.1 pc = .ok (.ifnonnull o, 3)) (ht : (pc : Int) + o = (t : Int)) {q : Nat × Nat} {r : List AV} (h : PS E Y n0 p l e R s m args below meth c Q t L r S fc fs) : PS E Y n0 p l e R s m args below meth c Q pc L (Sum.inr (Sum.inr (some q)) :: r) S fc fs :=
  fun H locs ls h1 h2 h3 h4 h5 h6 h7 h8 h9 => lv_ifnonnull C.1 C.2.1 hd ht (h H locs ls h1 h2 h3 (lvt h4) h5 h6 h7 h8 h9)
theorem s_ifnnN (C : Ctx E X Y d p R s m args meth c) {o : Int} (hd : decode Y.2.2.1 pc = .ok (.ifnonnull o, 3)) {r : List AV} (h : PS E Y n0 p l e R s m args below meth c Q (pc + 3) L r S fc fs) : PS E Y n0 p l e R s m args below meth c Q pc L (aN :: r) S fc fs :=
  fun H locs ls h1 h2 h3 h4 h5 h6 h7 h8 h9 => lv_ifnonnullN C.1 C.2.1 hd (h H locs ls h1 h2 h3 (lvt h4) h5 h6 h7 h8 h9)
end SNE
end
section
/-! SOUNDNESS, on: switches, fields, arrays -/
section SNF
variable {E : Env0} {X : State → Prop} {Y : MT} {d n0 : Nat} {p : Program} {l : Launch} {e : Env} {R : Room} {s : State} {m : MethodId} {args : Array Value} {below : List Frame} {meth : Method} {c : Code} {Q : State → Prop}
variable {pc t fc fs : Nat} {L : List (Option AV)} {st : List AV} {S : St}
theorem swP_none {x : Int32} {P : Nat → Prop} : ∀ (sw : List (Int32 × Nat)) (t : Nat), swP x P sw t → (∀ k q, nth sw k = some q → x ≠ q.1) → P t
  | [], t, h, _ => h
  | a :: l, t, h, hn => swP_none l t (h.2 (hn 0 a rfl)) (fun k q hk => hn (k + 1) q hk)
theorem swP_at {x : Int32} {P : Nat → Prop} : ∀ (sw : List (Int32 × Nat)) (t k : Nat) (q : Int32 × Nat), swP x P sw t → nth sw k = some q → x = q.1 → (∀ k' q', k' < k → nth sw k' = some q' → x ≠ q'.1) → P q.2
  | [], _, _, _, _, hk, _, _ => by simp [nth] at hk
  | a :: l, t, 0, q, h, hk, hx, _ => by
    simp only [nth, Option.some.injEq] at hk
    subst hk
    exact h.1 hx
  | a :: l, t, k + 1, q, h, hk, hx, hn => swP_at l t k q (h.2 (hn 0 a (by omega) rfl)) hk hx (fun k' q' hk' hq' => hn (k' + 1) q' (by omega) hq')
theorem nth_some {α : Type} : ∀ (l : List α) (k : Nat), k < l.length → ∃ a, nth l k = some a
  | [], k, h => by simp at h
  | a :: l, 0, _ => ⟨a, rfl⟩
  | a :: l, k + 1, h => nth_some l k (by simpa using h)
theorem nth_lt {α : Type} : ∀ (l : List α) (k : Nat) (a : α), nth l k = some a → k < l.length
  | [], k, a, h => by simp [nth] at h
  | b :: l, 0, _, _ => by simp
  | b :: l, k + 1, a, h => by
    have := nth_lt l k a h
    simp
    exact this
theorem ofInt_toInt {z : Int} (h0 : 0 ≤ z) (h1 : z < 2147483648) : (Int32.ofInt z).toInt = z := by
  obtain ⟨n, rfl⟩ := Int.eq_ofNat_of_zero_le h0
  have h2 : n < 2 ^ 31 := by omega
  exact nI_toInt h2
theorem s_table (C : Ctx E X Y d p R s m args meth c) {df lo hi : Int} {offs : Array Int} {len : Nat} {x0 : Int32} {sw : List (Int32 × Nat)} (hd : decode Y.2.2.1 pc = .ok (.tableswitch df lo hi offs, len)) (hk : ckI (.tableswitch df lo hi offs) pc t x0 sw = true) (h : popI st fun x r => swP x (fun d => PS E Y n0 p l e R s m args below meth c Q d L r S fc fs) sw t) : PS E Y n0 p l e R s m args below meth c Q pc L st S fc fs := by
  obtain ⟨x, r, rfl, h_1⟩ := popI_of h
  simp only [ckI, Bool.and_eq_true, decide_eq_true_eq] at hk
  obtain ⟨⟨⟨⟨⟨k1, k2⟩, k3⟩, k4⟩, k5⟩, k6⟩ := hk
  have at' : ∀ k q, nth sw k = some q → q.1.toInt = lo + k ∧ ∃ o, offs[k]? = some o ∧ (pc : Int) + o = (q.2 : Int) := by
    intro k q hq
    have hkl := nth_lt sw k q hq
    have h9 := List.all_eq_true.mp k6 k (List.mem_range.mpr hkl)
    rw [hq] at h9
    have ho : offs[k]? = some (offs[k]'(by omega)) := by simp [show k < offs.size by omega]
    rw [ho] at h9
    simp only [Bool.and_eq_true, decide_eq_true_eq] at h9
    refine ⟨?_, _, ho, h9.2⟩
    rw [h9.1, ofInt_toInt (by omega) (by omega)]
  intro H locs ls h1 h2 h3 h4 h5 h6 h7 h8 h9
  by_cases hout : x.toInt < lo ∨ hi < x.toInt
  · refine lv_tableOut C.1 C.2.1 hd hout k1 ?_
    exact swP_none sw t h_1 (fun k q hq hx => by
      obtain ⟨a, -⟩ := at' k q hq
      have hkl := nth_lt sw k q hq
      rw [hx] at hout
      rcases hout with g | g <;> omega) H locs ls h1 h2 h3 (lvt h4) h5 h6 h7 h8 h9
  · have ha : ¬ x.toInt < lo := fun z => hout (Or.inl z)
    have hb : ¬ hi < x.toInt := fun z => hout (Or.inr z)
    obtain ⟨q, hq⟩ := nth_some sw (x.toInt - lo).toNat (by omega)
    obtain ⟨a, o, ho, hp⟩ := at' _ q hq
    refine lv_tableIn C.1 C.2.1 hd ha hb ho hp ?_
    have hxq : x = q.1 := Int32.toInt_inj.mp (by rw [a]; omega)
    exact swP_at sw t _ q h_1 hq hxq (fun k' q' hk' hq' hx => by
      obtain ⟨a', -⟩ := at' k' q' hq'
      rw [← hx] at a'
      omega) H locs ls h1 h2 h3 (lvt h4) h5 h6 h7 h8 h9
theorem fldW {own idx : Nat} {f : Nat × Nat × Nat × Bool} (h : fld own idx = some f) : ckF own f = true ∧ ∀ w ∈ fwords own idx f, w ∈ ALLW := by
  unfold fld at h
  split at h
  · cases h
  · rename_i l hl
    exact ⟨enum_all (f := fun o _ e => ckF o e) ckF_ok hl h, ALLW_of (fun w hw => fW_ok w (allT_in (f := fwords) hl h hw))⟩
/-- a class: its row of vwCl, its words, its types -/
theorem clsF {ci : Nat} {q : vw_C} (h : nth vwCl ci = some q) : vwCl[ci]? = some q ∧ (∀ w ∈ u_ws q.1 q.2.1 q.2.2, w ∈ ALLW) ∧ (∃ ty0 : Nat → FieldType, nth ftT ci = some ty0 ∧ (∀ k, k < q.2.2 → parseFieldDescriptor (q.2.1 k).2.2.1 = some (ty0 k))) ∧ (∀ a, a < q.2.2 → ∀ b, b < q.2.2 → a ≠ b → (q.2.1 a).2.1 ≠ (q.2.1 b).2.1) ∧ q.1 = own8 ci ∧ ci < 7 ∧ q.2.2 = nFl ci := by
  have hn : nFl ci = q.2.2 := by simp [nFl, h]
  refine ⟨by rw [← nth_get]; exact h, ?_⟩
  match ci, h with
  | 0, h => cases h; exact ⟨ALLW_of uW_0, ⟨tyX0, rfl, tyX0_ok⟩, nmX0, rfl, by omega, rfl⟩
  | 1, h => cases h; exact ⟨ALLW_of uW_1, ⟨tyX1, rfl, tyX1_ok⟩, nmX1, rfl, by omega, rfl⟩
  | 2, h => cases h; exact ⟨ALLW_of uW_2, ⟨tyX2, rfl, tyX2_ok⟩, nmX2, rfl, by omega, rfl⟩
  | 3, h => cases h; exact ⟨ALLW_of uW_3, ⟨tyX3, rfl, tyX3_ok⟩, nmX3, rfl, by omega, rfl⟩
  | 4, h => cases h; exact ⟨ALLW_of uW_4, ⟨tyX4, rfl, tyX4_ok⟩, nmX4, rfl, by omega, rfl⟩
  | 5, h => cases h; exact ⟨ALLW_of uW_5, ⟨tyX5, rfl, tyX5_ok⟩, nmX5, rfl, by omega, rfl⟩
  | 6, h => cases h; exact ⟨ALLW_of uW_6, ⟨tyX6, rfl, tyX6_ok⟩, nmX6, rfl, by omega, rfl⟩
  | n + 7, h => simp [nth] at h
/-- a link to a field, in the words of the rows -/
theorem fldQ {own idx ci k ty : Nat} {fin : Bool} (h : fld own idx = some (ci, k, ty, fin)) : ∃ q : vw_C, nth vwCl ci = some q ∧ k < q.2.2 ∧ fty ci k = ty ∧ (q.2.1 k).2.2.2 = fin ∧ (q.2.1 k).1 = own8 ci ∧ Jvm.Cond.fieldLink (own8 own) idx (q.2.1 k).1 (q.2.1 k).2.1 (q.2.1 k).2.2.1 ∈ ALLW := by
  obtain ⟨h1, h2⟩ := fldW h
  unfold ckF at h1
  dsimp only at h1
  split at h1
  · cases h1
  · rename_i q hq
    simp only [Bool.and_eq_true, decide_eq_true_eq] at h1
    obtain ⟨⟨⟨⟨a1, a2⟩, a3⟩, a4⟩, a5⟩ := h1
    exact ⟨q, hq, Nat.le_of_ble_eq_true a1, a2, a3, a4, h2 _ (by simp [fwords, hq])⟩
theorem el_obj {j g : Nat} (h : clsP j < 7) : el E S (j, g) = .inr (clsP j, (List.range (nFl (clsP j))).map (fvl E S j g)) := by simp [el, h]
theorem cv_frf {j g k : Nat} (h1 : fty (clsP j) k = 2) (h2 : S.2.2.1 j g k = true) : fvl E S j g k = cv E (Sum.inr (Sum.inr (some (frf j g k)))) := by
  simp [fvl, h1, h2, cv]
/-- the cells that can be read: a live one of the world -/
theorem cls_lt {j : Nat} (h : clsP j < 7) : j < 60 := by
  rcases Nat.lt_or_ge j 60 with g | g
  · exact g
  · exfalso
    unfold clsP at h
    split at h <;> omega
theorem s_getf (C : Ctx E X Y d p R s m args meth c) {ix ci k ty : Nat} {fin : Bool} (hd : decode Y.2.2.1 pc = .ok (.getfield ix, 3)) (hf : fld Y.1.2.1 ix = some (ci, k, ty, fin)) {j g : Nat} {r : List AV} (hj : clsP j = ci) {v : AV} (hv : ∀ H, lvP S j g → j < 60 → k < nFl ci → fty ci k = ty → Rep E S H → lvA S v) (hvl : fty ci k = ty → fvl E S j g k = cv E v)
    (h : PS E Y n0 p l e R s m args below meth c Q (pc + 3) L (v :: r) S fc fs) : PS E Y n0 p l e R s m args below meth c Q pc L (aR j g :: r) S fc fs := by
  intro H locs ls h1 h2 h3 h4 h5 h6 h7 h8 h9
  obtain ⟨q, hq, hk, hty, hfin, hdecl, hw⟩ := fldQ hf
  subst hj
  obtain ⟨c1, c2, ⟨ty0, -, c3⟩, c4, c5, c6, c7⟩ := clsF hq
  have hl : lvP S j g := lvh h4
  have hj := cls_lt c6
  obtain ⟨a1, a2⟩ := hl.in hj
  have hg := wld_get (E := E) a1 a2
  rw [el_obj c6] at hg
  have ha : cv E (aR j g) = .ref (E.2.2.1 + numP j g) := by simp [cv, adr, hj]
  rw [List.map_cons, ha]
  have hfs : ((List.range (nFl (clsP j))).map (fvl E S j g))[k]? = some (cv E v) := by
    rw [List.getElem?_map, List.getElem?_range (by rw [← c7]; exact hk)]
    simp [hvl hty]
  exact va_get (D := E.1) (cl := vwCl) (tys := tysE E) (ws := wld E S) (ci := clsP j) (C := q.1) (T := q.2.1) (N := q.2.2) C.1 C.2.1 C.2.2.2.2.1 c2 C.2.2.2.1 C.2.2.2.2.2.2.1.1 h1.2.1 (numP j g) hg c1 k hk (C.2.2.2.2.1 _ hw) (fun _ hx => hx) hfs hd (h H locs ls h1 h2 h3 (lv1 (hv H hl hj (by rw [← c7]; exact hk) hty h1) (lvt h4)) h5 h6 h7 h8 h9)
/-- where few cells were made, the heap's size is known -/
theorem W_sized {H : Heap} {locs : List Loc} {cells slots : Nat} {g : JFrame} (h : H.size ≤ s.heap.size + cells → W p l e R s m args below meth c H locs cells slots Q g) : W p l e R s m args below meth c H locs cells slots Q g := by
  intro T hT Z
  have hz := Z.heapSize
  rw [hT] at hz
  exact h hz T hT Z
theorem wld_low {H : Heap} (h : va_P E.1 vwCl (wld E S) H) (h0 : 0 < S.2.2.2.2) : E.2.2.1 + S.2.2.2.2 ≤ H.size := by
  have hl : S.2.2.2.2 - 1 < (wld E S).length := by rw [wld_len]; omega
  have hg : (wld E S)[S.2.2.2.2 - 1]? = some (E.2.2.1 + (S.2.2.2.2 - 1), el E S (idOf (S.2.2.2.2 - 1))) := by
    simp [wld, List.getElem?_map, List.getElem?_range (show S.2.2.2.2 - 1 < S.2.2.2.2 by omega)]
  have := (h _ _ hg).lt
  dsimp only at this
  omega
/-- a state with one cell's contents changed -/
theorem rep_set {S' : St} {H H1 : Heap} {j g : Nat} (h1 : Rep E S H) (hl : lvP S j g) (hj : j < 60) (hc : S'.2.2.2.2 = S.2.2.2.2) (ht : S'.2.2.2.1 = S.2.2.2.1) (hs : ∀ a, 60 ≤ a → ∀ k, S'.1 a 0 k = S.1 a 0 k) (ho : ∀ k, k ≠ numP j g → k < S.2.2.2.2 → el E S' (idOf k) = el E S (idOf k)) (hP : va_P E.1 vwCl ((wld E S).set (numP j g) (E.2.2.1 + numP j g, el E S' (j, g))) H1) (hz : H1.size ≤ E.2.2.1 + S.2.2.2.2)
    (hn : ∀ a b k, S'.2.2.1 a b k = true → S.2.2.1 a b k = true ∨ (a = j ∧ b = g ∧ ((clsP a < 7 → fty (clsP a) k = 2 → lvP S (frf a b k).1 (frf a b k).2) ∧ (1 ≤ rfk a → lvP S (erf a k).1 (erf a k).2)))) : Rep E S' H1 := by
  obtain ⟨r1, r2, r3, r4, r5, r6, r7⟩ := h1
  obtain ⟨a1, a2⟩ := hl.in hj
  rw [wld_set a1 hc ho a2] at hP
  have hlow := wld_low hP (by rw [hc]; omega)
  have hb : ∀ a b, lvP S' a b → lvP S a b := fun a b z => z.up (Nat.le_of_eq hc)
  have hf : ∀ a b, lvP S a b → lvP S' a b := fun a b z => z.up (Nat.le_of_eq hc.symm)
  refine ⟨by rw [hc] at hlow ⊢; omega, hP, fun a ha k => by rw [hs a ha k]; exact r3 a ha k, by rw [ht]; exact r4, fun t => by rw [ht]; exact r5 t, fun a b k x1 x2 x3 x4 x5 x6 => ?_, fun a b k x1 x2 x3 x4 x5 => ?_⟩
  · rcases hn a b k x6 with z | ⟨-, -, z, -⟩
    · exact hf _ _ (r6 a b k (hb _ _ x1) x2 x3 x4 x5 z)
    · exact hf _ _ (z x3 x4)
  · rcases hn a b k x5 with z | ⟨-, -, -, z⟩
    · exact hf _ _ (r7 a b k (hb _ _ x1) x2 x3 (by rw [← ht]; exact x4) z)
    · exact hf _ _ (z x3)
/-- the exact number of cells -/
def exC (E : Env0) (s : State) (n0 fc : Nat) (S : St) : Prop := s.heap.size = E.2.2.1 + n0 ∧ S.2.2.2.2 = n0 + fc
theorem s_putf (C : Ctx E X Y d p R s m args meth c) {ix ci k ty : Nat} {fin : Bool} (hd : decode Y.2.2.1 pc = .ok (.putfield ix, 3)) (hin : fin = true → Y.2.1.name = "<init>" ∧ ci = Y.1.2.1) (hf : fld Y.1.2.1 ix = some (ci, k, ty, fin)) {j g : Nat} {r : List AV} (hj : clsP j = ci) {v : AV} {S' : St}
    (hval : ∀ ty0 : FieldType, tcd ty0 = ty → narrow ty0 (cv E v) = cv E v ∧ fits ty0 (cv E v) = true) (hc : S'.2.2.2.2 = S.2.2.2.2) (ht : S'.2.2.2.1 = S.2.2.2.1) (hs : ∀ a, 60 ≤ a → ∀ k, S'.1 a 0 k = S.1 a 0 k) (ho : lvP S j g → ∀ k, k ≠ numP j g → k < S.2.2.2.2 → el E S' (idOf k) = el E S (idOf k))
    (hth : fty ci k = ty → ∀ z, fvl E S' j g z = if z = k then cv E v else fvl E S j g z)
    (hn : lvA S v → fty ci k = ty → ∀ a b z, S'.2.2.1 a b z = true → S.2.2.1 a b z = true ∨ (a = j ∧ b = g ∧ ((clsP a < 7 → fty (clsP a) z = 2 → lvP S (frf a b z).1 (frf a b z).2) ∧ (1 ≤ rfk a → lvP S (erf a z).1 (erf a z).2))))
    (hfc : fc < 100) (h : PS E Y n0 p l e R s m args below meth c Q (pc + 3) L r S' fc fs) : PS E Y n0 p l e R s m args below meth c Q pc L (v :: aR j g :: r) S fc fs := by
  intro H locs ls h1 h2 h3 h4 h5 h6 h7 h8 h9
  obtain ⟨q, hq, hk, hty, hfin, hdecl, hw⟩ := fldQ hf
  subst hj
  obtain ⟨c1, c2, ⟨ty0, c0, c3⟩, c4, c5, c6, c7⟩ := clsF hq
  have hl : lvP S j g := lvh (lvt h4)
  have hlv : lvA S v := lvh h4
  have hex := h9 hfc
  have hj := cls_lt c6
  obtain ⟨a1, a2⟩ := hl.in hj
  have hg := wld_get (E := E) a1 a2
  rw [el_obj c6] at hg
  have ha : cv E (aR j g) = .ref (E.2.2.1 + numP j g) := by simp [cv, adr, hj]
  rw [List.map_cons, List.map_cons, ha]
  have hset : ((List.range (nFl (clsP j))).map (fvl E S j g)).set k (cv E v) = (List.range (nFl (clsP j))).map (fvl E S' j g) := by
    apply List.ext_getElem?
    intro z
    by_cases hz : z = k
    · subst hz
      rw [List.getElem?_set_self (by simp [← c7]; exact hk), List.getElem?_map, List.getElem?_range (by rw [← c7]; exact hk)]
      simp [hth hty]
    · rw [List.getElem?_set_ne (fun y => hz y.symm), List.getElem?_map, List.getElem?_map]
      by_cases hl : z < nFl (clsP j)
      · rw [List.getElem?_range hl]
        simp [hth hty, hz]
      · rw [List.getElem?_eq_none (by simp; omega)]
        rfl
  have hel : el E S' (j, g) = .inr (clsP j, (List.range (nFl (clsP j))).map (fvl E S' j g)) := by simp [el, c6]
  have hty0 : tcd (ty0 k) = ty := by
    rw [← hty]
    simp [fty, c0]
  obtain ⟨hna, hfi⟩ := hval (ty0 k) hty0
  have fin' : ∀ (H1 : Heap) (locs1 : List Loc), va_P E.1 vwCl ((wld E S).set (numP j g) (E.2.2.1 + numP j g, .inr (clsP j, ((List.range (nFl (clsP j))).map (fvl E S j g)).set k (cv E v)))) H1 → va_S (baseA E) s.heap H1 locs1 → W p l e R s m args below meth c H1 locs1 fc fs Q (F0 m (pc + 3) ls (r.map (cv E))) := by
    intro H1 locs1 hP hS
    refine W_sized fun hz => ?_
    rw [hset, ← hel] at hP
    have hR := rep_set h1 hl hj hc ht hs (ho hl) hP (by rw [hex.1] at hz; rw [hex.2]; omega) (hn hlv hty)
    exact h H1 locs1 ls hR h2 (fun i u hu => (h3 i u hu).up (Nat.le_of_eq hc.symm)) (fun u hu => ((lvt (lvt h4)) u hu).up (Nat.le_of_eq hc.symm)) hS (by rw [hc]; exact h6) h7 h8 (fun _ => ⟨hex.1, by rw [hc]; exact hex.2⟩)
  cases fin with
  | false => exact va_put (D := E.1) (cl := vwCl) (tys := tysE E) (ws := wld E S) (A := baseA E) (H0 := s.heap) (ci := clsP j) (C := q.1) (T := q.2.1) (N := q.2.2) C.1 C.2.1 C.2.2.2.2.1 c2 ty0 c3 c4 C.2.2.2.1 C.2.2.2.2.2.2.1.1 h1.2.1 (wld_D E S) h5 (numP j g) hg c1 k hk (C.2.2.2.2.1 _ hw) (fun _ hx => hx) hfin (c3 k hk) hna hfi (by simp [← c7]; exact hk) hd (fun H1 locs1 hP _ hS => fin' H1 locs1 hP hS)
  | true => exact va_putF (D := E.1) (cl := vwCl) (tys := tysE E) (ws := wld E S) (A := baseA E) (H0 := s.heap) (ci := clsP j) (C := q.1) (T := q.2.1) (N := q.2.2) C.1 C.2.1 C.2.2.2.2.1 c2 ty0 c3 c4 C.2.2.2.1 C.2.2.2.2.2.2.1.1 h1.2.1 (wld_D E S) h5 (numP j g) hg c1 k hk (C.2.2.2.2.1 _ hw) (fun _ hx => hx) hfin (C.2.2.2.2.2.2.2.2.2.2.2 (hin rfl).1) (by rw [hdecl, (hin rfl).2]) (c3 k hk) hna hfi (by simp [← c7]; exact hk) hd (fun H1 locs1 hP _ hS => fin' H1 locs1 hP hS)
end SNF
end
section
/-! SOUNDNESS, on: arrays -/
section SNG
variable {E : Env0} {X : State → Prop} {Y : MT} {d n0 : Nat} {p : Program} {l : Launch} {e : Env} {R : Room} {s : State} {m : MethodId} {args : Array Value} {below : List Frame} {meth : Method} {c : Code} {Q : State → Prop}
variable {pc t fc fs : Nat} {L : List (Option AV)} {st : List AV} {S : St}
theorem iak_cls {j : Nat} (h : 1 ≤ iak j) : ¬ clsP j < 7 ∧ rfk j = 0 := by
  unfold iak at h
  split at h <;> first | (constructor <;> decide) | omega
theorem rfk_cls {j : Nat} (h : 1 ≤ rfk j) : ¬ clsP j < 7 ∧ iak j = 0 ∧ j < 60 := by
  unfold rfk at h
  split at h <;> first | (refine ⟨?_, ?_, ?_⟩ <;> decide) | omega
theorem iak_lt {j : Nat} (h : iak j = 1 ∨ iak j = 2) : j < 60 := by
  rcases Nat.lt_or_ge j 60 with g | g
  · exact g
  · exfalso
    unfold iak at h
    split at h <;> first | omega | (rcases h with h | h <;> omega)
theorem iak3 {j : Nat} (h : iak j = 3) : 60 ≤ j ∧ j ≤ 65 := by
  unfold iak at h
  split at h <;> first | omega | (constructor <;> omega)
theorem el_int {j g : Nat} (h : iak j = 1) : el E S (j, g) = .inl (E.2.1 0, aln S.2.2.2.1 j g, .inl (S.1 j g)) := by
  obtain ⟨h1, h2⟩ := iak_cls (j := j) (by omega)
  simp [el, h1, h2, h]
theorem el_bool {j g : Nat} (h : iak j = 2) : el E S (j, g) = .inl (E.2.1 4, aln S.2.2.2.1 j g, .inl (S.1 j g)) := by
  obtain ⟨h1, h2⟩ := iak_cls (j := j) (by omega)
  simp [el, h1, h]
theorem el_ref {j g : Nat} (h : 1 ≤ rfk j) : el E S (j, g) = .inl (E.2.1 (rfk j), aln S.2.2.2.1 j g, .inr (.inr (.inr (.inr fun k => if S.2.2.1 j g k = true then some (adr E (erf j k).1 (erf j k).2) else none)))) := by
  obtain ⟨h1, h2, h3⟩ := rfk_cls h
  simp [el, h1, h2, show ¬ rfk j = 0 by omega]
theorem aln_lt {tl : Nat → Nat} (h : ∀ t, tl t ≤ 4000) (j g : Nat) : aln tl j g ≤ 4000 := by
  unfold aln
  split <;> first | exact h _ | omega
theorem in_of {S : St} {H : Heap} (hR : Rep E S H) {j g k : Nat} {i : Int32} (h : chI S j g i k) : vp_in i (aln S.2.2.2.1 j g) ∧ i.toNatClampNeg = k := by
  obtain ⟨rfl, hk⟩ := h
  have := aln_lt hR.2.2.2.2.1 j g
  exact ⟨vp_in_nI hk (by omega), nI_clamp (by omega)⟩
theorem s_iald (C : Ctx E X Y d p R s m args meth c) (hd : decode Y.2.2.1 pc = .ok (.iaload, 1)) {i : Int32} {j g k : Nat} {r : List AV} (hj : iak j = 1 ∨ iak j = 3) (hk : chI S j g i k) (h : PS E Y n0 p l e R s m args below meth c Q (pc + 1) L (aI (S.1 j g k) :: r) S fc fs) : PS E Y n0 p l e R s m args below meth c Q pc L (aI i :: aR j g :: r) S fc fs := by
  intro H locs ls h1 h2 h3 h4 h5 h6 h7 h8 h9
  obtain ⟨hin, hcl⟩ := in_of h1 hk
  have hl : lvP S j g := lvh (lvt h4)
  have hr := h H locs ls h1 h2 h3 (lv1 (v := aI (S.1 j g k)) trivial (lvt (lvt h4))) h5 h6 h7 h8 h9
  rcases hj with hj | hj
  · have hj6 := iak_lt (Or.inl hj)
    obtain ⟨a1, a2⟩ := hl.in hj6
    have hg := wld_get (E := E) a1 a2
    rw [el_int hj] at hg
    have ha : cv E (aR j g) = .ref (E.2.2.1 + numP j g) := by simp [cv, adr, hj6]
    rw [List.map_cons, List.map_cons, ha]
    exact va_iald (D := E.1) (cl := vwCl) (tys := tysE E) (ws := wld E S) C.1 C.2.1 C.2.2.2.2.2.2.1.1 h1.2.1 (numP j g) 0 hg rfl hin hd (by rw [hcl]; exact hr)
  · obtain ⟨b1, b2⟩ := iak3 hj
    have hg0 : g = 0 := by
      rcases hl with ⟨z, -⟩ | ⟨-, -, z⟩ | ⟨z, -⟩
      · omega
      · exact z
      · omega
    subst hg0
    have ha : cv E (aR j 0) = .ref (E.2.2.2.1 j 0) := by simp [cv, adr, show ¬ j < 60 by omega]
    rw [List.map_cons, List.map_cons, ha]
    have hT := C.2.2.2.2.2.2.1.2.2.1 j b1 b2
    have hlen : aln S.2.2.2.1 j 0 = aln (fun _ => E.2.2.2.2.2) j 0 := by
      have : j = 60 ∨ j = 61 ∨ j = 62 ∨ j = 63 ∨ j = 64 ∨ j = 65 := by omega
      rcases this with rfl | rfl | rfl | rfl | rfl | rfl
      · simp [aln, h1.2.2.2.1]
      all_goals rfl
    refine va_ti C.1 C.2.1 hT h5 (by rw [← hlen]; exact hin) (v := .int (S.1 j 0 k)) (by rw [hcl, h1.2.2.1 j b1]) hd hr
theorem s_bald (C : Ctx E X Y d p R s m args meth c) (hd : decode Y.2.2.1 pc = .ok (.baload, 1)) {i : Int32} {j g k : Nat} {r : List AV} (hj : iak j = 2) (hk : chI S j g i k) (h : PS E Y n0 p l e R s m args below meth c Q (pc + 1) L (aI (S.1 j g k) :: r) S fc fs) : PS E Y n0 p l e R s m args below meth c Q pc L (aI i :: aR j g :: r) S fc fs := by
  intro H locs ls h1 h2 h3 h4 h5 h6 h7 h8 h9
  obtain ⟨hin, hcl⟩ := in_of h1 hk
  have hl : lvP S j g := lvh (lvt h4)
  have hr := h H locs ls h1 h2 h3 (lv1 (v := aI (S.1 j g k)) trivial (lvt (lvt h4))) h5 h6 h7 h8 h9
  have hj6 := iak_lt (Or.inr hj)
  obtain ⟨a1, a2⟩ := hl.in hj6
  have hg := wld_get (E := E) a1 a2
  rw [el_bool hj] at hg
  have ha : cv E (aR j g) = .ref (E.2.2.1 + numP j g) := by simp [cv, adr, hj6]
  rw [List.map_cons, List.map_cons, ha]
  exact va_zald (D := E.1) (cl := vwCl) (tys := tysE E) (ws := wld E S) C.1 C.2.1 C.2.2.2.2.2.2.1.1 h1.2.1 (numP j g) 4 hg rfl hin hd (by rw [hcl]; exact hr)
theorem rfk_ty {j : Nat} (h : 1 ≤ rfk j) : ∃ ci q, nth vwCl ci = some q ∧ (tysE E)[rfk j]? = some (E.2.1 (rfk j), .object q.1) ∧ (∀ k, clsP (erf j k).1 = ci ∧ (erf j k).1 < 60) := by
  unfold rfk at h
  split at h
  · exact ⟨0, _, rfl, rfl, fun k => ⟨rfl, show (10 : Nat) < 60 by decide⟩⟩
  · exact ⟨3, _, rfl, rfl, fun k => ⟨rfl, show (20 : Nat) < 60 by decide⟩⟩
  · exact ⟨4, _, rfl, rfl, fun k => ⟨rfl, show (30 : Nat) < 60 by decide⟩⟩
  · omega
theorem s_aald (C : Ctx E X Y d p R s m args meth c) (hd : decode Y.2.2.1 pc = .ok (.aaload, 1)) {i : Int32} {j g k : Nat} {r : List AV} (hj : 1 ≤ rfk j) (hk : chI S j g i k) (hn : S.2.2.1 j g k = true) (h : PS E Y n0 p l e R s m args below meth c Q (pc + 1) L (Sum.inr (Sum.inr (some (erf j k))) :: r) S fc fs) : PS E Y n0 p l e R s m args below meth c Q pc L (aI i :: aR j g :: r) S fc fs := by
  intro H locs ls h1 h2 h3 h4 h5 h6 h7 h8 h9
  obtain ⟨hin, hcl⟩ := in_of h1 hk
  have hl : lvP S j g := lvh (lvt h4)
  obtain ⟨-, -, hj6⟩ := rfk_cls hj
  have hv : lvA S (Sum.inr (Sum.inr (some (erf j k)))) := h1.2.2.2.2.2.2 j g k hl hj6 hj hk.2 hn
  have hr := h H locs ls h1 h2 h3 (lv1 hv (lvt (lvt h4))) h5 h6 h7 h8 h9
  obtain ⟨a1, a2⟩ := hl.in hj6
  have hg := wld_get (E := E) a1 a2
  rw [el_ref hj] at hg
  have ha : cv E (aR j g) = .ref (E.2.2.1 + numP j g) := by simp [cv, adr, hj6]
  rw [List.map_cons, List.map_cons, ha]
  obtain ⟨ci, q, -, hty, -⟩ := rfk_ty (E := E) hj
  refine va_aldq (D := E.1) (cl := vwCl) (tys := tysE E) (ws := wld E S) C.1 C.2.1 C.2.2.2.2.2.2.1.1 h1.2.1 (numP j g) (rfk j) hg hty hin hd ?_
  rw [hcl, if_pos hn]
  exact hr
theorem s_alen (C : Ctx E X Y d p R s m args meth c) (hd : decode Y.2.2.1 pc = .ok (.arraylength, 1)) {j g : Nat} {r : List AV} (hj : 1 ≤ iak j ∨ 1 ≤ rfk j) (h : PS E Y n0 p l e R s m args below meth c Q (pc + 1) L (aI (nI (aln S.2.2.2.1 j g)) :: r) S fc fs) : PS E Y n0 p l e R s m args below meth c Q pc L (aR j g :: r) S fc fs := by
  intro H locs ls h1 h2 h3 h4 h5 h6 h7 h8 h9
  have hl : lvP S j g := lvh h4
  have hr := h H locs ls h1 h2 h3 (lv1 (v := aI (nI (aln S.2.2.2.1 j g))) trivial (lvt h4)) h5 h6 h7 h8 h9
  by_cases hj6 : j < 60
  · obtain ⟨a1, a2⟩ := hl.in hj6
    have hg := wld_get (E := E) a1 a2
    have ha : cv E (aR j g) = .ref (E.2.2.1 + numP j g) := by simp [cv, adr, hj6]
    rw [List.map_cons, ha]
    rcases hj with hj | hj
    · have h12 : iak j = 1 ∨ iak j = 2 := by
        have : iak j ≤ 3 := by unfold iak; split <;> omega
        rcases Nat.lt_or_ge (iak j) 3 with z | z
        · omega
        · have := iak3 (j := j) (by omega)
          omega
      rcases h12 with z | z
      · rw [el_int z] at hg
        exact va_alen (D := E.1) (cl := vwCl) (tys := tysE E) (ws := wld E S) C.1 C.2.1 C.2.2.2.2.2.2.1.1 h1.2.1 (numP j g) 0 hg (ty := .int) rfl rfl hd hr
      · rw [el_bool z] at hg
        exact va_alen (D := E.1) (cl := vwCl) (tys := tysE E) (ws := wld E S) C.1 C.2.1 C.2.2.2.2.2.2.1.1 h1.2.1 (numP j g) 4 hg (ty := .boolean) rfl rfl hd hr
    · rw [el_ref hj] at hg
      obtain ⟨ci, q, -, hty, -⟩ := rfk_ty (E := E) hj
      exact va_alen (D := E.1) (cl := vwCl) (tys := tysE E) (ws := wld E S) C.1 C.2.1 C.2.2.2.2.2.2.1.1 h1.2.1 (numP j g) (rfk j) hg hty rfl hd hr
  · have hj3 : iak j = 3 := by
      rcases hj with hj | hj
      · have : iak j ≤ 3 := by unfold iak; split <;> omega
        rcases Nat.lt_or_ge (iak j) 3 with z | z
        · exact absurd (iak_lt (j := j) (by omega)) hj6
        · omega
      · exact absurd (rfk_cls hj).2.2 hj6
    obtain ⟨b1, b2⟩ := iak3 hj3
    have hg0 : g = 0 := by
      rcases hl with ⟨z, -⟩ | ⟨-, -, z⟩ | ⟨z, -⟩
      · omega
      · exact z
      · omega
    subst hg0
    have ha : cv E (aR j 0) = .ref (E.2.2.2.1 j 0) := by simp [cv, adr, hj6]
    rw [List.map_cons, ha]
    have hlen : aln S.2.2.2.1 j 0 = aln (fun _ => E.2.2.2.2.2) j 0 := by
      have : j = 60 ∨ j = 61 ∨ j = 62 ∨ j = 63 ∨ j = 64 ∨ j = 65 := by omega
      rcases this with rfl | rfl | rfl | rfl | rfl | rfl
      · simp [aln, h1.2.2.2.1]
      all_goals rfl
    exact va_tlen C.1 C.2.1 (C.2.2.2.2.2.2.1.2.2.1 j b1 b2) h5 (v := nI (aln S.2.2.2.1 j 0)) (by rw [hlen]; rfl) hd hr
/-- what a store into an array leaves -/
theorem s_arr {S' : St} {r : List AV} {j g : Nat} {n : Nat} (hj6 : j < 60) (hc : S'.2.2.2.2 = S.2.2.2.2) (ht : S'.2.2.2.1 = S.2.2.2.1) (hs : ∀ a, 60 ≤ a → ∀ k, S'.1 a 0 k = S.1 a 0 k) (ho : ∀ q, q ≠ (j, g) → el E S' q = el E S q) {H H1 : Heap} {locs1 : List Loc} {ls : Array Slot} (hfc : fc < 100)
    (h1 : Rep E S H) (h2 : LokL E ls Y.2.2.2.1 L) (h3 : ∀ k v, nth L k = some (some v) → lvA S v) (hl : lvP S j g) (h4 : ∀ v ∈ r, lvA S v) (h6 : n0 ≤ S.2.2.2.2) (h7 : fc ≤ Y.1.2.2.1) (h8 : fs ≤ Y.1.2.2.2.1) (h9 : fc < 100 → s.heap.size = E.2.2.1 + n0 ∧ S.2.2.2.2 = n0 + fc)
    (hn : ∀ a b k, S'.2.2.1 a b k = true → S.2.2.1 a b k = true ∨ (a = j ∧ b = g ∧ ((clsP a < 7 → fty (clsP a) k = 2 → lvP S (frf a b k).1 (frf a b k).2) ∧ (1 ≤ rfk a → lvP S (erf a k).1 (erf a k).2))))
    (hP : va_P E.1 vwCl ((wld E S).set (numP j g) (E.2.2.1 + numP j g, el E S' (j, g))) H1) (hS : va_S (baseA E) s.heap H1 locs1) (h : PS E Y n0 p l e R s m args below meth c Q n L r S' fc fs) : W p l e R s m args below meth c H1 locs1 fc fs Q (F0 m n ls (r.map (cv E))) := by
  have hex := h9 hfc
  refine W_sized fun hz => ?_
  have hR := rep_set h1 hl hj6 hc ht hs (fun k hk _ => ho _ (fun z => hk (by rw [← numId k, z]))) hP (by rw [hex.1] at hz; rw [hex.2]; omega) hn
  exact h H1 locs1 ls hR h2 (fun i u hu => (h3 i u hu).up (Nat.le_of_eq hc.symm)) (fun u hu => (h4 u hu).up (Nat.le_of_eq hc.symm)) hS (by rw [hc]; exact h6) h7 h8 (fun _ => ⟨hex.1, by rw [hc]; exact hex.2⟩)
theorem iv_st {j g k : Nat} {x : Int32} (hj : j < 60) : ∀ a, 60 ≤ a → ∀ z, (ivSet S j g k x).1 a 0 z = S.1 a 0 z := fun a ha z => by
  simp only [ivSet, up3]
  rw [if_neg (fun y => by omega)]
theorem iv_upd {j g k : Nat} {x : Int32} : (ivSet S j g k x).1 j g = upd (S.1 j g) k x := by
  funext z
  simp only [ivSet, up3, upd]
  by_cases h : z = k
  · simp [h]
  · simp [h]
theorem s_iast (C : Ctx E X Y d p R s m args meth c) (hd : decode Y.2.2.1 pc = .ok (.iastore, 1)) {i x : Int32} {j g k : Nat} {r : List AV} (hfc : fc < 100) (hj : iak j = 1) (hk : chI S j g i k) (h : PS E Y n0 p l e R s m args below meth c Q (pc + 1) L r (ivSet S j g k x) fc fs) : PS E Y n0 p l e R s m args below meth c Q pc L (aI x :: aI i :: aR j g :: r) S fc fs := by
  intro H locs ls h1 h2 h3 h4 h5 h6 h7 h8 h9
  obtain ⟨hin, hcl⟩ := in_of h1 hk
  have hl : lvP S j g := lvh (lvt (lvt h4))
  have hj6 := iak_lt (Or.inl hj)
  obtain ⟨a1, a2⟩ := hl.in hj6
  have hg := wld_get (E := E) a1 a2
  rw [el_int hj] at hg
  have ha : cv E (aR j g) = .ref (E.2.2.1 + numP j g) := by simp [cv, adr, hj6]
  rw [List.map_cons, List.map_cons, List.map_cons, ha]
  refine va_iast (D := E.1) (cl := vwCl) (tys := tysE E) (ws := wld E S) (A := baseA E) (H0 := s.heap) C.1 C.2.1 C.2.2.2.2.2.2.1.1 h1.2.1 (wld_D E S) h5 (numP j g) 0 hg rfl hin hd (fun H1 locs1 hP _ hS => ?_)
  refine s_arr (S := S) (S' := ivSet S j g k x) (j := j) (g := g) hj6 rfl rfl (iv_st hj6) (fun q hq => el_iv hq) hfc h1 h2 h3 hl (lvt (lvt (lvt h4))) h6 h7 h8 h9 (fun a b z hz => Or.inl hz) ?_ hS h
  rw [el_int hj, iv_upd, ← hcl]
  exact hP
theorem nar01 {x : Int32} (h : x = 0 ∨ x = 1) : vp_nar .boolean x = x := by
  rcases h with rfl | rfl <;> decide
theorem s_bast (C : Ctx E X Y d p R s m args meth c) (hd : decode Y.2.2.1 pc = .ok (.bastore, 1)) {i x : Int32} {j g k : Nat} {r : List AV} (hfc : fc < 100) (hj : iak j = 2) (hk : chI S j g i k) (hx : x = 0 ∨ x = 1) (h : PS E Y n0 p l e R s m args below meth c Q (pc + 1) L r (ivSet S j g k x) fc fs) : PS E Y n0 p l e R s m args below meth c Q pc L (aI x :: aI i :: aR j g :: r) S fc fs := by
  intro H locs ls h1 h2 h3 h4 h5 h6 h7 h8 h9
  obtain ⟨hin, hcl⟩ := in_of h1 hk
  have hl : lvP S j g := lvh (lvt (lvt h4))
  have hj6 := iak_lt (Or.inr hj)
  obtain ⟨a1, a2⟩ := hl.in hj6
  have hg := wld_get (E := E) a1 a2
  rw [el_bool hj] at hg
  have ha : cv E (aR j g) = .ref (E.2.2.1 + numP j g) := by simp [cv, adr, hj6]
  rw [List.map_cons, List.map_cons, List.map_cons, ha]
  refine va_zast (D := E.1) (cl := vwCl) (tys := tysE E) (ws := wld E S) (A := baseA E) (H0 := s.heap) C.1 C.2.1 C.2.2.2.2.2.2.1.1 h1.2.1 (wld_D E S) h5 (numP j g) 4 hg rfl hin hd (fun H1 locs1 hP _ hS => ?_)
  refine s_arr (S := S) (S' := ivSet S j g k x) (j := j) (g := g) hj6 rfl rfl (iv_st hj6) (fun q hq => el_iv hq) hfc h1 h2 h3 hl (lvt (lvt (lvt h4))) h6 h7 h8 h9 (fun a b z hz => Or.inl hz) ?_ hS h
  rw [el_bool hj, iv_upd, ← hcl]
  rw [nar01 hx] at hP
  exact hP
theorem s_aast (C : Ctx E X Y d p R s m args meth c) (hd : decode Y.2.2.1 pc = .ok (.aastore, 1)) {i : Int32} {j g k : Nat} {r : List AV} (hfc : fc < 100) (hj : 1 ≤ rfk j) (hk : chI S j g i k) (h : PS E Y n0 p l e R s m args below meth c Q (pc + 1) L r (nnSet S j g k) fc fs) : PS E Y n0 p l e R s m args below meth c Q pc L (Sum.inr (Sum.inr (some (erf j k))) :: aI i :: aR j g :: r) S fc fs := by
  intro H locs ls h1 h2 h3 h4 h5 h6 h7 h8 h9
  obtain ⟨hin, hcl⟩ := in_of h1 hk
  have hl : lvP S j g := lvh (lvt (lvt h4))
  have hv : lvP S (erf j k).1 (erf j k).2 := lvh h4
  obtain ⟨-, -, hj6⟩ := rfk_cls hj
  obtain ⟨a1, a2⟩ := hl.in hj6
  have hg := wld_get (E := E) a1 a2
  rw [el_ref hj] at hg
  have ha : cv E (aR j g) = .ref (E.2.2.1 + numP j g) := by simp [cv, adr, hj6]
  obtain ⟨ci, q, hq, hty, hcls⟩ := rfk_ty (E := E) hj
  obtain ⟨e1, e2⟩ := hcls k
  obtain ⟨b1, b2⟩ := hv.in e2
  have hgv := wld_get (E := E) b1 b2
  have hc7 : clsP (erf j k).1 < 7 := by rw [e1]; exact (clsF hq).2.2.2.2.2.1
  rw [show (((erf j k).1, (erf j k).2) : Nat × Nat) = erf j k from rfl] at hgv
  rw [show el E S (erf j k) = .inr (clsP (erf j k).1, (List.range (nFl (clsP (erf j k).1))).map (fvl E S (erf j k).1 (erf j k).2)) from el_obj hc7] at hgv
  have hav : cv E (Sum.inr (Sum.inr (some (erf j k)))) = .ref (E.2.2.1 + numP (erf j k).1 (erf j k).2) := by simp [cv, adr, e2]
  rw [List.map_cons, List.map_cons, List.map_cons, ha, hav]
  refine va_astq (D := E.1) (cl := vwCl) (tys := tysE E) (ws := wld E S) (A := baseA E) (H0 := s.heap) C.1 C.2.1 C.2.2.2.2.2.2.1.1 h1.2.1 (wld_D E S) h5 (numP j g) (rfk j) (numP (erf j k).1 (erf j k).2) (clsP (erf j k).1) (r := q) hg hty hgv (by rw [e1]; exact (clsF hq).1) hin hd (fun H1 locs1 hP _ hS => ?_)
  refine s_arr (S := S) (S' := nnSet S j g k) (j := j) (g := g) hj6 rfl rfl (fun _ _ _ => rfl) (fun q hq => el_nn hq) hfc h1 h2 h3 hl (lvt (lvt (lvt h4))) h6 h7 h8 h9 (fun a b z hz => ?_) ?_ hS h
  · simp only [nnSet, up3] at hz
    split at hz
    · rename_i hy
      obtain ⟨rfl, rfl, rfl⟩ := hy
      exact Or.inr ⟨rfl, rfl, fun z => absurd z (rfk_cls hj).1, fun _ => hv⟩
    · exact Or.inl hz
  · rw [el_ref hj]
    have hf : (fun z => if (nnSet S j g k).2.2.1 j g z = true then some (adr E (erf j z).1 (erf j z).2) else none) = va_up (fun z => if S.2.2.1 j g z = true then some (adr E (erf j z).1 (erf j z).2) else none) i.toNatClampNeg (some (E.2.2.1 + numP (erf j k).1 (erf j k).2)) := by
      funext z
      rw [hcl]
      simp only [nnSet, up3, va_up]
      by_cases hz : z = k
      · subst hz
        simp [adr, e2]
      · simp [hz]
    rw [hf]
    exact hP
end SNG
end
section
/-! SOUNDNESS, on: new cells -/
section SNH
variable {E : Env0} {X : State → Prop} {Y : MT} {d n0 : Nat} {p : Program} {l : Launch} {e : Env} {R : Room} {s : State} {m : MethodId} {args : Array Value} {below : List Frame} {meth : Method} {c : Code} {Q : State → Prop}
variable {pc t fc fs : Nat} {L : List (Option AV)} {st : List AV} {S : St}
/-- a new cell lies behind the last one -/
theorem new_at {H : Heap} {q : Nat} {ev : va_E} {n : Nat} (hP : va_P E.1 vwCl (wld E S ++ [(q, ev)]) H) (hD : va_D (baseA E) (wld E S ++ [(q, ev)])) (hz : H.size ≤ E.2.2.1 + n + 1) (hn : S.2.2.2.2 = n) : q = E.2.2.1 + S.2.2.2.2 := by
  have hlast : (wld E S ++ [(q, ev)])[S.2.2.2.2]? = some (q, ev) := by
    rw [List.getElem?_append_right (by rw [wld_len]; exact Nat.le_refl _), wld_len, Nat.sub_self]
    rfl
  have h1 := (hP _ _ hlast).lt
  have h2 : E.2.2.1 ≤ q := hD.2 _ _ hlast
  dsimp only at h1
  rcases Nat.lt_or_ge q (E.2.2.1 + S.2.2.2.2) with g | g
  · exfalso
    have hk : q - E.2.2.1 < S.2.2.2.2 := by omega
    have hold : (wld E S ++ [(q, ev)])[q - E.2.2.1]? = some (E.2.2.1 + (q - E.2.2.1), el E S (idOf (q - E.2.2.1))) := by
      rw [List.getElem?_append_left (by rw [wld_len]; exact hk)]
      simp [wld, List.getElem?_map, List.getElem?_range hk]
    have := hD.1 _ _ _ _ hold hlast (by dsimp only; omega)
    omega
  · omega
theorem rep_push {S' : St} {H H1 : Heap} {j g : Nat} {q : Nat} {ev : va_E} (h1 : Rep E S H) (hi : idOf S.2.2.2.2 = (j, g)) (hc : S'.2.2.2.2 = S.2.2.2.2 + 1) (ht : ∀ t, S'.2.2.2.1 t ≤ 4000) (ht2 : S'.2.2.2.1 1000 = S.2.2.2.1 1000) (hs : ∀ a, 60 ≤ a → ∀ k, S'.1 a 0 k = S.1 a 0 k) (ho : ∀ k, k < S.2.2.2.2 → el E S' (idOf k) = el E S (idOf k)) (hev : el E S' (j, g) = ev)
    (hP : va_P E.1 vwCl (wld E S ++ [(q, ev)]) H1) (hq : q = E.2.2.1 + S.2.2.2.2) (hz : H1.size ≤ E.2.2.1 + S.2.2.2.2 + 1)
    (hn : ∀ a b k, S'.2.2.1 a b k = true → S.2.2.1 a b k = true ∧ ¬ (a = j ∧ b = g)) (hal : ∀ a b, 1 ≤ rfk a → aln S'.2.2.2.1 a b = aln S.2.2.2.1 a b) : Rep E S' H1 := by
  obtain ⟨r1, r2, r3, r4, r5, r6, r7⟩ := h1
  subst hq
  rw [← hev, wld_push hi hc ho] at hP
  have hlow := wld_low hP (by rw [hc]; omega)
  have hb : ∀ a b, a < 60 → lvP S' a b → ¬ (a = j ∧ b = g) → lvP S a b := fun a b ha z hne => by
    obtain ⟨z1, z2⟩ := z.in ha
    refine Or.inl ⟨ha, ?_, z2⟩
    rcases Nat.lt_or_ge (numP a b) S.2.2.2.2 with y | y
    · exact y
    · exfalso
      have : numP a b = S.2.2.2.2 := by omega
      rw [this, hi] at z2
      exact hne ⟨(congrArg Prod.fst z2).symm, (congrArg Prod.snd z2).symm⟩
  have hf : ∀ a b, lvP S a b → lvP S' a b := fun a b z => z.up (by rw [hc]; omega)
  refine ⟨by rw [hc] at hlow ⊢; omega, hP, fun a ha k => by rw [hs a ha k]; exact r3 a ha k, by rw [ht2]; exact r4, ht, fun a b k x1 x2 x3 x4 x5 x6 => ?_, fun a b k x1 x2 x3 x4 x5 => ?_⟩
  · obtain ⟨y1, y2⟩ := hn a b k x6
    exact hf _ _ (r6 a b k (hb _ _ x2 x1 y2) x2 x3 x4 x5 y1)
  · obtain ⟨y1, y2⟩ := hn a b k x5
    exact hf _ _ (r7 a b k (hb _ _ x2 x1 y2) x2 x3 (by rw [← hal a b x3]; exact x4) y1)
theorem lv_new {S' : St} {j g : Nat} (hi : idOf S.2.2.2.2 = (j, g)) (hc : S'.2.2.2.2 = S.2.2.2.2 + 1) : lvP S' j g := by
  have hn : numP j g = S.2.2.2.2 := by
    have := numId S.2.2.2.2
    rw [hi] at this
    exact this
  refine Or.inl ⟨?_, by rw [hn, hc]; omega, by rw [hn, hi]⟩
  have := idLt S.2.2.2.2
  rw [hi] at this
  exact this
/-- on, behind a new cell -/
theorem s_newed {S' : St} {r : List AV} {j g n : Nat} {q w : Nat} {ev : va_E} {H H1 : Heap} {locs : List Loc} {ls : Array Slot} (hfc : fc < 100) (hi : idOf S.2.2.2.2 = (j, g)) (hc : S'.2.2.2.2 = S.2.2.2.2 + 1) (ht : ∀ t, S'.2.2.2.1 t ≤ 4000) (ht2 : S'.2.2.2.1 1000 = S.2.2.2.1 1000) (hs : ∀ a, 60 ≤ a → ∀ k, S'.1 a 0 k = S.1 a 0 k) (ho : ∀ k, k < S.2.2.2.2 → el E S' (idOf k) = el E S (idOf k)) (hev : el E S' (j, g) = ev)
    (hn : ∀ a b k, S'.2.2.1 a b k = true → S.2.2.1 a b k = true ∧ ¬ (a = j ∧ b = g)) (hal : ∀ a b, 1 ≤ rfk a → aln S'.2.2.2.1 a b = aln S.2.2.2.1 a b)
    (h1 : Rep E S H) (h2 : LokL E ls Y.2.2.2.1 L) (h3 : ∀ k v, nth L k = some (some v) → lvA S v) (h4 : ∀ v ∈ r, lvA S v) (h6 : n0 ≤ S.2.2.2.2) (h7 : fc + 1 ≤ Y.1.2.2.1) (h8 : fs + w ≤ Y.1.2.2.2.1) (h9 : fc < 100 → s.heap.size = E.2.2.1 + n0 ∧ S.2.2.2.2 = n0 + fc)
    (hP : va_P E.1 vwCl (wld E S ++ [(q, ev)]) H1) (hD : va_D (baseA E) (wld E S ++ [(q, ev)])) (hS : va_S (baseA E) s.heap H1 locs) (h : PS E Y n0 p l e R s m args below meth c Q n L (aR j g :: r) S' (fc + 1) (fs + w)) : W p l e R s m args below meth c H1 locs (fc + 1) (fs + w) Q (F0 m n ls (.ref q :: r.map (cv E))) := by
  obtain ⟨x1, x2⟩ := h9 hfc
  refine W_sized fun hz => ?_
  have hq := new_at (n := n0 + fc) hP hD (by rw [x1] at hz; omega) x2
  have hR := rep_push h1 hi hc ht ht2 hs ho hev hP hq (by rw [x1] at hz; omega) hn hal
  have hle : S.2.2.2.2 ≤ S'.2.2.2.2 := by rw [hc]; omega
  have hlv : lvP S' j g := lv_new hi hc
  have hnum : numP j g = S.2.2.2.2 := by
    have := numId S.2.2.2.2
    rw [hi] at this
    exact this
  have hj6 : j < 60 := by
    have := idLt S.2.2.2.2
    rw [hi] at this
    exact this
  have hav : Value.ref q = cv E (aR j g) := by simp [cv, adr, hj6, hnum, hq]
  rw [hav]
  exact h H1 locs ls hR h2 (fun i u hu => (h3 i u hu).up hle) (lv1 (v := aR j g) hlv (fun u hu => (h4 u hu).up hle)) hS (by rw [hc]; omega) h7 h8 (fun _ => ⟨x1, by rw [hc, x2]; omega⟩)
theorem clkW {own idx ci : Nat} (h : clk own idx = some ci) : ∀ w ∈ cwords own idx ci, w ∈ ALLW := by
  unfold clk at h
  split at h
  · cases h
  · rename_i l hl
    exact ALLW_of (fun w hw => cW_ok w (allT_in (f := cwords) hl h hw))
/-- a changed cell is another one -/
theorem el_ne {S' : St} {j g : Nat} (hi : idOf S.2.2.2.2 = (j, g)) (h : ∀ q, q ≠ (j, g) → el E S' q = el E S q) : ∀ k, k < S.2.2.2.2 → el E S' (idOf k) = el E S (idOf k) := fun k hk => h _ (fun z => by
  have := idInj (z.trans hi.symm)
  omega)
theorem mk_iv {j g n a b z : Nat} (h : ¬ (a = j ∧ b = g)) : (mkC S j g n).1 a b z = S.1 a b z := by
  simp only [mkC, zr3]
  rw [if_neg h]
theorem mk_nn {j g n a b z : Nat} (h : (mkC S j g n).2.2.1 a b z = true) : S.2.2.1 a b z = true ∧ ¬ (a = j ∧ b = g) := by
  simp only [mkC, zr3] at h
  split at h
  · cases h
  · exact ⟨h, by assumption⟩
theorem mk_tl {j g n t : Nat} (h : j = 31 → t ≠ g) : (mkC S j g n).2.2.2.1 t = S.2.2.2.1 t := by
  simp only [mkC]
  split
  · simp only [upN]
    rw [if_neg (h (by assumption))]
  · rfl
theorem mk_al {j g n a b : Nat} (h : j = 31 → a = 31 → b ≠ g) (h2 : a ≠ 60 ∨ (j = 31 → g ≠ 1000)) : aln (mkC S j g n).2.2.2.1 a b = aln S.2.2.2.1 a b := by
  unfold aln
  split <;> first | rfl | (exact mk_tl (fun z => h z rfl)) | (exact mk_tl (fun z y => by rcases h2 with q | q; exact q rfl; exact q z y.symm))
theorem mk_el {j g n : Nat} {q : Nat × Nat} (h : q ≠ (j, g)) (h2 : q.1 ≠ 60) : el E (mkC S j g n) q = el E S q := by
  have hne : ¬ (q.1 = j ∧ q.2 = g) := fun z => h (Prod.ext z.1 z.2)
  have e1 : (mkC S j g n).1 q.1 q.2 = S.1 q.1 q.2 := funext fun z => mk_iv hne
  have e2 : ∀ z, (mkC S j g n).2.2.1 q.1 q.2 z = S.2.2.1 q.1 q.2 z := fun z => by
    simp only [mkC, zr3]
    rw [if_neg hne]
  have e3 : fvl E (mkC S j g n) q.1 q.2 = fvl E S q.1 q.2 := funext fun z => by
    unfold fvl
    split
    · rfl
    · rw [e2]
    · rw [e1]
  have e4 : aln (mkC S j g n).2.2.2.1 q.1 q.2 = aln S.2.2.2.1 q.1 q.2 := mk_al (fun a b z => hne ⟨b.trans a.symm, z⟩) (Or.inl h2)
  unfold el
  rw [e1, e3, e4]
  simp only [e2]
theorem def_fv {ci : Nat} {q : vw_C} (hq : nth vwCl ci = some q) {ty0 : Nat → FieldType} (h0 : nth ftT ci = some ty0) {j g : Nat} (hj : clsP j = ci) {S1 : St} (e1 : ∀ z, S1.1 j g z = 0) (e2 : ∀ z, S1.2.2.1 j g z = false) (e3 : ci = 6 → S1.2.1 = 0) (k : Nat) (hk : k < q.2.2) : defaultValue (ty0 k) = fvl E S1 j g k := by
  subst hj
  have ha : ∀ ci, ci < 7 → ∀ ty, nth ftT ci = some ty → ∀ k, k < nFl ci → defaultValue (ty k) = (match tcd (ty k) with
    | 1 => .long 0
    | 2 => .null
    | _ => .int 0) ∧ (tcd (ty k) = 1 → ci = 6) := by
    intro ci hci ty hty
    match ci, hty with
    | 0, hty => cases hty; decide +kernel
    | 1, hty => cases hty; decide +kernel
    | 2, hty => cases hty; decide +kernel
    | 3, hty => cases hty; decide +kernel
    | 4, hty => cases hty; decide +kernel
    | 5, hty => cases hty; decide +kernel
    | 6, hty => cases hty; decide +kernel
    | n + 7, _ => omega
  obtain ⟨c1, c2, c3, c4, c5, c6, c7⟩ := clsF hq
  obtain ⟨b1, b2⟩ := ha (clsP j) c6 ty0 h0 k (by rw [← c7]; exact hk)
  rw [b1]
  have hf : fty (clsP j) k = tcd (ty0 k) := by simp [fty, h0]
  unfold fvl
  rw [hf]
  generalize tcd (ty0 k) = v at b2 ⊢
  rcases v with _ | _ | _ | v
  · show Value.int 0 = Value.int (S1.1 j g k)
    rw [e1]
  · show Value.long 0 = Value.long S1.2.1
    rw [e3 (b2 rfl)]
  · show Value.null = if S1.2.2.1 j g k = true then _ else _
    rw [e2]
    simp
  · show Value.int 0 = Value.int (S1.1 j g k)
    rw [e1]
theorem s_new (C : Ctx E X Y d p R s m args meth c) {ix ci j g : Nat} {q : vw_C} (hd : decode Y.2.2.1 pc = .ok (.new ix, 3)) (hci : clk Y.1.2.1 ix = some ci) (hq : nth vwCl ci = some q) (hfc : fc < 100) (hi : idOf S.2.2.2.2 = (j, g)) (hj : clsP j = ci) (hg1 : fc + 1 ≤ Y.1.2.2.1) (hg2 : fs + q.2.2 ≤ Y.1.2.2.2.1) (h6' : ci = 6 → S.2.1 = 0)
    (h : PS E Y n0 p l e R s m args below meth c Q (pc + 3) L (aR j g :: st) (mkC S j g 0) (fc + 1) (fs + q.2.2)) : PS E Y n0 p l e R s m args below meth c Q pc L st S fc fs := by
  intro H locs ls h1 h2 h3 h4 h5 h6 h7 h8 h9
  obtain ⟨c1, c2, ⟨ty0, c0, c3⟩, c4, c5, c6, c7⟩ := clsF hq
  have hw := clkW hci
  have hw' : cwords Y.1.2.1 ix ci = [.classLink (own8 Y.1.2.1) ix q.1, .instantiable q.1 q.2.2, .initialized q.1] := by simp [cwords, hq]
  rw [hw'] at hw
  have hj31 : ¬ j = 31 := fun z => by subst z; rw [← hj] at c6; exact absurd c6 (by decide)
  have f1 : ∀ z, (mkC S j g 0).1 j g z = 0 := fun z => by simp [mkC, zr3]
  have f2 : ∀ z, (mkC S j g 0).2.2.1 j g z = false := fun z => by simp [mkC, zr3]
  have hdf := def_fv (E := E) hq c0 (g := g) hj f1 f2 h6'
  have hel : el E (mkC S j g 0) (j, g) = .inr (ci, (List.range q.2.2).map (fvl E (mkC S j g 0) j g)) := by
    rw [c7, ← hj]
    simp [el, show clsP j < 7 by rw [hj]; exact c6]
  refine va_new (D := E.1) (cl := vwCl) (tys := tysE E) (ws := wld E S) (A := baseA E) (H0 := s.heap) (C := q.1) (T := q.2.1) (N := q.2.2) (ci := ci) (fs := (List.range q.2.2).map (fvl E (mkC S j g 0) j g)) C.1 C.2.1 C.2.2.2.2.1 c2 ty0 c3 C.2.2.2.1 (C.2.2.2.2.1 _ (hw _ (by simp))) (C.2.2.2.2.1 _ (hw _ (by simp))) (C.2.2.2.2.1 _ (hw _ (by simp))) C.2.2.2.2.2.2.1.1 h1.2.1 (wld_D E S) h5 (fun z hz => ?_) c1 (fun k hk => ?_) (Nat.le_trans hg1 C.2.2.2.2.2.2.2.2.2.1) (Nat.le_trans hg2 C.2.2.2.2.2.2.2.2.2.2.1) hd (fun z H1 hP hD hS => ?_)
  · have := (h9 hfc).1
    show E.2.2.1 ≤ z
    omega
  · rw [hdf k hk]
    simp [vp_V, List.getD_eq_getElem?_getD, List.getElem?_map, List.getElem?_range hk]
  · exact s_newed hfc hi rfl (fun t => by rw [mk_tl (fun z => absurd z hj31)]; exact h1.2.2.2.2.1 t) (mk_tl (fun z => absurd z hj31)) (fun a ha k => mk_iv (fun z => by
        have := idLt S.2.2.2.2
        rw [hi] at this
        dsimp only at this
        omega)) (fun k hk => mk_el (fun z => by
        have := idInj (z.trans hi.symm)
        omega) (by have := idLt k; omega)) hel (fun a b k hk => mk_nn hk) (fun a b _ => mk_al (fun z => absurd z hj31) (Or.inr (fun z => absurd z hj31))) h1 h2 h3 h4 h6 hg1 hg2 h9 hP hD hS h
/-- the class of an int row, of a boolean row, is one -/
theorem cls_one {tys : List (ClassId × FieldType)} {s : State} {cA cB : ClassId} {ty : FieldType} {k : Nat} (hK : va_K E.1 vwCl (tys ++ [(cA, ty)]) s) (hk : tys[k]? = some (cB, ty)) : cA = cB := by
  have hl : k < tys.length := (List.getElem?_eq_some_iff.mp hk).1
  have h1 := (hK.2 tys.length (cA, ty) (by simp)).2
  have h2 := (hK.2 k (cB, ty) (by rw [List.getElem?_append_left hl]; exact hk)).2
  dsimp only at h1 h2
  cases ty with
  | object C =>
    obtain ⟨_, _, -, -, -, a⟩ := h1
    obtain ⟨_, _, -, -, -, b⟩ := h2
    exact Option.some.inj (a.symm.trans b)
  | _ => exact Option.some.inj (h1.symm.trans h2)
theorem nI_nn {k : Nat} (h : k ≤ 4000) : ¬ nI k < 0 ∧ (nI k).toNatClampNeg = k := ⟨nI_pos (by omega), nI_clamp (by omega)⟩
theorem aW {w : Cond} (h : w ∈ ([.arrayClass .int, .arrayClass .boolean] : List Cond)) : w ∈ ALLW := ALLW_of aW_ok w h
theorem mk_row {j g n : Nat} : (mkC S j g n).1 j g = fun _ => 0 := funext fun z => by simp [mkC, zr3]
theorem s_newI (C : Ctx E X Y d p R s m args meth c) {j g k : Nat} {r : List AV} (hd : decode Y.2.2.1 pc = .ok (.newarray .int, 2)) (hfc : fc < 100) (hk : k ≤ 1000) (hi : idOf S.2.2.2.2 = (j, g)) (hg : g ≤ 100) (hj : iak j = 1) (hln : j = 31 ∨ aln S.2.2.2.1 j g = k) (hg1 : fc + 1 ≤ Y.1.2.2.1) (hg2 : fs + k ≤ Y.1.2.2.2.1)
    (h : PS E Y n0 p l e R s m args below meth c Q (pc + 2) L (aR j g :: r) (mkC S j g k) (fc + 1) (fs + k)) : PS E Y n0 p l e R s m args below meth c Q pc L (aI (nI k) :: r) S fc fs := by
  intro H locs ls h1 h2 h3 h4 h5 h6 h7 h8 h9
  obtain ⟨k1, k2⟩ := nI_nn (k := k) (by omega)
  have hal : aln (mkC S j g k).2.2.2.1 j g = k := by
    by_cases z : j = 31
    · subst z
      simp [aln, mkC, upN]
    · rw [mk_al (fun y => absurd y z) (Or.inr (fun y => absurd y z))]
      rcases hln with y | y
      · exact absurd y z
      · exact y
  have hel : el E (mkC S j g k) (j, g) = .inl (E.2.1 0, k, .inl (fun _ => 0)) := by rw [el_int hj, hal, mk_row]
  refine va_newa (D := E.1) (cl := vwCl) (tys := tysE E) (ws := wld E S) (A := baseA E) (H0 := s.heap) (atype := .int) (ty := .int) C.1 C.2.1 (C.2.2.2.2.1 _ (aW (by simp [newarray.typeOf]))) rfl C.2.2.2.2.2.2.1.1 h1.2.1 (wld_D E S) h5 (fun z hz => ?_) (N' := k) (a0 := (k, .inl (fun _ => 0))) (fun cA => rfl) k1 k2 (Nat.le_trans (Nat.mul_le_mul_right _ hk) (by decide)) (Nat.le_trans hg1 C.2.2.2.2.2.2.2.2.2.1) (Nat.le_trans hg2 C.2.2.2.2.2.2.2.2.2.2.1) hd (fun z cA H1 hK hP hD hS => ?_)
  · have := (h9 hfc).1
    show E.2.2.1 ≤ z
    omega
  · have hcA : cA = E.2.1 0 := cls_one (k := 0) hK rfl
    subst hcA
    exact s_newed hfc hi rfl (fun t => by
        by_cases z : j = 31 ∧ t = g
        · simp only [mkC, z.1, z.2, if_true, upN]
          omega
        · rw [mk_tl (fun a b => z ⟨a, b⟩)]; exact h1.2.2.2.2.1 t) (mk_tl (fun _ z => by omega)) (fun a ha k => mk_iv (fun z => by
        have := idLt S.2.2.2.2
        rw [hi] at this
        dsimp only at this
        omega)) (fun k hk => mk_el (fun z => by
        have := idInj (z.trans hi.symm)
        omega) (by have := idLt k; omega)) hel (fun a b k hk => mk_nn hk) (fun a b hr => mk_al (fun _ z => by subst z; exact absurd hr (by decide)) (Or.inr (fun _ => by omega))) h1 h2 h3 (lvt h4) h6 hg1 hg2 h9 hP hD hS h
theorem s_newZ (C : Ctx E X Y d p R s m args meth c) {j g k : Nat} {r : List AV} (hd : decode Y.2.2.1 pc = .ok (.newarray .boolean, 2)) (hfc : fc < 100) (hk : k ≤ 1000) (hi : idOf S.2.2.2.2 = (j, g)) (hj : iak j = 2) (hln : aln S.2.2.2.1 j g = k) (hg1 : fc + 1 ≤ Y.1.2.2.1) (hg2 : fs + k ≤ Y.1.2.2.2.1)
    (h : PS E Y n0 p l e R s m args below meth c Q (pc + 2) L (aR j g :: r) (mkC S j g k) (fc + 1) (fs + k)) : PS E Y n0 p l e R s m args below meth c Q pc L (aI (nI k) :: r) S fc fs := by
  intro H locs ls h1 h2 h3 h4 h5 h6 h7 h8 h9
  obtain ⟨k1, k2⟩ := nI_nn (k := k) (by omega)
  have hj31 : ¬ j = 31 := fun z => by subst z; exact absurd hj (by decide)
  have hal : aln (mkC S j g k).2.2.2.1 j g = k := by
    rw [mk_al (fun y => absurd y hj31) (Or.inr (fun y => absurd y hj31))]
    exact hln
  have hel : el E (mkC S j g k) (j, g) = .inl (E.2.1 4, k, .inl (fun _ => 0)) := by rw [el_bool hj, hal, mk_row]
  refine va_newa (D := E.1) (cl := vwCl) (tys := tysE E) (ws := wld E S) (A := baseA E) (H0 := s.heap) (atype := .boolean) (ty := .boolean) C.1 C.2.1 (C.2.2.2.2.1 _ (aW (by simp [newarray.typeOf]))) rfl C.2.2.2.2.2.2.1.1 h1.2.1 (wld_D E S) h5 (fun z hz => ?_) (N' := k) (a0 := (k, .inl (fun _ => 0))) (fun cA => rfl) k1 k2 (Nat.le_trans (Nat.mul_le_mul_right _ hk) (by decide)) (Nat.le_trans hg1 C.2.2.2.2.2.2.2.2.2.1) (Nat.le_trans hg2 C.2.2.2.2.2.2.2.2.2.2.1) hd (fun z cA H1 hK hP hD hS => ?_)
  · have := (h9 hfc).1
    show E.2.2.1 ≤ z
    omega
  · have hcA : cA = E.2.1 4 := cls_one (k := 4) hK rfl
    subst hcA
    exact s_newed hfc hi rfl (fun t => by rw [mk_tl (fun z => absurd z hj31)]; exact h1.2.2.2.2.1 t) (mk_tl (fun z => absurd z hj31)) (fun a ha k => mk_iv (fun z => by
        have := idLt S.2.2.2.2
        rw [hi] at this
        dsimp only at this
        omega)) (fun k hk => mk_el (fun z => by
        have := idInj (z.trans hi.symm)
        omega) (by have := idLt k; omega)) hel (fun a b k hk => mk_nn hk) (fun a b _ => mk_al (fun z => absurd z hj31) (Or.inr (fun z => absurd z hj31))) h1 h2 h3 (lvt h4) h6 hg1 hg2 h9 hP hD hS h
theorem s_newR (C : Ctx E X Y d p R s m args meth c) {ix ci j g k : Nat} {r : List AV} (hd : decode Y.2.2.1 pc = .ok (.anewarray ix, 3)) (hci : clk Y.1.2.1 ix = some ci) (hfc : fc < 100) (hk : k ≤ 1000) (hi : idOf S.2.2.2.2 = (j, g)) (hj : (rfk j = 1 ∧ ci = 0) ∨ (rfk j = 2 ∧ ci = 3) ∨ (rfk j = 3 ∧ ci = 4)) (hln : aln S.2.2.2.1 j g = k) (hg1 : fc + 1 ≤ Y.1.2.2.1) (hg2 : fs + k ≤ Y.1.2.2.2.1)
    (h : PS E Y n0 p l e R s m args below meth c Q (pc + 3) L (aR j g :: r) (mkC S j g k) (fc + 1) (fs + k)) : PS E Y n0 p l e R s m args below meth c Q pc L (aI (nI k) :: r) S fc fs := by
  intro H locs ls h1 h2 h3 h4 h5 h6 h7 h8 h9
  obtain ⟨k1, k2⟩ := nI_nn (k := k) (by omega)
  have hr1 : 1 ≤ rfk j := by omega
  have hj31 : ¬ j = 31 := fun z => by subst z; exact absurd hr1 (by decide)
  have hal : aln (mkC S j g k).2.2.2.1 j g = k := by
    rw [mk_al (fun y => absurd y hj31) (Or.inr (fun y => absurd y hj31))]
    exact hln
  have hel : el E (mkC S j g k) (j, g) = .inl (E.2.1 (rfk j), k, .inr (.inr (.inr (.inr (fun _ => none))))) := by
    rw [el_ref hr1, hal]
    have : (fun z => if (mkC S j g k).2.2.1 j g z = true then some (adr E (erf j z).1 (erf j z).2) else none) = fun _ => none := funext fun z => by simp [mkC, zr3]
    rw [this]
  have hst := C.2.2.2.2.2.2.1
  obtain ⟨q, hq, hao, hty⟩ : ∃ q, nth vwCl ci = some q ∧ va_AO q.1 s ∧ (tysE E)[rfk j]? = some (E.2.1 (rfk j), .object q.1) := by
    rcases hj with ⟨a, rfl⟩ | ⟨a, rfl⟩ | ⟨a, rfl⟩
    · exact ⟨_, rfl, hst.2.2.2.2.2.2.2.2.2.2.1, by rw [a]; rfl⟩
    · exact ⟨_, rfl, hst.2.2.2.2.2.2.2.2.2.2.2.1, by rw [a]; rfl⟩
    · exact ⟨_, rfl, hst.2.2.2.2.2.2.2.2.2.2.2.2.1, by rw [a]; rfl⟩
  have hw := clkW hci
  have hw' : cwords Y.1.2.1 ix ci = [.classLink (own8 Y.1.2.1) ix q.1, .instantiable q.1 q.2.2, .initialized q.1] := by simp [cwords, hq]
  rw [hw'] at hw
  refine va_newq (D := E.1) (cl := vwCl) (tys := tysE E) (ws := wld E S) (A := baseA E) (H0 := s.heap) C.1 C.2.1 C.2.2.2.1 (C.2.2.2.2.1 _ (hw _ (by simp))) hao C.2.2.2.2.2.2.1.1 h1.2.1 (wld_D E S) h5 (fun z hz => ?_) k1 k2 (by omega) (Nat.le_trans hg1 C.2.2.2.2.2.2.2.2.2.1) (Nat.le_trans hg2 C.2.2.2.2.2.2.2.2.2.2.1) hd (fun z cA H1 hK hP hD hS => ?_)
  · have := (h9 hfc).1
    show E.2.2.1 ≤ z
    omega
  · have hcA : cA = E.2.1 (rfk j) := cls_one (k := rfk j) hK hty
    subst hcA
    exact s_newed hfc hi rfl (fun t => by rw [mk_tl (fun z => absurd z hj31)]; exact h1.2.2.2.2.1 t) (mk_tl (fun z => absurd z hj31)) (fun a ha k => mk_iv (fun z => by
        have := idLt S.2.2.2.2
        rw [hi] at this
        dsimp only at this
        omega)) (fun k hk => mk_el (fun z => by
        have := idInj (z.trans hi.symm)
        omega) (by have := idLt k; omega)) hel (fun a b k hk => mk_nn hk) (fun a b _ => mk_al (fun z => absurd z hj31) (Or.inr (fun z => absurd z hj31))) h1 h2 h3 (lvt h4) h6 hg1 hg2 h9 hP hD hS h
end SNH
end
section
/-! SOUNDNESS, on: calls -/
/-- what a method leaves -/
def QcT (E : Env0) (S : St) (K : KT) : State → Outcome → State → Prop := fun st o t =>
  (∃ (v : Option AV) (S' : St), K v S' ∧ o = .returned (v.map (cv E)) ∧ Rep E S' t.heap ∧ (∀ u, v = some u → lvA S' u) ∧ S.2.2.2.2 ≤ S'.2.2.2.2) ∧ va_F (baseA E) st t
def rmOf (d : Nat) (Z : MT) : Room := { frames := d + 8, cells := Z.1.2.2.1, slots := Z.1.2.2.2.1, locals := 64 * d + 600 }
def wsM (Z : MT) : List Cond := wC Z :: ALLW
def PcT (E : Env0) (X : State → Prop) (as : List AV) (S : St) : Array Value → State → Prop := va_Pc (as.map (cv E)) (fun U => Rep E S U.heap ∧ Stt E X U ∧ ∀ v ∈ as, lvA S v)
def MetC (E : Env0) (X : State → Prop) (l : Launch) (d : Nat) (Z : MT) (as : List AV) (S : St) (K : KT) : Prop :=
  Met l Z.2.1 (wsM Z) (rmOf d Z) (PcT E X as S) (fun _ st o t => QcT E S K st o t) Z.1.2.2.1 Z.1.2.2.2.1 (baseA E)
/-- what the extra word must bear -/
def Xok (E : Env0) (X : State → Prop) : Prop := ∀ s U : State, s.WarmedH U.vm → s.heap.size ≤ U.heap.size → (∀ q : Nat, q < s.heap.size → ¬ baseA E q → U.heap[q]? = s.heap[q]?) → X s → X U
theorem Stt.moved {E : Env0} {X : State → Prop} (hX : Xok E X) {s U : State} (hW : s.WarmedH U.vm) (hz : s.heap.size ≤ U.heap.size) (hq : ∀ q : Nat, q < s.heap.size → ¬ baseA E q → U.heap[q]? = s.heap[q]?) (h : Stt E X s) : Stt E X U := by
  obtain ⟨h1, h2, h3, h4, h5, h6, h7, h8, h9, h10, h11, h12, h13, h14, h15, h16⟩ := h
  exact ⟨h1.moved hW.alike, fun j a b => ((h2 j a b).kept hq).moved hW.alike, fun j a b => ((h3 j a b).kept hq).moved hW.alike, h4.warmF hW, h5.warmF hW, h6.warmF hW, h7.warmM hW, h8.warmM hW, h9.warmM hW, h10.warmC hW, h11.moved hW.alike, h12.moved hW.alike, h13.moved hW.alike, Nat.le_trans h14 hz, h15, hX s U hW hz hq h16⟩
theorem PcT.blind {E : Env0} {X : State → Prop} (hX : Xok E X) {as : List AV} {S : St} : FrameBlind (PcT E X as S) := by
  intro a U g mk h
  obtain ⟨h1, h2, h3, h4⟩ := h
  exact ⟨h1, h2, Stt.moved hX (U := U.calling g mk a) (State.WarmedH.refl U) (Nat.le_refl _) (fun _ _ _ => rfl) h3, h4⟩
section SNI
variable {E : Env0} {X : State → Prop} {Y : MT} {d n0 : Nat} {p : Program} {l : Launch} {e : Env} {R : Room} {s : State} {m : MethodId} {args : Array Value} {below : List Frame} {meth : Method} {c : Code} {Q : State → Prop}
variable {pc t fc fs : Nat} {L : List (Option AV)} {st : List AV} {S : St}
theorem W_run {mc ms : Nat} {H : Heap} {locs : List Loc} {ls : Array Slot} {st0 rest : List Value} {K : KT} (hr : va_Run p l e R s m args below meth c H locs fc fs mc ms (F0 m pc ls st0) rest (QcT E S K) (baseA E)) (hS : va_S (baseA E) s.heap H locs)
    (kk : ∀ (v : Option AV) (S' : St) (H1 : Heap) (locs1 : List Loc), K v S' → Rep E S' H1 → (∀ u, v = some u → lvA S' u) → S.2.2.2.2 ≤ S'.2.2.2.2 → va_S (baseA E) s.heap H1 locs1 → W p l e R s m args below meth c H1 locs1 (fc + mc) (fs + ms) Q (F0 m (pc + 3) ls ((v.map (cv E)).toList ++ rest))) : W p l e R s m args below meth c H locs fc fs Q (F0 m pc ls st0) := by
  intro T hT Z
  obtain ⟨v, st₀, t, T', L, h0, X', hL, e1, e2, ⟨⟨v', S', hK, hv, hR, hlv, hle⟩, hz, hk⟩, stp⟩ := hr T hT Z
  rw [h0] at hz hk
  cases hv
  have hS1 : va_S (baseA E) s.heap T'.heap (locs ++ L) := ⟨Nat.le_trans hS.1 (by rw [e1]; exact hz), fun q h1 h2 => by rw [e1, hk q (Nat.lt_of_lt_of_le h1 hS.1) h2]; exact hS.2.1 q h1 h2, fun q hq => by
      rcases List.mem_append.mp hq with h | h
      · exact hS.2.2 q h
      · exact hL q h⟩
  obtain ⟨t2, a1, b1⟩ := kk v' S' T'.heap (locs ++ L) hK (by rw [e1]; exact hR) hlv hle hS1 T' rfl X'
  exact ⟨t2, stp t2 a1, b1⟩
theorem popN_of : ∀ (n : Nat) (st acc as rest : List AV), popN n st acc = some (as, rest) → ∃ tk, st = tk ++ rest ∧ as = tk.reverse ++ acc ∧ tk.length = n
  | 0, st, acc, as, rest, h => by
    simp only [popN, Option.some.injEq, Prod.mk.injEq] at h
    obtain ⟨rfl, rfl⟩ := h
    exact ⟨[], rfl, rfl, rfl⟩
  | n + 1, [], acc, as, rest, h => by simp [popN] at h
  | n + 1, v :: st, acc, as, rest, h => by
    obtain ⟨tk, h1, h2, h3⟩ := popN_of n st (v :: acc) as rest h
    exact ⟨v :: tk, by rw [h1]; rfl, by rw [h2]; simp, by simp [h3]⟩
theorem catS_sum (r : List AV) : ((r.map (cv E)).map fun v => v.category).sum = catS r := by
  induction r with
  | nil => rfl
  | cons v r ih =>
    simp only [List.map_cons, List.sum_cons, ih, catS]
    rcases v with x | x | x | x <;> rfl
/-- what a link of a method gives -/
theorem lnkC {own idx : Nat} {f : LK} (h : lnk own idx = some f) : ckL own f = true ∧ ∀ w ∈ lwords own idx f, w ∈ ALLW := by
  refine ⟨?_, ALLW_of (lwW h)⟩
  unfold lnk at h
  split at h
  · cases h
  · rename_i l hl
    have a := enum_nth lnkT 0 own l hl
    have b := List.all_eq_true.mp ckL_ok _ a
    have c := List.all_eq_true.mp b (idx, f) (lkp_mem l idx f h)
    simpa using c
theorem wsM_good {Z : MT} {big : List Cond} (h1 : wC Z ∈ big) (h2 : ∀ w ∈ ALLW, w ∈ big) : GoodIn big (wsM Z) := by
  intro w hw
  rcases List.mem_cons.mp hw with rfl | hw
  · exact ⟨h1, Or.inl rfl⟩
  · exact ⟨h2 w hw, good_of_word (List.mem_filter.mp hw).2⟩
/-- on, behind a call -/
theorem s_goX {mc ms : Nat} {rest : List AV} {K' : KT} (hrun : ∀ (H : Heap) (locs : List Loc) (ls : Array Slot), Rep E S H → LokL E ls Y.2.2.2.1 L → (∀ v ∈ st, lvA S v) → va_S (baseA E) s.heap H locs → fc + mc ≤ Y.1.2.2.1 → fs + ms ≤ Y.1.2.2.2.1 → va_Run p l e R s m args below meth c H locs fc fs mc ms (F0 m pc ls (st.map (cv E))) (rest.map (cv E)) (QcT E S K') (baseA E)) (hsub : ∀ v ∈ rest, v ∈ st) (hf : fc ≤ Y.1.2.2.1 → fc + mc ≤ Y.1.2.2.1) (hs : fs ≤ Y.1.2.2.2.1 → fs + ms ≤ Y.1.2.2.2.1)
    (h : ∀ v S', K' v S' → (mc ≠ 0 → fc + mc < 100 → S'.2.2.2.2 = S.2.2.2.2 + mc) ∧ PS E Y n0 p l e R s m args below meth c Q (pc + 3) L (v.toList ++ rest) S' (fc + mc) (fs + ms)) : PS E Y n0 p l e R s m args below meth c Q pc L st S fc fs := by
  intro H locs ls h1 h2 h3 h4 h5 h6 h7 h8 h9
  refine W_run (hrun H locs ls h1 h2 h4 h5 (hf h7) (hs h8)) h5 (fun v S' H1 locs1 hK hR hv hle hS => ?_)
  obtain ⟨g1, g2⟩ := h v S' hK
  refine W_sized fun hz => ?_
  have hst : (v.map (cv E)).toList ++ rest.map (cv E) = (v.toList ++ rest).map (cv E) := by cases v <;> rfl
  rw [hst]
  refine g2 H1 locs1 ls hR h2 (fun i u hu => (h3 i u hu).up hle) (fun u hu => ?_) hS (Nat.le_trans h6 hle) (hf h7) (hs h8) (fun hlt => ?_)
  · rcases List.mem_append.mp hu with z | z
    · exact hv u (by cases v <;> simp_all)
    · exact (h4 u (hsub u z)).up hle
  · obtain ⟨x1, x2⟩ := h9 (by omega)
    refine ⟨x1, ?_⟩
    by_cases hm : mc = 0
    · subst hm
      have := hR.1
      omega
    · rw [g1 hm hlt, x2]
      omega
theorem fixC (C : Ctx E X Y d p R s m args meth c) : CallFix p m c Y.2.2.1 Y.2.2.2.1 s args ALLW (own8 Y.1.2.1) := ⟨C.1, C.2.1, C.2.2.1, C.2.2.2.1, C.2.2.2.2.1⟩
theorem preC (hX : Xok E X) (C : Ctx E X Y d p R s m args meth c) {H : Heap} {as : List AV} {locs : List Loc} (hR : Rep E S H) (hS : va_S (baseA E) s.heap H locs) (hlv : ∀ v ∈ as, lvA S v) : ∀ U : State, U.heap = H → s.WarmedH U.vm → PcT E X as S (as.map (cv E)).toArray U := fun U hU hW =>
  ⟨rfl, by rw [hU]; exact hR, Stt.moved hX hW (by rw [hU]; exact hS.1) (fun q h1 h2 => by rw [hU]; exact hS.2.1 q h1 h2) C.2.2.2.2.2.2.1, hlv⟩
set_option maxRecDepth 100000 in
theorem roomC (C : Ctx E X Y d p R s m args meth c) {Z : MT} (h : ckN Z = true) : (rmOf d Z).frames + 1 ≤ R.frames ∧ 8 + (Z.2.2.2.1 + 11) + (rmOf d Z).locals ≤ R.locals := by
  simp only [ckN, Bool.and_eq_true] at h
  have h40 := Nat.le_of_ble_eq_true h.2
  have f1 := C.2.2.2.2.2.2.2.1
  have f2 := C.2.2.2.2.2.2.2.2.1
  refine ⟨?_, ?_⟩
  · simp only [rmOf]
    omega
  · simp only [rmOf]
    omega
theorem ckN_of {Z : MT} (h : ckN Z = true) : Z.2.1.cls = own8 Z.1.2.1 ∧ plainName Z.2.1.cls = true ∧ Z.2.1.cls ≠ "java/lang/invoke/MethodHandle" ∧ Z.2.1.cls ≠ "java/lang/invoke/VarHandle" ∧ rkOf Z.2.2.2.2 = Z.1.2.2.2.2 ∧ Z.2.2.2.1 ≤ 40 := by
  simp only [ckN, Bool.and_eq_true, decide_eq_true_eq] at h
  exact ⟨h.1.1.1.1.1, h.1.1.1.1.2, h.1.1.1.2, h.1.1.2, h.1.2, Nat.le_of_ble_eq_true h.2⟩
theorem rcv_of {Z : MT} {as rest : List AV} (h : rcv Z (some (as, rest)) = true) : ∃ (j g : Nat) (As : List AV), as = aR j g :: As ∧ clsP j = Z.1.2.1 ∧ clsP j < 7 := by
  unfold rcv at h
  split at h
  · rename_i r q rst heq
    simp only [Option.some.injEq, Prod.mk.injEq] at heq
    simp only [Bool.and_eq_true] at h
    exact ⟨r.1, r.2, q, heq.1, Nat.eq_of_beq_eq_true h.2, Nat.lt_succ_of_le (Nat.le_of_ble_eq_true h.1)⟩
  · cases h
/-- the receiver is an object of the class -/
theorem rcvr_of (C : Ctx E X Y d p R s m args meth c) {H : Heap} (hR : Rep E S H) {j g : Nat} (hl : lvP S j g) (hc : clsP j < 7) : cv E (aR j g) = .ref (E.2.2.1 + numP j g) ∧ ∃ cellB : Cell, H[E.2.2.1 + numP j g]? = some cellB ∧ cellB.vm.isStatics = false ∧ s.vm.findClass (own8 (clsP j)) = some cellB.cls := by
  have hj := cls_lt hc
  obtain ⟨a1, a2⟩ := hl.in hj
  have hg := wld_get (E := E) a1 a2
  rw [el_obj hc] at hg
  obtain ⟨q, hq⟩ := nth_some vwCl (clsP j) hc
  obtain ⟨c1, -, -, -, c5, -⟩ := clsF hq
  have := va_recv (D := E.1) (cl := vwCl) (tys := tysE E) C.2.2.2.2.2.2.1.1 hR.2.1 c1 hg
  rw [c5] at this
  exact ⟨by simp [cv, adr, hj], this⟩
theorem lv_as {S : St} {st tk rest as : List AV} (e1 : st = tk ++ rest) (e2 : as = tk.reverse ++ []) (h4 : ∀ v ∈ st, lvA S v) : ∀ v ∈ as, lvA S v := fun v hv => h4 v (by
  rw [e1]
  rw [e2] at hv
  exact List.mem_append_left _ (by simpa using hv))
theorem in_sub {st tk rest : List AV} (h : st = tk ++ rest) : ∀ v ∈ rest, v ∈ st := fun v hv => by rw [h]; exact List.mem_append_right _ hv
theorem s_goV (C : Ctx E X Y d p R s m args meth c) (hX : Xok E X) {ix na : Nat} {Z : MT} {as rest : List AV} (hd : decode Y.2.2.1 pc = .ok (.invokevirtual ix, 3)) (hl : lnk Y.1.2.1 ix = some (0, Z, na)) (hp : popN (na + 1) st [] = some (as, rest)) (hrc : rcv Z (some (as, rest)) = true) (hcat : catS rest ≤ 8) (hf : fc ≤ Y.1.2.2.1 → fc + Z.1.2.2.1 ≤ Y.1.2.2.1) (hs : fs ≤ Y.1.2.2.2.1 → fs + Z.1.2.2.2.1 ≤ Y.1.2.2.2.1) {K' : KT} (hM : MetC E X l d Z as S K')
    (h : ∀ v S', K' v S' → (Z.1.2.2.1 ≠ 0 → fc + Z.1.2.2.1 < 100 → S'.2.2.2.2 = S.2.2.2.2 + Z.1.2.2.1) ∧ PS E Y n0 p l e R s m args below meth c Q (pc + 3) L (v.toList ++ rest) S' (fc + Z.1.2.2.1) (fs + Z.1.2.2.2.1)) : PS E Y n0 p l e R s m args below meth c Q pc L st S fc fs := by
  obtain ⟨tk, e1, e2, e3⟩ := popN_of _ _ _ _ _ hp
  obtain ⟨j, g, As, e4, e5, e6⟩ := rcv_of hrc
  obtain ⟨k1, k2⟩ := lnkC hl
  simp only [ckL, Bool.and_eq_true, decide_eq_true_eq] at k1
  obtain ⟨n1, n2, n3, n4, n5, n6⟩ := ckN_of k1.1
  refine s_goX (fun H locs ls h1 h2 h4 hS hf hs => ?_) (in_sub e1) hf hs h
  have hlv : lvP S j g := h4 (aR j g) (by
    rw [e1]
    refine List.mem_append_left _ ?_
    have : aR j g ∈ tk.reverse ++ [] := by rw [← e2, e4]; exact List.mem_cons_self
    simpa using this)
  obtain ⟨r1, r2⟩ := rcvr_of C h1 hlv e6
  have hst : st.map (cv E) = (As.map (cv E)).reverse ++ Value.ref (E.2.2.1 + numP j g) :: rest.map (cv E) := by
    have htk : tk = (aR j g :: As).reverse := by rw [← e4, e2]; simp
    rw [e1, htk, ← r1]
    simp
  have hw := k2
  simp only [lwords] at hw
  have hG : GoodIn ALLW (wsV (own8 Y.1.2.1) ix Z.2.1.cls Z.2.1 (wsM Z)) := by
    intro w hw'
    rcases List.mem_append.mp hw' with z | z
    · simp only [List.mem_cons, List.not_mem_nil, or_false] at z
      rcases z with rfl | rfl | rfl | rfl
      · exact ⟨hw _ (by simp), Or.inl rfl⟩
      · exact ⟨hw _ (by simp), Or.inl rfl⟩
      · exact ⟨hw _ (by simp), Or.inl rfl⟩
      · exact ⟨hw _ (by simp), Or.inl rfl⟩
    · exact wsM_good (hw _ (by simp)) (fun _ z => z) w z
  have hn : As.length = na := by
    have : as.length = na + 1 := by rw [e2]; simp [e3]
    rw [e4] at this
    simpa using this
  have hrun := va_runV (H := H) (locs := locs) (cells := fc) (slots := fs) (below := below) (meth := meth) (p := p) (l := l) (e := e) (R := R) (b := E.2.2.1 + numP j g) (As := As.map (cv E)) (rest := rest.map (cv E)) (g := F0 m pc ls (st.map (cv E))) (fixC C) hM
    (cwV (C := Z.2.1.cls) na C.2.2.2.2.1 hG rfl rfl rfl ⟨rfl, n3, n4, k1.2⟩ (roomC C k1.1))
    ⟨PcT.blind hX, by rw [n1, ← e5]; exact r2, fun U hU hW => by
      have := preC hX C (as := as) h1 hS (lv_as e1 e2 h4) U hU hW
      rw [e4, List.map_cons, r1] at this
      rw [e4]
      exact this⟩
    rfl (by simp [hn]) h2.1.1 hst (by
      have := catS_sum (E := E) rest
      show 2 * 0 + _ ≤ 8
      omega) hd ⟨Nat.le_trans hf C.2.2.2.2.2.2.2.2.2.1, Nat.le_trans hs C.2.2.2.2.2.2.2.2.2.2.1⟩
  exact hrun
end SNI
end
section
/-! SOUNDNESS, on: static calls, constructors, the library's own -/
section SNJ
variable {E : Env0} {X : State → Prop} {Y : MT} {d n0 : Nat} {p : Program} {l : Launch} {e : Env} {R : Room} {s : State} {m : MethodId} {args : Array Value} {below : List Frame} {meth : Method} {c : Code} {Q : State → Prop}
variable {pc t fc fs : Nat} {L : List (Option AV)} {st : List AV} {S : St}
theorem catW {pc : Nat} {ls : Array Slot} {rest : List AV} {st0 : List Value} (hcat : catS rest ≤ 8) : 2 * (F0 m pc ls st0).monitorRoom + ((rest.map (cv E)).map fun v => v.category).sum ≤ 8 := by
  have := catS_sum (E := E) rest
  show 2 * 0 + _ ≤ 8
  omega
theorem s_goS (C : Ctx E X Y d p R s m args meth c) (hX : Xok E X) {ix na : Nat} {Z : MT} {as rest : List AV} (hd : decode Y.2.2.1 pc = .ok (.invokestatic ix, 3)) (hl : lnk Y.1.2.1 ix = some (1, Z, na)) (hp : popN na st [] = some (as, rest)) (hcat : catS rest ≤ 8) (hf : fc ≤ Y.1.2.2.1 → fc + Z.1.2.2.1 ≤ Y.1.2.2.1) (hs : fs ≤ Y.1.2.2.2.1 → fs + Z.1.2.2.2.1 ≤ Y.1.2.2.2.1) {K' : KT} (hM : MetC E X l d Z as S K')
    (h : ∀ v S', K' v S' → (Z.1.2.2.1 ≠ 0 → fc + Z.1.2.2.1 < 100 → S'.2.2.2.2 = S.2.2.2.2 + Z.1.2.2.1) ∧ PS E Y n0 p l e R s m args below meth c Q (pc + 3) L (v.toList ++ rest) S' (fc + Z.1.2.2.1) (fs + Z.1.2.2.2.1)) : PS E Y n0 p l e R s m args below meth c Q pc L st S fc fs := by
  obtain ⟨tk, e1, e2, e3⟩ := popN_of _ _ _ _ _ hp
  obtain ⟨k1, k2⟩ := lnkC hl
  simp only [ckL, Bool.and_eq_true, decide_eq_true_eq] at k1
  obtain ⟨n1, n2, n3, n4, n5, n6⟩ := ckN_of k1.1.1
  refine s_goX (fun H locs ls h1 h2 h4 hS hf hs => ?_) (in_sub e1) hf hs h
  have hst : st.map (cv E) = (as.map (cv E)).reverse ++ rest.map (cv E) := by
    rw [e1, e2]
    simp
  have hw := k2
  simp only [lwords] at hw
  have hG : GoodIn ALLW (wsS (own8 Y.1.2.1) ix Z.2.1 (wsM Z)) := by
    intro w hw'
    rcases List.mem_append.mp hw' with z | z
    · simp only [List.mem_cons, List.not_mem_nil, or_false] at z
      rcases z with rfl | rfl | rfl
      · exact ⟨hw _ (by simp), Or.inl rfl⟩
      · exact ⟨hw _ (by simp), Or.inl rfl⟩
      · rw [← k1.2]
        exact ⟨hw _ (by simp), Or.inl rfl⟩
    · exact wsM_good (hw _ (by simp)) (fun _ z => z) w z
  exact va_runS (H := H) (locs := locs) (cells := fc) (slots := fs) (below := below) (meth := meth) (p := p) (l := l) (e := e) (R := R) (As := as.map (cv E)) (rest := rest.map (cv E)) (g := F0 m pc ls (st.map (cv E))) (fixC C) hM
    (cwS na C.2.2.2.2.1 hG rfl rfl rfl ⟨k1.2, n3, n4, k1.1.2⟩ (roomC C k1.1.1))
    ⟨PcT.blind hX, preC hX C h1 hS (lv_as e1 e2 h4)⟩
    rfl (by rw [e2]; simp [e3]) h2.1.1 hst (catW hcat) hd ⟨Nat.le_trans hf C.2.2.2.2.2.2.2.2.2.1, Nat.le_trans hs C.2.2.2.2.2.2.2.2.2.2.1⟩
theorem lnk11 {own ix na : Nat} {Z : MT} (hl : lnk own ix = some (11, Z, na)) : own = 0 ∧ ix = 72 ∧ Z.2.1 = yX5_within := by
  obtain ⟨k1, -⟩ := lnkC hl
  simp only [ckL, Bool.and_eq_true, decide_eq_true_eq] at k1
  have ho := Nat.eq_of_beq_eq_true k1.2
  subst ho
  refine ⟨rfl, ?_, k1.1.2⟩
  have hm := lkp_mem lnk_0 ix (11, Z, na) hl
  have := List.all_eq_true.mp ckNest.1 _ hm
  exact Nat.eq_of_beq_eq_true (by simpa using this)
theorem lnk12 {own ix na : Nat} {Z : MT} (hl : lnk own ix = some (12, Z, na)) : own = 5 ∧ ((ix = 34 ∧ Z.2.1 = yX1_init) ∨ (ix = 41 ∧ Z.2.1 = yX3_init)) := by
  obtain ⟨k1, -⟩ := lnkC hl
  simp only [ckL, Bool.and_eq_true, decide_eq_true_eq] at k1
  have ho := Nat.eq_of_beq_eq_true k1.2
  subst ho
  refine ⟨rfl, ?_⟩
  have hm := lkp_mem lnk_5 ix (12, Z, na) hl
  have := List.all_eq_true.mp ckNest.2 _ hm
  have h2 : (Nat.beq ix 34 && decide (Z.2.1 = yX1_init) || Nat.beq ix 41 && decide (Z.2.1 = yX3_init)) = true := this
  simp only [Bool.or_eq_true, Bool.and_eq_true, decide_eq_true_eq] at h2
  rcases h2 with ⟨a, b⟩ | ⟨a, b⟩
  · exact Or.inl ⟨Nat.eq_of_beq_eq_true a, b⟩
  · exact Or.inr ⟨Nat.eq_of_beq_eq_true a, b⟩
theorem s_goN (C : Ctx E X Y d p R s m args meth c) (hX : Xok E X) {ix na : Nat} {Z : MT} {as rest : List AV} (hd : decode Y.2.2.1 pc = .ok (.invokestatic ix, 3)) (hl : lnk Y.1.2.1 ix = some (11, Z, na)) (hp : popN na st [] = some (as, rest)) (hcat : catS rest ≤ 8) (hf : fc ≤ Y.1.2.2.1 → fc + Z.1.2.2.1 ≤ Y.1.2.2.1) (hs : fs ≤ Y.1.2.2.2.1 → fs + Z.1.2.2.2.1 ≤ Y.1.2.2.2.1) {K' : KT} (hM : MetC E X l d Z as S K')
    (h : ∀ v S', K' v S' → (Z.1.2.2.1 ≠ 0 → fc + Z.1.2.2.1 < 100 → S'.2.2.2.2 = S.2.2.2.2 + Z.1.2.2.1) ∧ PS E Y n0 p l e R s m args below meth c Q (pc + 3) L (v.toList ++ rest) S' (fc + Z.1.2.2.1) (fs + Z.1.2.2.2.1)) : PS E Y n0 p l e R s m args below meth c Q pc L st S fc fs := by
  obtain ⟨tk, e1, e2, e3⟩ := popN_of _ _ _ _ _ hp
  obtain ⟨k1, k2⟩ := lnkC hl
  obtain ⟨o1, o2, o3⟩ := lnk11 hl
  simp only [ckL, Bool.and_eq_true, decide_eq_true_eq] at k1
  obtain ⟨n1, n2, n3, n4, n5, n6⟩ := ckN_of k1.1.1.1
  refine s_goX (fun H locs ls h1 h2 h4 hS hf hs => ?_) (in_sub e1) hf hs h
  have hst : st.map (cv E) = (as.map (cv E)).reverse ++ rest.map (cv E) := by
    rw [e1, e2]
    simp
  have hw := k2
  simp only [lwords] at hw
  have hown : own8 Y.1.2.1 = RX0 := by rw [o1]; rfl
  have hNw : va_Nw (.methodLinkNest (own8 Y.1.2.1) ix Z.2.1 RX5) s := by
    rw [hown, o2, o3]
    exact C.2.2.2.2.2.2.1.2.2.2.2.2.2.2.2.1
  exact va_runSN (H := H) (locs := locs) (cells := fc) (slots := fs) (below := below) (meth := meth) (p := p) (l := l) (e := e) (R := R) (As := as.map (cv E)) (rest := rest.map (cv E)) (g := F0 m pc ls (st.map (cv E))) (fixC C) hM
    ⟨va_cnB na C.2.2.2.2.1 (wsM_good (hw _ (by simp)) (fun _ z => z)) rfl rfl rfl hNw (C.2.2.2.2.1 _ (hw _ (by simp))) ⟨n3, n4, k1.1.1.2⟩ (roomC C k1.1.1.1), C.2.2.2.2.1 _ (hw _ (by simp)), trivial⟩
    ⟨PcT.blind hX, preC hX C h1 hS (lv_as e1 e2 h4)⟩
    rfl (by rw [e2]; simp [e3]) h2.1.1 hst (catW hcat) hd ⟨Nat.le_trans hf C.2.2.2.2.2.2.2.2.2.1, Nat.le_trans hs C.2.2.2.2.2.2.2.2.2.2.1⟩
theorem s_goI (C : Ctx E X Y d p R s m args meth c) (hX : Xok E X) {ix na kd : Nat} {Z : MT} {as rest : List AV} (hkd : kd = 2 ∨ kd = 12) (hd : decode Y.2.2.1 pc = .ok (.invokespecial ix, 3)) (hl : lnk Y.1.2.1 ix = some (kd, Z, na)) (hp : popN (na + 1) st [] = some (as, rest)) (hrc : rcv Z (some (as, rest)) = true) (hcat : catS rest ≤ 8) (hf : fc ≤ Y.1.2.2.1 → fc + Z.1.2.2.1 ≤ Y.1.2.2.1) (hs : fs ≤ Y.1.2.2.2.1 → fs + Z.1.2.2.2.1 ≤ Y.1.2.2.2.1) {K' : KT} (hM : MetC E X l d Z as S K')
    (h : ∀ v S', K' v S' → (Z.1.2.2.1 ≠ 0 → fc + Z.1.2.2.1 < 100 → S'.2.2.2.2 = S.2.2.2.2 + Z.1.2.2.1) ∧ PS E Y n0 p l e R s m args below meth c Q (pc + 3) L (v.toList ++ rest) S' (fc + Z.1.2.2.1) (fs + Z.1.2.2.2.1)) : PS E Y n0 p l e R s m args below meth c Q pc L st S fc fs := by
  obtain ⟨tk, e1, e2, e3⟩ := popN_of _ _ _ _ _ hp
  obtain ⟨j, g, As, e4, e5, e6⟩ := rcv_of hrc
  obtain ⟨k1, k2⟩ := lnkC hl
  have k1' : ckN Z = true ∧ (parseMethodDescriptor Z.2.1.desc).map (fun d => d.parameters.length) = some na ∧ Z.2.1.name = "<init>" ∧ Z.2.2.2.2 = none ∧ Jvm.Cond.instanceMethod Z.2.1 ∈ ALLW ∧ Jvm.Cond.initialized Z.2.1.cls ∈ ALLW ∧ wC Z ∈ ALLW := by
    rcases hkd with rfl | rfl
    · simp only [ckL, Bool.and_eq_true, decide_eq_true_eq] at k1
      simp only [lwords] at k2
      exact ⟨k1.1.1.1, k1.1.1.2, k1.1.2, k1.2, k2 _ (by simp), k2 _ (by simp), k2 _ (by simp)⟩
    · simp only [ckL, Bool.and_eq_true, decide_eq_true_eq] at k1
      simp only [lwords] at k2
      exact ⟨k1.1.1.1.1, k1.1.1.1.2, k1.1.1.2, k1.1.2, k2 _ (by simp), k2 _ (by simp), k2 _ (by simp)⟩
  obtain ⟨q1, q2, q3, q4, q5, q6, q7⟩ := k1'
  obtain ⟨n1, n2, n3, n4, n5, n6⟩ := ckN_of q1
  refine s_goX (fun H locs ls h1 h2 h4 hS hf hs => ?_) (in_sub e1) hf hs h
  have hlv : lvP S j g := h4 (aR j g) (by
    rw [e1]
    refine List.mem_append_left _ ?_
    have : aR j g ∈ tk.reverse ++ [] := by rw [← e2, e4]; exact List.mem_cons_self
    simpa using this)
  obtain ⟨r1, r2⟩ := rcvr_of C h1 hlv e6
  have hst : st.map (cv E) = (As.map (cv E)).reverse ++ Value.ref (E.2.2.1 + numP j g) :: rest.map (cv E) := by
    have htk : tk = (aR j g :: As).reverse := by rw [← e4, e2]; simp
    rw [e1, htk, ← r1]
    simp
  have hn : As.length = na := by
    have : as.length = na + 1 := by rw [e2]; simp [e3]
    rw [e4] at this
    simpa using this
  have hpre : PreS s H (PcT E X as S) (Value.ref (E.2.2.1 + numP j g) :: As.map (cv E)) := ⟨PcT.blind hX, fun U hU hW => by
      have := preC hX C (as := as) h1 hS (lv_as e1 e2 h4) U hU hW
      rw [e4, List.map_cons, r1] at this
      rw [e4]
      exact this⟩
  have hwc : wC Z = Cond.code Z.2.1 Z.2.2.1 Z.2.2.2.1 none := by rw [wC, q4]
  rcases hkd with rfl | rfl
  · simp only [lwords] at k2
    exact va_runI (H := H) (locs := locs) (cells := fc) (slots := fs) (below := below) (meth := meth) (p := p) (l := l) (e := e) (R := R) (b := E.2.2.1 + numP j g) (As := As.map (cv E)) (rest := rest.map (cv E)) (g := F0 m pc ls (st.map (cv E))) (fixC C) hM
      (cwI na C.2.2.2.2.1 (wsM_good q7 (fun _ z => z)) (by rw [wsM, hwc]) rfl rfl (C.2.2.2.2.1 _ q6) (C.2.2.2.2.1 _ (k2 _ (by simp))) (C.2.2.2.2.1 _ q5) q3 ⟨n3, n4, q2⟩ (roomC C q1))
      hpre rfl (by simp [hn]) h2.1.1 hst (catW hcat) hd ⟨Nat.le_trans hf C.2.2.2.2.2.2.2.2.2.1, Nat.le_trans hs C.2.2.2.2.2.2.2.2.2.2.1⟩
  · obtain ⟨o1, o2⟩ := lnk12 hl
    have hown : own8 Y.1.2.1 = RX5 := by rw [o1]; rfl
    have hNw : va_Nw (.methodLinkNest (own8 Y.1.2.1) ix Z.2.1 RX5) s := by
      have hst := C.2.2.2.2.2.2.1
      rcases o2 with ⟨rfl, z⟩ | ⟨rfl, z⟩
      · rw [hown, z]
        exact hst.2.2.2.2.2.2.1
      · rw [hown, z]
        exact hst.2.2.2.2.2.2.2.1
    exact va_runIN (H := H) (locs := locs) (cells := fc) (slots := fs) (below := below) (meth := meth) (p := p) (l := l) (e := e) (R := R) (b := E.2.2.1 + numP j g) (As := As.map (cv E)) (rest := rest.map (cv E)) (g := F0 m pc ls (st.map (cv E))) (fixC C) hM
      ⟨va_cnB na C.2.2.2.2.1 (wsM_good q7 (fun _ z => z)) (by rw [wsM, hwc]) rfl rfl hNw (C.2.2.2.2.1 _ q6) ⟨n3, n4, q2⟩ (roomC C q1), q3, C.2.2.2.2.1 _ q5⟩
      hpre rfl (by simp [hn]) h2.1.1 hst (catW hcat) hd ⟨Nat.le_trans hf C.2.2.2.2.2.2.2.2.2.1, Nat.le_trans hs C.2.2.2.2.2.2.2.2.2.2.1⟩
/-- Object.<init>, min, max -/
theorem s_obj (C : Ctx E X Y d p R s m args meth c) {ix na : Nat} {Z : MT} {j g : Nat} {r : List AV} (hd : decode Y.2.2.1 pc = .ok (.invokespecial ix, 3)) (hl : lnk Y.1.2.1 ix = some (3, Z, na)) (hcat : catS r ≤ 8) (h : PS E Y n0 p l e R s m args below meth c Q (pc + 3) L r S fc fs) : PS E Y n0 p l e R s m args below meth c Q pc L (aR j g :: r) S fc fs := by
  obtain ⟨-, k2⟩ := lnkC hl
  simp only [lwords] at k2
  intro H locs ls h1 h2 h3 h4 h5 h6 h7 h8 h9
  have f1 := C.2.2.2.2.2.2.2.1
  have f2 := C.2.2.2.2.2.2.2.2.1
  have := catS_sum (E := E) r
  refine W.objInit C.1 C.2.1 C.2.2.2.1 (C.2.2.2.2.1 _ (k2 (.methodLink (own8 Y.1.2.1) ix objectInit) (by simp))) (C.2.2.2.2.1 _ (k2 (.instanceMethod objectInit) (by simp))) (C.2.2.2.2.1 _ (k2 (.code objectInit ⟨#[0xb1]⟩ 1 none) (by simp))) rfl (by rw [C.2.2.1]; exact h2.1.1) rfl hd (by omega) ?_ ?_
  · show 2 * 0 + _ + _ ≤ _
    omega
  · exact W.eq rfl (h H locs ls h1 h2 h3 (lvt h4) h5 h6 h7 h8 h9)
theorem s_min (C : Ctx E X Y d p R s m args meth c) {ix na : Nat} {Z : MT} {x y : Int32} {r : List AV} (hd : decode Y.2.2.1 pc = .ok (.invokestatic ix, 3)) (hl : lnk Y.1.2.1 ix = some (4, Z, na)) (hcat : catS r ≤ 8) (h : PS E Y n0 p l e R s m args below meth c Q (pc + 3) L (aI (if y < x then y else x) :: r) S fc fs) : PS E Y n0 p l e R s m args below meth c Q pc L (aI y :: aI x :: r) S fc fs := by
  obtain ⟨-, k2⟩ := lnkC hl
  simp only [lwords] at k2
  intro H locs ls h1 h2 h3 h4 h5 h6 h7 h8 h9
  have f1 := C.2.2.2.2.2.2.2.1
  have f2 := C.2.2.2.2.2.2.2.2.1
  have := catS_sum (E := E) r
  exact va_mmin C.1 C.2.1 (by rw [C.2.2.1]; exact h2.1.1.symm) C.2.2.2.1 (C.2.2.2.2.1 _ (k2 _ (by simp))) (C.2.2.2.2.1 _ (k2 _ (by simp))) (C.2.2.2.2.1 _ (k2 _ (by simp))) (C.2.2.2.2.1 _ (k2 _ (by simp))) (by omega) (by omega) (Nat.le_trans h7 C.2.2.2.2.2.2.2.2.2.1) (Nat.le_trans h8 C.2.2.2.2.2.2.2.2.2.2.1) hd (h H locs ls h1 h2 h3 (lv1 (v := aI (if y < x then y else x)) trivial (lvt (lvt h4))) h5 h6 h7 h8 h9)
theorem s_max (C : Ctx E X Y d p R s m args meth c) {ix na : Nat} {Z : MT} {x y : Int32} {r : List AV} (hd : decode Y.2.2.1 pc = .ok (.invokestatic ix, 3)) (hl : lnk Y.1.2.1 ix = some (5, Z, na)) (hcat : catS r ≤ 8) (h : PS E Y n0 p l e R s m args below meth c Q (pc + 3) L (aI (if x < y then y else x) :: r) S fc fs) : PS E Y n0 p l e R s m args below meth c Q pc L (aI y :: aI x :: r) S fc fs := by
  obtain ⟨-, k2⟩ := lnkC hl
  simp only [lwords] at k2
  intro H locs ls h1 h2 h3 h4 h5 h6 h7 h8 h9
  have f1 := C.2.2.2.2.2.2.2.1
  have f2 := C.2.2.2.2.2.2.2.2.1
  have := catS_sum (E := E) r
  exact va_mmax C.1 C.2.1 (by rw [C.2.2.1]; exact h2.1.1.symm) C.2.2.2.1 (C.2.2.2.2.1 _ (k2 _ (by simp))) (C.2.2.2.2.1 _ (k2 _ (by simp))) (C.2.2.2.2.1 _ (k2 _ (by simp))) (C.2.2.2.2.1 _ (k2 _ (by simp))) (by omega) (by omega) (Nat.le_trans h7 C.2.2.2.2.2.2.2.2.2.1) (Nat.le_trans h8 C.2.2.2.2.2.2.2.2.2.2.1) hd (h H locs ls h1 h2 h3 (lv1 (v := aI (if x < y then y else x)) trivial (lvt (lvt h4))) h5 h6 h7 h8 h9)
/-- arraycopy of ints -/
theorem s_copy (C : Ctx E X Y d p R s m args meth c) {ix na : Nat} {Z : MT} {j g a b ks kd kn : Nat} {r : List AV} (hfc : fc < 100) (hd : decode Y.2.2.1 pc = .ok (.invokestatic ix, 3)) (hl : lnk Y.1.2.1 ix = some (6, Z, na)) (hcat : catS r ≤ 8) (hj : iak j = 1) (ha : iak a = 1) (hb1 : ks + kn ≤ aln S.2.2.2.1 j g) (hb2 : kd + kn ≤ aln S.2.2.2.1 a b) (hkn : kn ≤ 1000)
    (h : PS E Y n0 p l e R s m args below meth c Q (pc + 3) L r ((fun x y k => if x = a ∧ y = b ∧ kd ≤ k ∧ k < kd + kn then S.1 j g (ks + (k - kd)) else S.1 x y k), S.2) fc fs) : PS E Y n0 p l e R s m args below meth c Q pc L (aI (nI kn) :: aI (nI kd) :: aR a b :: aI (nI ks) :: aR j g :: r) S fc fs := by
  obtain ⟨-, k2⟩ := lnkC hl
  simp only [lwords] at k2
  intro H locs ls h1 h2 h3 h4 h5 h6 h7 h8 h9
  have f1 := C.2.2.2.2.2.2.2.1
  have f2 := C.2.2.2.2.2.2.2.2.1
  have hsum := catS_sum (E := E) r
  have l1 := aln_lt h1.2.2.2.2.1 j g
  have l2 := aln_lt h1.2.2.2.2.1 a b
  have hlj : lvP S j g := lvh (lvt (lvt (lvt (lvt h4))))
  have hla : lvP S a b := lvh (lvt (lvt h4))
  have hj6 := iak_lt (Or.inl hj)
  have ha6 := iak_lt (Or.inl ha)
  obtain ⟨a1, a2⟩ := hlj.in hj6
  obtain ⟨b1, b2⟩ := hla.in ha6
  have hgj := wld_get (E := E) a1 a2
  have hga := wld_get (E := E) b1 b2
  rw [el_int hj] at hgj
  rw [el_int ha] at hga
  have haj : cv E (aR j g) = .ref (E.2.2.1 + numP j g) := by simp [cv, adr, hj6]
  have haa : cv E (aR a b) = .ref (E.2.2.1 + numP a b) := by simp [cv, adr, ha6]
  rw [List.map_cons, List.map_cons, List.map_cons, List.map_cons, List.map_cons, haj, haa]
  obtain ⟨s1, s2⟩ := nI_nn (k := ks) (by omega)
  obtain ⟨d1, d2⟩ := nI_nn (k := kd) (by omega)
  obtain ⟨n1, n2⟩ := nI_nn (k := kn) (by omega)
  have hnw : nativeFrameWords "java/lang/System" "arraycopy" 5 + 11 ≤ 100 := by decide +kernel
  refine va_copyi (D := E.1) (cl := vwCl) (tys := tysE E) (ws := wld E S) (A := baseA E) (H0 := s.heap) (ty := .int) C.1 C.2.1 (by rw [C.2.2.1]; exact h2.1.1.symm) C.2.2.2.1 (C.2.2.2.2.1 _ (k2 _ (by simp))) (C.2.2.2.2.1 _ (k2 _ (by simp))) (C.2.2.2.2.1 _ (k2 _ (by simp))) (C.2.2.2.2.1 _ (k2 _ (by simp))) C.2.2.2.2.2.2.1.1 h1.2.1 (wld_D E S) h5 (numP j g) (numP a b) 0 0 hgj hga rfl rfl rfl s1 d1 n1 (by rw [s2, n2]; exact hb1) (by rw [d2, n2]; exact hb2) (fun i _ => rfl) (by omega) (by omega) hd (fun H1 locs1 hP _ hS => ?_)
  rw [s2, d2, n2] at hP
  generalize hS1 : (((fun x y k => if x = a ∧ y = b ∧ kd ≤ k ∧ k < kd + kn then S.1 j g (ks + (k - kd)) else S.1 x y k), S.2) : St) = S1 at h
  have hrow : S1.1 a b = va_cpy (S.1 j g) (S.1 a b) ks kd kn := by
    rw [← hS1]
    funext k
    simp [va_cpy]
  refine s_arr (S := S) (S' := S1) (j := a) (g := b) ha6 (by rw [← hS1]) (by rw [← hS1]) (fun z hz k => by
      rw [← hS1]
      dsimp only
      rw [if_neg (fun y => by omega)]) (fun q hq => ?_) hfc h1 h2 h3 hla (lvt (lvt (lvt (lvt (lvt h4))))) h6 h7 h8 h9 (fun x y z hz => Or.inl (by rw [← hS1] at hz; exact hz)) ?_ hS h
  · have hne : ¬ (q.1 = a ∧ q.2 = b) := fun z => hq (Prod.ext z.1 z.2)
    have e1 : S1.1 q.1 q.2 = S.1 q.1 q.2 := by
      rw [← hS1]
      funext k
      dsimp only
      rw [if_neg (fun y => hne ⟨y.1, y.2.1⟩)]
    have e0 : S1.2 = S.2 := by rw [← hS1]
    have e3 : fvl E S1 q.1 q.2 = fvl E S q.1 q.2 := funext fun z => by
      unfold fvl
      rw [e0, e1]
    unfold el
    rw [e0, e1, e3]
  · rw [el_int ha, hrow]
    have e0 : S1.2 = S.2 := by rw [← hS1]
    rw [e0]
    exact hP
/-- the copy of an int row -/
theorem s_clone (C : Ctx E X Y d p R s m args meth c) {ix na : Nat} {Z : MT} {j g a b : Nat} {r : List AV} (hfc : fc < 100) (hd : decode Y.2.2.1 pc = .ok (.invokevirtual ix, 3)) (hl : lnk Y.1.2.1 ix = some (7, Z, na)) (hcat : catS r ≤ 8) (hj : iak j = 1) (hi : idOf S.2.2.2.2 = (a, b)) (ha : iak a = 1) (ha31 : ¬ a = 31) (hln : aln S.2.2.2.1 a b = aln S.2.2.2.1 j g) (hg1 : fc + 1 ≤ Y.1.2.2.1) (hg2 : fs + aln S.2.2.2.1 j g ≤ Y.1.2.2.2.1)
    (h : PS E Y n0 p l e R s m args below meth c Q (pc + 3) L (aR a b :: r) ((fun x y z => if x = a ∧ y = b then S.1 j g z else S.1 x y z), S.2.1, zr3 S.2.2.1 a b false, S.2.2.2.1, S.2.2.2.2 + 1) (fc + 1) (fs + aln S.2.2.2.1 j g)) : PS E Y n0 p l e R s m args below meth c Q pc L (aR j g :: r) S fc fs := by
  obtain ⟨-, k2⟩ := lnkC hl
  simp only [lwords] at k2
  intro H locs ls h1 h2 h3 h4 h5 h6 h7 h8 h9
  have f1 := C.2.2.2.2.2.2.2.1
  have f2 := C.2.2.2.2.2.2.2.2.1
  have hsum := catS_sum (E := E) r
  have hlj : lvP S j g := lvh h4
  have hj6 := iak_lt (Or.inl hj)
  obtain ⟨a1, a2⟩ := hlj.in hj6
  have hgj := wld_get (E := E) a1 a2
  rw [el_int hj] at hgj
  have haj : cv E (aR j g) = .ref (E.2.2.1 + numP j g) := by simp [cv, adr, hj6]
  rw [List.map_cons, haj]
  have hst := C.2.2.2.2.2.2.1
  generalize hS1 : (((fun x y z => if x = a ∧ y = b then S.1 j g z else S.1 x y z), S.2.1, zr3 S.2.2.1 a b false, S.2.2.2.1, S.2.2.2.2 + 1) : St) = S1 at h
  have hnm : s.vm.findClass "[I" = some (E.2.1 0) := by
    have h9 := (hst.1.2 0 (E.2.1 0, .int) rfl).2
    have e : "[" ++ FieldType.int.toString = "[I" := by decide +kernel
    rw [← e]
    exact h9
  have hel : el E S1 (a, b) = .inl (E.2.1 0, aln S.2.2.2.1 j g, .inl (S.1 j g)) := by
    rw [el_int ha]
    have e1 : S1.1 a b = S.1 j g := by rw [← hS1]; funext z; simp
    have e2 : S1.2.2.2.1 = S.2.2.2.1 := by rw [← hS1]
    rw [e1, e2, hln]
  refine va_clone (D := E.1) (cl := vwCl) (tys := tysE E) (ws := wld E S) (A := baseA E) (H0 := s.heap) (ty := .int) (ad := "[I") C.1 C.2.1 (by rw [C.2.2.1]; exact h2.1.1.symm) C.2.2.2.1 (C.2.2.2.2.1 _ (k2 _ (by simp))) (C.2.2.2.2.1 _ (k2 _ (by simp))) (C.2.2.2.2.1 _ (k2 _ (by simp))) (C.2.2.2.2.1 _ (k2 _ (by simp))) (C.2.2.2.2.1 _ (k2 _ (by simp))) hst.2.2.2.2.2.2.2.2.2.1 hst.1 h1.2.1 (wld_D E S) h5 (fun z hz => ?_) (numP j g) 0 hgj rfl hnm (fun i v hv => va_fit (fun _ _ => rfl) i v hv) (by omega) (by omega) (Nat.le_trans hg1 C.2.2.2.2.2.2.2.2.2.1) (Nat.le_trans hg2 C.2.2.2.2.2.2.2.2.2.2.1) hd (fun z H1 hK hP hD hS => ?_)
  · have := (h9 hfc).1
    show E.2.2.1 ≤ z
    omega
  · have hid := idLt S.2.2.2.2
    rw [hi] at hid
    dsimp only at hid
    refine s_newed hfc hi (by rw [← hS1]) (fun t => by rw [← hS1]; exact h1.2.2.2.2.1 t) (by rw [← hS1]) (fun x hx k => by
        rw [← hS1]
        dsimp only
        rw [if_neg (fun y => by omega)]) (fun k hk => ?_) hel (fun x y z hz => by
        rw [← hS1] at hz
        simp only [zr3] at hz
        split at hz
        · cases hz
        · exact ⟨hz, by assumption⟩) (fun x y _ => by rw [← hS1]) h1 h2 h3 (lvt h4) h6 hg1 hg2 h9 hP hD hS h
    have hq : idOf k ≠ (a, b) := fun z => by
      have := idInj (z.trans hi.symm)
      omega
    have hne : ¬ ((idOf k).1 = a ∧ (idOf k).2 = b) := fun z => hq (Prod.ext z.1 z.2)
    have e1 : S1.1 (idOf k).1 (idOf k).2 = S.1 (idOf k).1 (idOf k).2 := by
      rw [← hS1]
      funext z
      dsimp only
      rw [if_neg hne]
    have e2 : ∀ z, S1.2.2.1 (idOf k).1 (idOf k).2 z = S.2.2.1 (idOf k).1 (idOf k).2 z := fun z => by
      rw [← hS1]
      simp only [zr3]
      rw [if_neg hne]
    have e3 : S1.2.2.2.1 = S.2.2.2.1 := by rw [← hS1]
    have e4 : S1.2.1 = S.2.1 := by rw [← hS1]
    have e5 : fvl E S1 (idOf k).1 (idOf k).2 = fvl E S (idOf k).1 (idOf k).2 := funext fun z => by
      unfold fvl
      rw [e1, e2, e4]
    unfold el
    rw [e1, e3, e5]
    simp only [e2]
end SNJ
end
section
/-! SOUNDNESS: one step of AM, whatever the instruction -/
/-- what is asked of the three text methods (proved elsewhere) -/
def TxtOK (E : Env0) (X : State → Prop) : Prop := ∀ (p : Program) (l : Launch) (e : Env) (R : Room) (s : State) (m : MethodId) (args : Array Value) (below : List Frame) (meth : Method) (c : Code) (Q : State → Prop) (cc : ByteArray) (pc fc fs ix g : Nat) (H : Heap) (locs : List Loc) (ls : Array Slot) (rest : List Value),
  p.tables.exec = Jvm.exec → c.code = cc → c.maxLocals = ls.size → s.vm.findClass RX1 = some m.cls → (∀ w ∈ ALLW, w.before args s = true) → Stt E X s → 9 ≤ R.frames → 600 ≤ R.locals → fc ≤ R.cells → fs ≤ R.slots → va_S (baseA E) s.heap H locs → (rest.map fun v => v.category).sum ≤ 8 → g < 13 → decode cc pc = .ok (.invokevirtual ix, 3) →
  (ix = 141 → W p l e R s m args below meth c H locs fc fs Q (F0 m (pc + 3) ls (.int (nI (strG g).length) :: rest)) → W p l e R s m args below meth c H locs fc fs Q (F0 m pc ls (.ref (E.2.2.2.1 70 g) :: rest)))
  ∧ (ix = 145 → ∀ k, k < (strG g).length → W p l e R s m args below meth c H locs fc fs Q (F0 m (pc + 3) ls (.int ((strG g).getD k 0) :: rest)) → W p l e R s m args below meth c H locs fc fs Q (F0 m pc ls (.int (nI k) :: .ref (E.2.2.2.1 70 g) :: rest)))
  ∧ (ix = 108 → ∀ i : Int32, (∀ v : Int32, ((v = -1 ∧ i ∉ strG g) ∨ ∃ k, v = nI k ∧ (strG g)[k]? = some i) → W p l e R s m args below meth c H locs fc fs Q (F0 m (pc + 3) ls (.int v :: rest))) → W p l e R s m args below meth c H locs fc fs Q (F0 m pc ls (.int i :: .ref (E.2.2.2.1 70 g) :: rest)))
/-- the text methods' links -/
theorem lnkTxt : (lnkT.length = 8 ∧ ((enum lnkT 0).all fun q => q.2.all fun e => cond (Nat.beq e.2.1 8) (Nat.beq q.1 1 && Nat.beq e.1 141) (cond (Nat.beq e.2.1 9) (Nat.beq q.1 1 && Nat.beq e.1 145) (cond (Nat.beq e.2.1 10) (Nat.beq q.1 1 && Nat.beq e.1 108) true))) = true) := by decide +kernel
theorem txtL {own ix na kd : Nat} {Z : MT} (hl : lnk own ix = some (kd, Z, na)) : (kd = 8 → own = 1 ∧ ix = 141) ∧ (kd = 9 → own = 1 ∧ ix = 145) ∧ (kd = 10 → own = 1 ∧ ix = 108) := by
  unfold lnk at hl
  split at hl
  · cases hl
  · rename_i l hl'
    have a := enum_nth lnkT 0 own l hl'
    have b := List.all_eq_true.mp lnkTxt.2 _ a
    have c := List.all_eq_true.mp b (ix, kd, Z, na) (lkp_mem l ix _ hl)
    simp only [Nat.zero_add] at c
    refine ⟨fun h => ?_, fun h => ?_, fun h => ?_⟩ <;> subst h
    · have c : (Nat.beq own 1 && Nat.beq ix 141) = true := c
      simp only [Bool.and_eq_true] at c
      exact ⟨Nat.eq_of_beq_eq_true c.1, Nat.eq_of_beq_eq_true c.2⟩
    · have c : (Nat.beq own 1 && Nat.beq ix 145) = true := c
      simp only [Bool.and_eq_true] at c
      exact ⟨Nat.eq_of_beq_eq_true c.1, Nat.eq_of_beq_eq_true c.2⟩
    · have c : (Nat.beq own 1 && Nat.beq ix 108) = true := c
      simp only [Bool.and_eq_true] at c
      exact ⟨Nat.eq_of_beq_eq_true c.1, Nat.eq_of_beq_eq_true c.2⟩
/-- the end of a method -/
def retI (i : Instr) (rk : Nat) (v : Option AV) : Prop :=
  (i = .ireturn ∧ ∃ x, v = some (aI x) ∧ (rk = 1 ∨ (rk = 4 ∧ (x = 0 ∨ x = 1)))) ∨ (i = .lreturn ∧ rk = 2 ∧ ∃ x, v = some (aL x)) ∨ (i = .areturn ∧ rk = 3 ∧ ∃ q, v = some (Sum.inr (Sum.inr q))) ∨ (i = .return_ ∧ rk = 0 ∧ v = none)
def HRet (E : Env0) (Y : MT) (n0 : Nat) (p : Program) (l : Launch) (e : Env) (R : Room) (s : State) (m : MethodId) (args : Array Value) (below : List Frame) (meth : Method) (c : Code) (Q : State → Prop) (K : KT) : Prop :=
  ∀ (pc fc fs : Nat) (S : St) (H : Heap) (locs : List Loc) (ls : Array Slot) (i : Instr) (v : Option AV), decode Y.2.2.1 pc = .ok (i, 1) → retI i Y.1.2.2.2.2 v → K v S → Rep E S H → (∀ u, v = some u → lvA S u) → va_S (baseA E) s.heap H locs → n0 ≤ S.2.2.2.2 → fc ≤ Y.1.2.2.1 → fs ≤ Y.1.2.2.2.1 → W p l e R s m args below meth c H locs fc fs Q (F0 m pc ls (v.toList.map (cv E)))
theorem dec_of {Y : MT} {pc n k : Nat} {i : Instr} (hd : decode Y.2.2.1 pc = .ok (i, n - pc)) (hl : lenI i = 0 ∨ n = pc + lenI i) (hk : lenI i = k) (h0 : 0 < k) : decode Y.2.2.1 pc = .ok (i, k) ∧ n = pc + k := by
  rcases hl with z | z
  · omega
  · rw [hk] at z
    subst z
    rw [Nat.add_sub_cancel_left] at hd
    exact ⟨hd, rfl⟩
theorem few_of {fc : Nat} {h : Prop} (z : few fc h) : fc < 100 ∧ h := by
  unfold few at z
  by_cases hb : Nat.blt fc 100 = true
  · rw [hb] at z
    exact ⟨by simpa [Nat.blt_eq] using hb, z⟩
  · rw [Bool.not_eq_true] at hb
    rw [hb] at z
    exact z.elim
theorem cond_of {b : Bool} {h : Prop} (z : cond b h False) : b = true ∧ h := by
  cases b with
  | true => exact ⟨rfl, z⟩
  | false => exact z.elim
theorem long6 {ci k : Nat} (h : fty ci k = 1) : ci = 6 := by
  unfold fty at h
  match ci, h with
  | 0, h =>
    simp only [ftT, nth] at h
    unfold tyX0 at h
    split at h <;> simp [tcd] at h
  | 1, h =>
    simp only [ftT, nth] at h
    unfold tyX1 at h
    split at h <;> simp [tcd] at h
  | 2, h =>
    simp only [ftT, nth] at h
    unfold tyX2 at h
    split at h <;> simp [tcd] at h
  | 3, h =>
    simp only [ftT, nth] at h
    unfold tyX3 at h
    split at h <;> simp [tcd] at h
  | 4, h =>
    simp only [ftT, nth] at h
    unfold tyX4 at h
    split at h <;> simp [tcd] at h
  | 5, h =>
    simp only [ftT, nth] at h
    unfold tyX5 at h
    split at h <;> simp [tcd] at h
  | 6, h => rfl
  | n + 7, h => simp [ftT, nth] at h
theorem long25 {k : Nat} (h : fty 6 k = 1) : k = 25 := by
  simp only [fty, ftT, nth] at h
  unfold tyX6 at h
  split at h <;> first | rfl | (simp [tcd] at h; done)
section SNK
variable {E : Env0} {X : State → Prop} {Y : MT} {d n0 : Nat} {p : Program} {l : Launch} {e : Env} {R : Room} {s : State} {m : MethodId} {args : Array Value} {below : List Frame} {meth : Method} {c : Code} {Q : State → Prop}
variable {pc t fc fs : Nat} {L : List (Option AV)} {st : List AV} {S : St}
theorem s_put0 (C : Ctx E X Y d p R s m args meth c) {ix ci k ty : Nat} {fin : Bool} (hty : ty = 0 ∨ ty = 3) (hd : decode Y.2.2.1 pc = .ok (.putfield ix, 3)) (hin : fin = true → Y.2.1.name = "<init>" ∧ ci = Y.1.2.1) (hf : fld Y.1.2.1 ix = some (ci, k, ty, fin)) {j g : Nat} {x : Int32} {r : List AV} (hx : ty = 3 → x = 0 ∨ x = 1) (hj : clsP j = ci) (hfc : fc < 100)
    (h : PS E Y n0 p l e R s m args below meth c Q (pc + 3) L r (ivSet S j g k x) fc fs) : PS E Y n0 p l e R s m args below meth c Q pc L (aI x :: aR j g :: r) S fc fs := by
  have hci : ci < 7 := by
    obtain ⟨q, hq, -⟩ := fldQ hf
    exact (clsF hq).2.2.2.2.2.1
  have hj6 : j < 60 := cls_lt (by rw [hj]; exact hci)
  refine s_putf C hd hin hf hj (v := aI x) (S' := ivSet S j g k x) (fun ty0 h0 => ?_) rfl rfl (iv_st hj6) (fun _ k' hk' _ => el_iv (fun z => hk' (by rw [← numId k', z]))) (fun hft z => ?_) (fun _ _ a b z hz => Or.inl hz) hfc h
  · rcases hty with rfl | rfl
    · cases ty0 <;> first | exact ⟨rfl, rfl⟩ | (simp [tcd] at h0; done)
    · have hx := hx rfl
      have hb : ty0 = .boolean := by cases ty0 <;> simp [tcd] at h0 ⊢
      subst hb
      rcases hx with rfl | rfl
      · exact ⟨show narrow .boolean (.int 0) = .int 0 by decide, show fits .boolean (.int 0) = true by decide⟩
      · exact ⟨show narrow .boolean (.int 1) = .int 1 by decide, show fits .boolean (.int 1) = true by decide⟩
  · subst hj
    by_cases hz : z = k
    · subst hz
      rw [if_pos rfl]
      unfold fvl
      split
      · rename_i y; omega
      · rename_i y; omega
      · simp [ivSet, up3, cv]
    · rw [if_neg hz]
      unfold fvl
      split
      · rfl
      · rfl
      · simp [ivSet, up3, hz]
theorem s_put1 (C : Ctx E X Y d p R s m args meth c) {ix ci k : Nat} {fin : Bool} (hd : decode Y.2.2.1 pc = .ok (.putfield ix, 3)) (hin : fin = true → Y.2.1.name = "<init>" ∧ ci = Y.1.2.1) (hf : fld Y.1.2.1 ix = some (ci, k, 1, fin)) {j g : Nat} {x : Int64} {r : List AV} (hj : clsP j = ci) (hfc : fc < 100)
    (h : PS E Y n0 p l e R s m args below meth c Q (pc + 3) L r (S.1, x, S.2.2) fc fs) : PS E Y n0 p l e R s m args below meth c Q pc L (aL x :: aR j g :: r) S fc fs := by
  refine s_putf C hd hin hf hj (v := aL x) (S' := (S.1, x, S.2.2)) (fun ty0 h0 => ?_) rfl rfl (fun _ _ _ => rfl) (fun hl k' hk' hlt => ?_) (fun hft z => ?_) (fun _ _ a b z hz => Or.inl hz) hfc h
  · cases ty0 <;> first | exact ⟨rfl, rfl⟩ | (simp [tcd] at h0; done)
  · have hf3 : fvl E (S.1, x, S.2.2) (idOf k').1 (idOf k').2 = fvl E S (idOf k').1 (idOf k').2 ∨ clsP (idOf k').1 = 6 := by
      by_cases h6 : clsP (idOf k').1 = 6
      · exact Or.inr h6
      · refine Or.inl (funext fun z => ?_)
        unfold fvl
        split
        · rename_i y
          exact absurd (long6 y) h6
        · rfl
        · rfl
    rcases hf3 with hf3 | h6
    · unfold el
      rw [hf3]
    · exfalso
      have p40 : ∀ j, clsP j = 6 → j = 40 := by
        intro j hj
        unfold clsP at hj
        split at hj <;> first | rfl | omega
      obtain ⟨q, hq, hk, hty, -⟩ := fldQ hf
      have hj40 := p40 j (by rw [hj]; exact long6 hty)
      have hi40 := p40 _ h6
      have hg' := id40 k' (idOf k').2 (Prod.ext hi40 rfl)
      obtain ⟨b1, b2⟩ := hl.in (cls_lt (by rw [hj, long6 hty]; decide))
      have hg := id40 (numP j g) g (by rw [b2, hj40])
      apply hk'
      apply idInj
      rw [b2]
      exact Prod.ext (by rw [hi40, hj40]) (by rw [hg', hg])
  · subst hj
    have h6 := long6 hft
    by_cases hz : z = k
    · subst hz
      rw [if_pos rfl]
      unfold fvl
      rw [hft]
      rfl
    · rw [if_neg hz]
      unfold fvl
      split
      · rename_i y
        exfalso
        rw [h6] at y hft
        exact hz ((long25 y).trans (long25 hft).symm)
      · rfl
      · rfl
theorem s_put2 (C : Ctx E X Y d p R s m args meth c) {ix ci k : Nat} {fin : Bool} (hd : decode Y.2.2.1 pc = .ok (.putfield ix, 3)) (hin : fin = true → Y.2.1.name = "<init>" ∧ ci = Y.1.2.1) (hf : fld Y.1.2.1 ix = some (ci, k, 2, fin)) {j g a b : Nat} {r : List AV} (hj : clsP j = ci) (hfr : frf j g k = (a, b)) (hfc : fc < 100)
    (h : PS E Y n0 p l e R s m args below meth c Q (pc + 3) L r (nnSet S j g k) fc fs) : PS E Y n0 p l e R s m args below meth c Q pc L (aR a b :: aR j g :: r) S fc fs := by
  refine s_putf C hd hin hf hj (v := aR a b) (S' := nnSet S j g k) (fun ty0 h0 => ?_) rfl rfl (fun _ _ _ => rfl) (fun _ k' hk' _ => el_nn (fun z => hk' (by rw [← numId k', z]))) (fun hft z => ?_) (fun hlv hft a' b' z hz => ?_) hfc h
  · cases ty0 <;> first | exact ⟨rfl, rfl⟩ | (simp [tcd] at h0; done)
  · subst hj
    by_cases hz : z = k
    · subst hz
      rw [if_pos rfl]
      unfold fvl
      rw [hft]
      simp [nnSet, up3, cv, hfr]
    · rw [if_neg hz]
      unfold fvl
      split
      · rfl
      · simp [nnSet, up3, hz]
      · rfl
  · simp only [nnSet, up3] at hz
    split at hz
    · rename_i hy
      obtain ⟨rfl, rfl, rfl⟩ := hy
      refine Or.inr ⟨rfl, rfl, fun _ _ => by rw [hfr]; exact hlv, fun hr => ?_⟩
      obtain ⟨q, hq, -⟩ := fldQ hf
      exact absurd (by rw [hj]; exact (clsF hq).2.2.2.2.2.1) (rfk_cls hr).1
    · exact Or.inl hz
theorem sflW {own idx j : Nat} (h : sfl own idx = some j) : ckS own idx j = true ∧ ∀ w ∈ sfwords own idx j, w ∈ ALLW := by
  unfold sfl at h
  split at h
  · cases h
  · rename_i l hl
    exact ⟨enum_all (f := ckS) ckS_ok hl h, ALLW_of (fun w hw => sfW_ok w (allT_in (f := sfwords) hl h hw))⟩
theorem s_gets (C : Ctx E X Y d p R s m args meth c) {ix j : Nat} (hd : decode Y.2.2.1 pc = .ok (.getstatic ix, 3)) (hf : sfl Y.1.2.1 ix = some j) (h : PS E Y n0 p l e R s m args below meth c Q (pc + 3) L (aR j 0 :: st) S fc fs) : PS E Y n0 p l e R s m args below meth c Q pc L st S fc fs := by
  obtain ⟨h1, h2⟩ := sflW hf
  simp only [ckS, Bool.and_eq_true, Bool.or_eq_true] at h1
  obtain ⟨⟨b1, b2⟩, b3⟩ := h1
  have b1 := Nat.le_of_ble_eq_true b1
  have b2 := Nat.le_of_ble_eq_true b2
  have hst := C.2.2.2.2.2.2.1
  have hZ := hst.2.1 j b1 b2
  have ha : cv E (aR j 0) = .ref (E.2.2.2.1 j 0) := by simp [cv, adr, show ¬ j < 60 by omega]
  have hlv : lvA S (aR j 0) := Or.inr (Or.inl ⟨by omega, by omega, rfl⟩)
  intro H locs ls h1 h2' h3 h4 h5 h6 h7 h8 h9
  have hr := h H locs ls h1 h2' h3 (lv1 hlv h4) h5 h6 h7 h8 h9
  rw [List.map_cons, ha] at hr
  rcases b3 with b3 | ⟨b3, b4⟩
  · have ho := Nat.eq_of_beq_eq_true b3
    have hw := h2
    simp only [sfwords, ho, if_true] at hw
    exact va_gets (C := RX5) (ref := RX5) C.1 C.2.1 hZ h5 C.2.2.2.1 (by rw [ho]; exact C.2.2.2.2.1 _ (hw _ (List.mem_singleton.mpr rfl))) (fun _ hx => hx) hd hr
  · have ho := Nat.eq_of_beq_eq_true b3
    have hown : s.vm.findClass RX0 = some m.cls := by
      have := C.2.2.2.1
      rw [ho] at this
      exact this
    rcases b4 with (⟨c1, c2⟩ | ⟨c1, c2⟩) | ⟨c1, c2⟩
    · have e1 := Nat.eq_of_beq_eq_true c1
      have e2 := Nat.eq_of_beq_eq_true c2
      subst e1; subst e2
      exact va_getsN (C := RX5) (ref := RX5) (host := RX5) C.1 C.2.1 hZ h5 hown (va_Nw.use rfl hst.2.2.2.1) (fun _ hx => hx) hd hr
    · have e1 := Nat.eq_of_beq_eq_true c1
      have e2 := Nat.eq_of_beq_eq_true c2
      subst e1; subst e2
      exact va_getsN (C := RX5) (ref := RX5) (host := RX5) C.1 C.2.1 hZ h5 hown (va_Nw.use rfl hst.2.2.2.2.1) (fun _ hx => hx) hd hr
    · have e1 := Nat.eq_of_beq_eq_true c1
      have e2 := Nat.eq_of_beq_eq_true c2
      subst e1; subst e2
      exact va_getsN (C := RX5) (ref := RX5) (host := RX5) C.1 C.2.1 hZ h5 hown (va_Nw.use rfl hst.2.2.2.2.2.1) (fun _ hx => hx) hd hr
end SNK
end
section
/-! SOUNDNESS: the step -/
theorem ftyLe {ci k : Nat} : fty ci k = 0 ∨ fty ci k = 1 ∨ fty ci k = 2 ∨ fty ci k = 3 ∨ fty ci k = 9 := by
  unfold fty
  split
  · exact Or.inl rfl
  · unfold tcd
    split <;> simp
theorem ckFld9 : ((enum fldT 0).all fun q => q.2.all fun e => Nat.ble e.2.2.2.1 8) = true := by decide +kernel
theorem fld9 {own idx ci k ty : Nat} {fin : Bool} (h : fld own idx = some (ci, k, ty, fin)) : ty ≤ 8 := by
  unfold fld at h
  split at h
  · cases h
  · rename_i l hl
    exact Nat.le_of_ble_eq_true (enum_all (f := fun _ _ e => Nat.ble e.2.2.1 8) ckFld9 hl h)
theorem goC_of {Y Z : MT} {call : CT} {P : PT} {n fc fs : Nat} {L : List (Option AV)} {S : St} {as rest : List AV} (h : goC Y call P n L S fc fs Z (some (as, rest))) : catS rest ≤ 8 ∧ (fc ≤ Y.1.2.2.1 → fc + Z.1.2.2.1 ≤ Y.1.2.2.1) ∧ (fs ≤ Y.1.2.2.2.1 → fs + Z.1.2.2.2.1 ≤ Y.1.2.2.2.1) ∧ catS as ≤ Z.2.2.2.1 ∧ ∃ K' : KT, call Z as S K' ∧ ∀ v S', K' v S' → (Z.1.2.2.1 ≠ 0 → fc + Z.1.2.2.1 < 100 → S'.2.2.2.2 = S.2.2.2.2 + Z.1.2.2.1) ∧ P n L (v.toList ++ rest) S' (fc + Z.1.2.2.1) (fs + Z.1.2.2.2.1) := by
  unfold goC at h
  dsimp only at h
  obtain ⟨hb, h_1⟩ := cond_of h
  simp only [Bool.and_eq_true] at hb
  by_cases hz : (Nat.beq Z.1.2.2.1 0 && Nat.beq Z.1.2.2.2.1 0) = true
  · rw [hz] at h_1
    simp only [Bool.and_eq_true] at hz
    have z1 := Nat.eq_of_beq_eq_true hz.1
    have z2 := Nat.eq_of_beq_eq_true hz.2
    refine ⟨Nat.le_of_ble_eq_true hb.1, fun _ => by omega, fun _ => by omega, Nat.le_of_ble_eq_true hb.2, _, h_1, fun v S' hk => ⟨fun z => absurd z1 z, ?_⟩⟩
    rw [z1, z2]
    exact hk
  · rw [Bool.not_eq_true] at hz
    rw [hz] at h_1
    obtain ⟨g1, g2, h_1⟩ := h_1
    refine ⟨Nat.le_of_ble_eq_true hb.1, fun _ => g1, fun _ => g2, Nat.le_of_ble_eq_true hb.2, _, h_1, fun v S' hk => ⟨fun _ hlt => hk.1 (by omega), hk.2⟩⟩
theorem ckP_none : ckP m_none := fun pc h => absurd h (by
  show ¬ pc < 16 * 0
  omega)
theorem lkP_0 : ∀ q ∈ lnk_0, ckP q.2.2.1 := List.forall_mem_cons.mpr ⟨ckP_none, List.forall_mem_cons.mpr ⟨ckP_none, List.forall_mem_cons.mpr ⟨ck_X0_owes, List.forall_mem_cons.mpr ⟨ck_X0_owedTo, List.forall_mem_cons.mpr ⟨ck_X2_value, List.forall_mem_cons.mpr ⟨ck_X0_value, List.forall_mem_cons.mpr ⟨ck_X0_owing, List.forall_mem_cons.mpr ⟨ck_X0_will, List.forall_mem_cons.mpr ⟨ck_X0_breath, List.forall_mem_cons.mpr ⟨ck_X0_pays, List.forall_mem_cons.mpr ⟨ck_X0_settle, List.forall_mem_cons.mpr ⟨ck_X0_lessen, List.forall_mem_cons.mpr ⟨ckP_none, List.forall_mem_cons.mpr ⟨ck_X0_may, List.forall_mem_cons.mpr ⟨ck_X0_step, List.forall_mem_cons.mpr ⟨ck_X0_danceRound, List.forall_mem_cons.mpr ⟨ckP_none, List.forall_mem_cons.mpr ⟨ck_X0_longest, List.forall_mem_cons.mpr ⟨ck_X0_mayAll, List.forall_mem_cons.mpr ⟨ck_X0_paidBy, List.forall_mem_cons.mpr ⟨ck_X0_firstOtherwise, List.forall_mem_cons.mpr ⟨ck_X5_within, fun _ h => absurd h List.not_mem_nil⟩⟩⟩⟩⟩⟩⟩⟩⟩⟩⟩⟩⟩⟩⟩⟩⟩⟩⟩⟩⟩⟩
theorem lkP_1 : ∀ q ∈ lnk_1, ckP q.2.2.1 := List.forall_mem_cons.mpr ⟨ckP_none, List.forall_mem_cons.mpr ⟨ck_X1_next, List.forall_mem_cons.mpr ⟨ck_X1_pass, List.forall_mem_cons.mpr ⟨ck_X1_either, List.forall_mem_cons.mpr ⟨ckP_none, List.forall_mem_cons.mpr ⟨ckP_none, List.forall_mem_cons.mpr ⟨ck_X4_init, List.forall_mem_cons.mpr ⟨ck_X1_both, List.forall_mem_cons.mpr ⟨ck_X1_put, List.forall_mem_cons.mpr ⟨ck_X1_denied, List.forall_mem_cons.mpr ⟨ck_X1_compared, List.forall_mem_cons.mpr ⟨ck_X1_opens, List.forall_mem_cons.mpr ⟨ck_X1_sum, List.forall_mem_cons.mpr ⟨ck_X1_term, List.forall_mem_cons.mpr ⟨ck_X1_one, List.forall_mem_cons.mpr ⟨ck_X1_isDigit, List.forall_mem_cons.mpr ⟨ck_X1_nextNumber, List.forall_mem_cons.mpr ⟨ck_X1_isLetter, List.forall_mem_cons.mpr ⟨ck_X1_nextWord, List.forall_mem_cons.mpr ⟨ckP_none, List.forall_mem_cons.mpr ⟨ck_X1_spells, List.forall_mem_cons.mpr ⟨ckP_none, List.forall_mem_cons.mpr ⟨ckP_none, fun _ h => absurd h List.not_mem_nil⟩⟩⟩⟩⟩⟩⟩⟩⟩⟩⟩⟩⟩⟩⟩⟩⟩⟩⟩⟩⟩⟩⟩
theorem lkP_2 : ∀ q ∈ lnk_2, ckP q.2.2.1 := List.forall_mem_cons.mpr ⟨ckP_none, List.forall_mem_cons.mpr ⟨ck_X4_init, fun _ h => absurd h List.not_mem_nil⟩⟩
theorem lkP_3 : ∀ q ∈ lnk_3, ckP q.2.2.1 := List.forall_mem_cons.mpr ⟨ckP_none, fun _ h => absurd h List.not_mem_nil⟩
theorem lkP_4 : ∀ q ∈ lnk_4, ckP q.2.2.1 := List.forall_mem_cons.mpr ⟨ckP_none, fun _ h => absurd h List.not_mem_nil⟩
theorem lkP_5 : ∀ q ∈ lnk_5, ckP q.2.2.1 := List.forall_mem_cons.mpr ⟨ckP_none, List.forall_mem_cons.mpr ⟨ck_X2_init, List.forall_mem_cons.mpr ⟨ck_X0_init, List.forall_mem_cons.mpr ⟨ck_X5_told, List.forall_mem_cons.mpr ⟨ck_X5_debtPlace, List.forall_mem_cons.mpr ⟨ck_X0_join, List.forall_mem_cons.mpr ⟨ck_X5_isDancer, List.forall_mem_cons.mpr ⟨ck_X0_breath, List.forall_mem_cons.mpr ⟨ck_X0_owes, List.forall_mem_cons.mpr ⟨ck_X0_owedTo, List.forall_mem_cons.mpr ⟨ck_X5_isTwo, List.forall_mem_cons.mpr ⟨ck_X0_owing, List.forall_mem_cons.mpr ⟨ck_X0_pays, List.forall_mem_cons.mpr ⟨ck_X0_will, List.forall_mem_cons.mpr ⟨ck_X0_may, List.forall_mem_cons.mpr ⟨ck_X1_hold, List.forall_mem_cons.mpr ⟨ck_X1_read, List.forall_mem_cons.mpr ⟨ck_X2_keep, List.forall_mem_cons.mpr ⟨ck_X0_step, List.forall_mem_cons.mpr ⟨ck_X0_danceRound, List.forall_mem_cons.mpr ⟨ck_X0_endNight, List.forall_mem_cons.mpr ⟨ck_X5_readRing, List.forall_mem_cons.mpr ⟨ckP_none, List.forall_mem_cons.mpr ⟨ck_X0_lessen, List.forall_mem_cons.mpr ⟨ck_X5_think, List.forall_mem_cons.mpr ⟨ck_X0_all, List.forall_mem_cons.mpr ⟨ck_X0_stillOwed, List.forall_mem_cons.mpr ⟨ck_X0_takeFrom, List.forall_mem_cons.mpr ⟨ck_X0_weigh, List.forall_mem_cons.mpr ⟨ck_X0_bestSet, List.forall_mem_cons.mpr ⟨ck_X0_paidBy, List.forall_mem_cons.mpr ⟨ck_X5_sitters, List.forall_mem_cons.mpr ⟨ck_X5_soonest, List.forall_mem_cons.mpr ⟨ck_X0_least, List.forall_mem_cons.mpr ⟨ck_X0_ring, List.forall_mem_cons.mpr ⟨ck_X0_ends, List.forall_mem_cons.mpr ⟨ck_X0_keeps, List.forall_mem_cons.mpr ⟨ck_X5_lowest, List.forall_mem_cons.mpr ⟨ck_X5_clears, List.forall_mem_cons.mpr ⟨ck_X0_mostToMeet, List.forall_mem_cons.mpr ⟨ck_X0_mayAll, List.forall_mem_cons.mpr ⟨ck_X0_danceSet, List.forall_mem_cons.mpr ⟨ck_X5_isSheet, List.forall_mem_cons.mpr ⟨ck_X0_firstOtherwise, List.forall_mem_cons.mpr ⟨ck_X5_kindsTold, List.forall_mem_cons.mpr ⟨ck_X5_numbersTold, List.forall_mem_cons.mpr ⟨ck_X5_roundsTold, List.forall_mem_cons.mpr ⟨ck_X5_donesTold, List.forall_mem_cons.mpr ⟨ck_X5_textsTold, List.forall_mem_cons.mpr ⟨ck_X5_dancersTold, List.forall_mem_cons.mpr ⟨ck_X0_paysAs, List.forall_mem_cons.mpr ⟨ck_X3_become, List.forall_mem_cons.mpr ⟨ck_X3_put, List.forall_mem_cons.mpr ⟨ck_X0_draw, List.forall_mem_cons.mpr ⟨ck_X5_isSort, List.forall_mem_cons.mpr ⟨ck_X3_holds, List.forall_mem_cons.mpr ⟨ckP_none, List.forall_mem_cons.mpr ⟨ck_X5_dancer, List.forall_mem_cons.mpr ⟨ck_X1_init, List.forall_mem_cons.mpr ⟨ck_X3_init, fun _ h => absurd h List.not_mem_nil⟩⟩⟩⟩⟩⟩⟩⟩⟩⟩⟩⟩⟩⟩⟩⟩⟩⟩⟩⟩⟩⟩⟩⟩⟩⟩⟩⟩⟩⟩⟩⟩⟩⟩⟩⟩⟩⟩⟩⟩⟩⟩⟩⟩⟩⟩⟩⟩⟩⟩⟩⟩⟩⟩⟩⟩⟩⟩⟩⟩
theorem lkP_6 : ∀ q ∈ lnk_6, ckP q.2.2.1 := List.forall_mem_cons.mpr ⟨ckP_none, List.forall_mem_cons.mpr ⟨ck_X6_isApart, List.forall_mem_cons.mpr ⟨ck_X6_spell, List.forall_mem_cons.mpr ⟨ck_X6_in, List.forall_mem_cons.mpr ⟨ck_X6_isOne, List.forall_mem_cons.mpr ⟨ck_X6_areTwo, List.forall_mem_cons.mpr ⟨ck_X6_isOf, List.forall_mem_cons.mpr ⟨ck_X6_mostOf, List.forall_mem_cons.mpr ⟨ck_X6_told, List.forall_mem_cons.mpr ⟨ck_X6_lays, List.forall_mem_cons.mpr ⟨ck_X6_placeOf, List.forall_mem_cons.mpr ⟨ck_X6_breathOf, List.forall_mem_cons.mpr ⟨ck_X6_owesOf, List.forall_mem_cons.mpr ⟨ck_X6_owedTo, List.forall_mem_cons.mpr ⟨ck_X6_debtOf, List.forall_mem_cons.mpr ⟨ck_X6_byteAt, List.forall_mem_cons.mpr ⟨ck_X6_isLetter, List.forall_mem_cons.mpr ⟨ck_X6_fail, List.forall_mem_cons.mpr ⟨ck_X6_next, List.forall_mem_cons.mpr ⟨ck_X6_isWord, List.forall_mem_cons.mpr ⟨ck_X6_isSign, List.forall_mem_cons.mpr ⟨ck_X6_opens, List.forall_mem_cons.mpr ⟨ck_X6_atom, List.forall_mem_cons.mpr ⟨ck_X6_either, List.forall_mem_cons.mpr ⟨ck_X6_name, List.forall_mem_cons.mpr ⟨ck_X6_term, List.forall_mem_cons.mpr ⟨ck_X6_not, List.forall_mem_cons.mpr ⟨ck_X6_added, List.forall_mem_cons.mpr ⟨ck_X6_both, List.forall_mem_cons.mpr ⟨ck_X6_part, List.forall_mem_cons.mpr ⟨ck_X6_read, List.forall_mem_cons.mpr ⟨ck_X6_within, List.forall_mem_cons.mpr ⟨ck_X6_says, List.forall_mem_cons.mpr ⟨ck_X6_willOf, List.forall_mem_cons.mpr ⟨ck_X6_hasBreath, List.forall_mem_cons.mpr ⟨ck_X6_paysOf, List.forall_mem_cons.mpr ⟨ck_X6_mayDance, List.forall_mem_cons.mpr ⟨ck_X6_dances, List.forall_mem_cons.mpr ⟨ck_X6_danceBoth, List.forall_mem_cons.mpr ⟨ck_X6_passes, List.forall_mem_cons.mpr ⟨ck_X6_ringOf, List.forall_mem_cons.mpr ⟨ck_X6_laysAside, List.forall_mem_cons.mpr ⟨ck_X6_owedAll, List.forall_mem_cons.mpr ⟨ck_X6_owedSet, List.forall_mem_cons.mpr ⟨ck_X6_laysBack, List.forall_mem_cons.mpr ⟨ck_X6_both_, List.forall_mem_cons.mpr ⟨ck_X6_greater, List.forall_mem_cons.mpr ⟨ck_X6_lesser, List.forall_mem_cons.mpr ⟨ck_X6_isSet, List.forall_mem_cons.mpr ⟨ck_X6_dancesOf, List.forall_mem_cons.mpr ⟨ck_X6_isPaidBy, List.forall_mem_cons.mpr ⟨ck_X6_ringFrom, List.forall_mem_cons.mpr ⟨ck_X6_bestSet, List.forall_mem_cons.mpr ⟨ck_X6_nextRound, List.forall_mem_cons.mpr ⟨ck_X6_soonest, List.forall_mem_cons.mpr ⟨ck_X6_leastOwed, List.forall_mem_cons.mpr ⟨ck_X6_longestRing, List.forall_mem_cons.mpr ⟨ck_X6_ends, List.forall_mem_cons.mpr ⟨ck_X6_keeper, List.forall_mem_cons.mpr ⟨ck_X6_lowest, List.forall_mem_cons.mpr ⟨ck_X6_firstOther, List.forall_mem_cons.mpr ⟨ck_X6_isSheet, List.forall_mem_cons.mpr ⟨ck_X6_likeSet, List.forall_mem_cons.mpr ⟨ck_X6_sheet, List.forall_mem_cons.mpr ⟨ck_X6_endsDrawn, List.forall_mem_cons.mpr ⟨ck_X6_dancer, List.forall_mem_cons.mpr ⟨ck_X6_over, fun _ h => absurd h List.not_mem_nil⟩⟩⟩⟩⟩⟩⟩⟩⟩⟩⟩⟩⟩⟩⟩⟩⟩⟩⟩⟩⟩⟩⟩⟩⟩⟩⟩⟩⟩⟩⟩⟩⟩⟩⟩⟩⟩⟩⟩⟩⟩⟩⟩⟩⟩⟩⟩⟩⟩⟩⟩⟩⟩⟩⟩⟩⟩⟩⟩⟩⟩⟩⟩⟩⟩⟩⟩
theorem lkP_7 : ∀ q ∈ lnk_7, ckP q.2.2.1 := List.forall_mem_cons.mpr ⟨ck_X5_init, List.forall_mem_cons.mpr ⟨ck_X6_init, List.forall_mem_cons.mpr ⟨ck_X5_set, List.forall_mem_cons.mpr ⟨ck_X6_set, List.forall_mem_cons.mpr ⟨ck_X5_dancer, List.forall_mem_cons.mpr ⟨ck_X6_dancer, List.forall_mem_cons.mpr ⟨ck_X5_told, List.forall_mem_cons.mpr ⟨ck_X6_told, List.forall_mem_cons.mpr ⟨ck_X5_asks, List.forall_mem_cons.mpr ⟨ck_X6_asks, List.forall_mem_cons.mpr ⟨ck_X5_feed, List.forall_mem_cons.mpr ⟨ck_X6_feed, List.forall_mem_cons.mpr ⟨ck_X5_text, List.forall_mem_cons.mpr ⟨ck_X6_text, List.forall_mem_cons.mpr ⟨ck_X5_force, List.forall_mem_cons.mpr ⟨ck_X6_force, List.forall_mem_cons.mpr ⟨ck_X5_dance, List.forall_mem_cons.mpr ⟨ck_X6_dance, List.forall_mem_cons.mpr ⟨ck_X5_round, List.forall_mem_cons.mpr ⟨ck_X6_round, List.forall_mem_cons.mpr ⟨ck_X5_night, List.forall_mem_cons.mpr ⟨ck_X6_night, List.forall_mem_cons.mpr ⟨ck_X5_strike, List.forall_mem_cons.mpr ⟨ck_X6_strike, List.forall_mem_cons.mpr ⟨ck_X5_run, List.forall_mem_cons.mpr ⟨ck_X6_run, List.forall_mem_cons.mpr ⟨ck_X5_best, List.forall_mem_cons.mpr ⟨ck_X6_best, List.forall_mem_cons.mpr ⟨ck_X5_share, List.forall_mem_cons.mpr ⟨ck_X6_share, List.forall_mem_cons.mpr ⟨ck_X5_tells, List.forall_mem_cons.mpr ⟨ck_X6_tells, List.forall_mem_cons.mpr ⟨ck_X5_film, List.forall_mem_cons.mpr ⟨ck_X6_film, List.forall_mem_cons.mpr ⟨ck_X5_drawn, List.forall_mem_cons.mpr ⟨ck_X6_drawn, List.forall_mem_cons.mpr ⟨ck_X5_chance, List.forall_mem_cons.mpr ⟨ck_X6_chance, List.forall_mem_cons.mpr ⟨ck_X5_image, List.forall_mem_cons.mpr ⟨ck_X6_image, List.forall_mem_cons.mpr ⟨ck_X5_back, List.forall_mem_cons.mpr ⟨ck_X6_back, List.forall_mem_cons.mpr ⟨ck_X5_count, List.forall_mem_cons.mpr ⟨ck_X6_count, List.forall_mem_cons.mpr ⟨ck_X5_sheet, List.forall_mem_cons.mpr ⟨ck_X6_sheet, List.forall_mem_cons.mpr ⟨ck_X5_cell, List.forall_mem_cons.mpr ⟨ck_X6_cell, List.forall_mem_cons.mpr ⟨ck_X5_copy, List.forall_mem_cons.mpr ⟨ck_X6_copy, List.forall_mem_cons.mpr ⟨ck_X5_room, List.forall_mem_cons.mpr ⟨ck_X6_room, List.forall_mem_cons.mpr ⟨ck_X5_taken, List.forall_mem_cons.mpr ⟨ck_X6_taken, fun _ h => absurd h List.not_mem_nil⟩⟩⟩⟩⟩⟩⟩⟩⟩⟩⟩⟩⟩⟩⟩⟩⟩⟩⟩⟩⟩⟩⟩⟩⟩⟩⟩⟩⟩⟩⟩⟩⟩⟩⟩⟩⟩⟩⟩⟩⟩⟩⟩⟩⟩⟩⟩⟩⟩⟩⟩⟩⟩⟩
theorem lkP {own idx kd na : Nat} {Z : MT} (h : lnk own idx = some (kd, Z, na)) : ckP Z := by
  unfold lnk at h
  split at h
  · cases h
  · rename_i l hl
    have hm := lkp_mem l idx _ h
    match own, hl with
    | 0, hl => cases hl; exact lkP_0 _ hm
    | 1, hl => cases hl; exact lkP_1 _ hm
    | 2, hl => cases hl; exact lkP_2 _ hm
    | 3, hl => cases hl; exact lkP_3 _ hm
    | 4, hl => cases hl; exact lkP_4 _ hm
    | 5, hl => cases hl; exact lkP_5 _ hm
    | 6, hl => cases hl; exact lkP_6 _ hm
    | 7, hl => cases hl; exact lkP_7 _ hm
    | n + 8, hl => simp [lnkT, nth] at hl
theorem ckN0 {own idx kd na : Nat} {Z : MT} (h : lnk own idx = some (kd, Z, na)) (hk : kd = 0 ∨ kd = 1 ∨ kd = 2 ∨ kd = 11 ∨ kd = 12) : ckN Z = true := by
  obtain ⟨k1, -⟩ := lnkC h
  rcases hk with rfl | rfl | rfl | rfl | rfl
  · simp only [ckL, Bool.and_eq_true] at k1
    exact k1.1
  · simp only [ckL, Bool.and_eq_true] at k1
    exact k1.1.1
  · simp only [ckL, Bool.and_eq_true] at k1
    exact k1.1.1.1
  · simp only [ckL, Bool.and_eq_true] at k1
    exact k1.1.1.1
  · simp only [ckL, Bool.and_eq_true] at k1
    exact k1.1.1.1.1
section SNL
variable {E : Env0} {X : State → Prop} {Y : MT} {d n0 : Nat} {p : Program} {l : Launch} {e : Env} {R : Room} {s : State} {m : MethodId} {args : Array Value} {below : List Frame} {meth : Method} {c : Code} {Q : State → Prop}
variable {pc t fc fs : Nat} {L : List (Option AV)} {st : List AV} {S : St}
theorem s_ret {K : KT} (hR : HRet E Y n0 p l e R s m args below meth c Q K) {i : Instr} (hd : decode Y.2.2.1 pc = .ok (i, 1)) {v : Option AV} (hr : retI i Y.1.2.2.2.2 v) (h : K v S) : PS E Y n0 p l e R s m args below meth c Q pc L v.toList S fc fs :=
  fun H locs ls h1 _ _ h4 h5 h6 h7 h8 _ => hR pc fc fs S H locs ls i v hd hr h h1 (fun u hu => h4 u (by rw [hu]; simp)) h5 h6 h7 h8
theorem s_cast (C : Ctx E X Y d p R s m args meth c) {ix j g : Nat} {r : List AV} (hd : decode Y.2.2.1 pc = .ok (.checkcast ix, 3)) (hci : clk Y.1.2.1 ix = some 8) (hj : iak j = 1) (h : PS E Y n0 p l e R s m args below meth c Q (pc + 3) L (aR j g :: r) S fc fs) : PS E Y n0 p l e R s m args below meth c Q pc L (aR j g :: r) S fc fs := by
  intro H locs ls h1 h2 h3 h4 h5 h6 h7 h8 h9
  have hw := clkW hci
  have hw' : cwords Y.1.2.1 ix 8 = [.classLink (own8 Y.1.2.1) ix "[I"] := by simp [cwords, nth]
  rw [hw'] at hw
  have hl : lvP S j g := lvh h4
  have hj6 := iak_lt (Or.inl hj)
  obtain ⟨a1, a2⟩ := hl.in hj6
  have hg := wld_get (E := E) a1 a2
  rw [el_int hj] at hg
  have haj : cv E (aR j g) = .ref (E.2.2.1 + numP j g) := by simp [cv, adr, hj6]
  have hr := h H locs ls h1 h2 h3 h4 h5 h6 h7 h8 h9
  rw [List.map_cons, haj] at hr ⊢
  have hnm : s.vm.findClass "[I" = some (E.2.1 0) := by
    have h9 := (C.2.2.2.2.2.2.1.1.2 0 (E.2.1 0, .int) rfl).2
    have e : "[" ++ FieldType.int.toString = "[I" := by decide +kernel
    rw [← e]
    exact h9
  exact va_castA (D := E.1) (cl := vwCl) (ws := wld E S) C.1 C.2.1 C.2.2.2.1 (C.2.2.2.2.1 _ (hw _ (by simp))) h1.2.1 (numP j g) hg hnm hd hr
theorem txtP (hlv : lvA S (aR 70 t)) : t < 13 ∧ cv E (aR 70 t) = .ref (E.2.2.2.1 70 t) := by
  refine ⟨?_, by simp [cv, adr]⟩
  rcases hlv with ⟨z, -⟩ | ⟨-, z, -⟩ | ⟨-, z⟩
  · exact absurd z (by omega)
  · exact absurd z (by omega)
  · exact z
theorem s_tlen (C : Ctx E X Y d p R s m args meth c) (hT : TxtOK E X) {ix na g : Nat} {Z : MT} {r : List AV} (hd : decode Y.2.2.1 pc = .ok (.invokevirtual ix, 3)) (hl : lnk Y.1.2.1 ix = some (8, Z, na)) (hcat : catS r ≤ 8) (h : PS E Y n0 p l e R s m args below meth c Q (pc + 3) L (aI (nI (strG g).length) :: r) S fc fs) : PS E Y n0 p l e R s m args below meth c Q pc L (aR 70 g :: r) S fc fs := by
  obtain ⟨o1, o2⟩ := (txtL hl).1 rfl
  intro H locs ls h1 h2 h3 h4 h5 h6 h7 h8 h9
  obtain ⟨t1, t2⟩ := txtP (E := E) (lvh h4)
  have hr := h H locs ls h1 h2 h3 (lv1 (v := aI (nI (strG g).length)) trivial (lvt h4)) h5 h6 h7 h8 h9
  rw [List.map_cons, t2]
  have hown : s.vm.findClass RX1 = some m.cls := by
    have := C.2.2.2.1
    rw [o1] at this
    exact this
  have f1 := C.2.2.2.2.2.2.2.1
  have f2 := C.2.2.2.2.2.2.2.2.1
  exact (hT p l e R s m args below meth c Q Y.2.2.1 pc fc fs ix g H locs ls (r.map (cv E)) C.1 C.2.1 (by rw [C.2.2.1]; exact h2.1.1.symm) hown C.2.2.2.2.1 C.2.2.2.2.2.2.1 (by omega) (by omega) (Nat.le_trans h7 C.2.2.2.2.2.2.2.2.2.1) (Nat.le_trans h8 C.2.2.2.2.2.2.2.2.2.2.1) h5 (by rw [catS_sum]; exact hcat) t1 hd).1 o2 hr
theorem s_tat (C : Ctx E X Y d p R s m args meth c) (hT : TxtOK E X) {ix na g k : Nat} {Z : MT} {r : List AV} (hd : decode Y.2.2.1 pc = .ok (.invokevirtual ix, 3)) (hl : lnk Y.1.2.1 ix = some (9, Z, na)) (hcat : catS r ≤ 8) (hk : k < (strG g).length) (h : PS E Y n0 p l e R s m args below meth c Q (pc + 3) L (aI ((strG g).getD k 0) :: r) S fc fs) : PS E Y n0 p l e R s m args below meth c Q pc L (aI (nI k) :: aR 70 g :: r) S fc fs := by
  obtain ⟨o1, o2⟩ := (txtL hl).2.1 rfl
  intro H locs ls h1 h2 h3 h4 h5 h6 h7 h8 h9
  obtain ⟨t1, t2⟩ := txtP (E := E) (lvh (lvt h4))
  have hr := h H locs ls h1 h2 h3 (lv1 (v := aI ((strG g).getD k 0)) trivial (lvt (lvt h4))) h5 h6 h7 h8 h9
  rw [List.map_cons, List.map_cons, t2]
  have hown : s.vm.findClass RX1 = some m.cls := by
    have := C.2.2.2.1
    rw [o1] at this
    exact this
  have f1 := C.2.2.2.2.2.2.2.1
  have f2 := C.2.2.2.2.2.2.2.2.1
  exact (hT p l e R s m args below meth c Q Y.2.2.1 pc fc fs ix g H locs ls (r.map (cv E)) C.1 C.2.1 (by rw [C.2.2.1]; exact h2.1.1.symm) hown C.2.2.2.2.1 C.2.2.2.2.2.2.1 (by omega) (by omega) (Nat.le_trans h7 C.2.2.2.2.2.2.2.2.2.1) (Nat.le_trans h8 C.2.2.2.2.2.2.2.2.2.2.1) h5 (by rw [catS_sum]; exact hcat) t1 hd).2.1 o2 k hk hr
theorem s_tix (C : Ctx E X Y d p R s m args meth c) (hT : TxtOK E X) {ix na g : Nat} {i : Int32} {Z : MT} {r : List AV} (hd : decode Y.2.2.1 pc = .ok (.invokevirtual ix, 3)) (hl : lnk Y.1.2.1 ix = some (10, Z, na)) (hcat : catS r ≤ 8) (h : ∀ v : Int32, ((v = -1 ∧ i ∉ strG g) ∨ ∃ k, v = nI k ∧ (strG g)[k]? = some i) → PS E Y n0 p l e R s m args below meth c Q (pc + 3) L (aI v :: r) S fc fs) : PS E Y n0 p l e R s m args below meth c Q pc L (aI i :: aR 70 g :: r) S fc fs := by
  obtain ⟨o1, o2⟩ := (txtL hl).2.2 rfl
  intro H locs ls h1 h2 h3 h4 h5 h6 h7 h8 h9
  obtain ⟨t1, t2⟩ := txtP (E := E) (lvh (lvt h4))
  rw [List.map_cons, List.map_cons, t2]
  have hown : s.vm.findClass RX1 = some m.cls := by
    have := C.2.2.2.1
    rw [o1] at this
    exact this
  have f1 := C.2.2.2.2.2.2.2.1
  have f2 := C.2.2.2.2.2.2.2.2.1
  exact (hT p l e R s m args below meth c Q Y.2.2.1 pc fc fs ix g H locs ls (r.map (cv E)) C.1 C.2.1 (by rw [C.2.2.1]; exact h2.1.1.symm) hown C.2.2.2.2.1 C.2.2.2.2.2.2.1 (by omega) (by omega) (Nat.le_trans h7 C.2.2.2.2.2.2.2.2.2.1) (Nat.le_trans h8 C.2.2.2.2.2.2.2.2.2.2.1) h5 (by rw [catS_sum]; exact hcat) t1 hd).2.2 o2 i (fun v hv => h v hv H locs ls h1 h2 h3 (lv1 (v := aI v) trivial (lvt (lvt h4))) h5 h6 h7 h8 h9)
/-- the text constants' references -/
def LdcOK (E : Env0) (X : State → Prop) : Prop := ∀ (s : State) (own ix g : Nat), Stt E X s → stk own ix = some g → g < 13 ∧ ∃ tx, vk_R (own8 own) ix tx (E.2.2.2.1 70 g) s
theorem s_ldcS (C : Ctx E X Y d p R s m args meth c) (hG : LdcOK E X) {ix g : Nat} (hd : decode Y.2.2.1 pc = .ok (.ldc ix, 2)) (hg : stk Y.1.2.1 ix = some g) (h : PS E Y n0 p l e R s m args below meth c Q (pc + 2) L (aR 70 g :: st) S fc fs) : PS E Y n0 p l e R s m args below meth c Q pc L st S fc fs := by
  obtain ⟨g13, tx, hz⟩ := hG s _ _ _ C.2.2.2.2.2.2.1 hg
  intro H locs ls h1 h2 h3 h4 h5 h6 h7 h8 h9
  have hr := h H locs ls h1 h2 h3 (lv1 (v := aR 70 g) (Or.inr (Or.inr ⟨rfl, g13⟩)) h4) h5 h6 h7 h8 h9
  have ha : cv E (aR 70 g) = .ref (E.2.2.2.1 70 g) := by simp [cv, adr]
  rw [List.map_cons, ha] at hr
  exact va_ldcS C.1 C.2.1 C.2.2.2.1 hz hd hr
def alg (pc : Nat) : List (Int × Int) → List (Int32 × Nat) → Prop
  | [], [] => True
  | a :: l, b :: k => b.1.toInt = a.1 ∧ (pc : Int) + a.2 = (b.2 : Int) ∧ alg pc l k
  | _, _ => False
theorem alg_of {pc : Nat} : ∀ (l : List (Int × Int)) (sw : List (Int32 × Nat)), l.length = sw.length → (∀ (k : Nat) (q : Int32 × Nat) (o : Int × Int), nth sw k = some q → l[k]? = some o → q.1.toInt = o.1 ∧ (pc : Int) + o.2 = (q.2 : Int)) → alg pc l sw
  | [], [], _, _ => trivial
  | [], b :: k, h, _ => by simp at h
  | a :: l, [], h, _ => by simp at h
  | a :: l, b :: k, h, hf => ⟨(hf 0 b a rfl rfl).1, (hf 0 b a rfl rfl).2, alg_of l k (by simpa using h) (fun n q o h1 h2 => hf (n + 1) q o h1 (by simpa using h2))⟩
theorem look_go {pc t : Nat} {x : Int32} {df : Int} {P : Nat → Prop} (ht : (pc : Int) + df = (t : Int)) : ∀ (l : List (Int × Int)) (sw : List (Int32 × Nat)), alg pc l sw → swP x P sw t → ∃ tg : Nat, (pc : Int) + Op.lookupswitch.offset l df x.toInt = (tg : Int) ∧ P tg
  | [], [], _, h => ⟨t, by rw [Op.lookupswitch.offset_nil]; exact ht, h⟩
  | [], b :: k, h, _ => h.elim
  | a :: l, [], h, _ => h.elim
  | a :: l, b :: k, ⟨h1, h2, h3⟩, h => by
    by_cases hx : x = b.1
    · refine ⟨b.2, ?_, h.1 hx⟩
      rw [Op.lookupswitch.offset_cons, if_pos (by rw [hx, h1])]
      exact h2
    · obtain ⟨tg, e1, e2⟩ := look_go ht l k h3 (h.2 hx)
      refine ⟨tg, ?_, e2⟩
      rw [Op.lookupswitch.offset_cons, if_neg (fun z => hx (Int32.toInt_inj.mp (by rw [h1]; exact z.symm)))]
      exact e1
theorem s_look (C : Ctx E X Y d p R s m args meth c) {df : Int} {ps : Array (Int × Int)} {len : Nat} {x0 : Int32} {sw : List (Int32 × Nat)} (hd : decode Y.2.2.1 pc = .ok (.lookupswitch df ps, len)) (hk : ckI (.lookupswitch df ps) pc t x0 sw = true) (h : popI st fun x r => swP x (fun d => PS E Y n0 p l e R s m args below meth c Q d L r S fc fs) sw t) : PS E Y n0 p l e R s m args below meth c Q pc L st S fc fs := by
  obtain ⟨x, r, rfl, h'⟩ := popI_of h
  simp only [ckI, Bool.and_eq_true, decide_eq_true_eq] at hk
  obtain ⟨⟨⟨k1, k2⟩, k3⟩, k4⟩ := hk
  have hal : alg pc ps.toList sw := alg_of _ _ k3 (fun k q o hq ho => by
    have h9 := List.all_eq_true.mp k4 k (List.mem_range.mpr (nth_lt sw k q hq))
    rw [hq, ho] at h9
    simp only [Bool.and_eq_true, decide_eq_true_eq] at h9
    refine ⟨?_, h9.1.1.2⟩
    rw [h9.1.1.1, ofInt_toInt h9.1.2 (by omega)])
  intro H locs ls h1 h2 h3 h4 h5 h6 h7 h8 h9
  obtain ⟨tg, e1, e2⟩ := look_go k1 ps.toList sw hal h'
  exact lv_lookup C.1 C.2.1 hd k2 rfl e1 (e2 H locs ls h1 h2 h3 (lvt h4) h5 h6 h7 h8 h9)
set_option maxHeartbeats 4000000 in
theorem step {call : CT} {K : KT} (C : Ctx E X Y d p R s m args meth c) (hX : Xok E X) (hT : TxtOK E X) (hG : LdcOK E X) (hR : HRet E Y n0 p l e R s m args below meth c Q K) (hC : ∀ {S : St} (Z : MT) (as : List AV) (K' : KT), ckP Z → ckN Z = true → catS as ≤ Z.2.2.2.1 → call Z as S K' → MetC E X l d Z as S K') :
    ∀ pc L st S fc fs, F Y call K (PS E Y n0 p l e R s m args below meth c Q) pc L st S fc fs → PS E Y n0 p l e R s m args below meth c Q pc L st S fc fs := by
  intro pc L st S fc fs h
  unfold F at h
  split at h
  · exact h.elim
  rename_i i n t x0 sw hc
  obtain ⟨hd, hle, hck, hlen, hloc, hpf⟩ := ckM_at C.2.2.2.2.2.1 hc
  cases i
  all_goals first | exact False.elim h | skip
  case iconst z =>
    obtain ⟨hd1, rfl⟩ := dec_of hd hlen rfl (Nat.succ_pos _)
    exact s_iconst C hd1 (of_decide_eq_true hck) h
  case bipush z =>
    obtain ⟨hd1, rfl⟩ := dec_of hd hlen rfl (Nat.succ_pos _)
    exact s_bipush C hd1 (of_decide_eq_true hck) h
  case sipush z =>
    obtain ⟨hd1, rfl⟩ := dec_of hd hlen rfl (Nat.succ_pos _)
    exact s_sipush C hd1 (of_decide_eq_true hck) h
  case lconst z =>
    obtain ⟨hd1, rfl⟩ := dec_of hd hlen rfl (Nat.succ_pos _)
    exact s_lconst C hd1 h
  case aconst_null =>
    obtain ⟨hd1, rfl⟩ := dec_of hd hlen rfl (Nat.succ_pos _)
    exact s_null C hd1 h
  case iload k =>
    obtain ⟨hd1, rfl⟩ := dec_of hd hlen rfl (Nat.succ_pos _)
    exact s_iload C hd1 h
  case iload_n k =>
    obtain ⟨hd1, rfl⟩ := dec_of hd hlen rfl (Nat.succ_pos _)
    exact s_iload_n C hd1 h
  case lload k =>
    obtain ⟨hd1, rfl⟩ := dec_of hd hlen rfl (Nat.succ_pos _)
    exact s_lload C hd1 h
  case lload_n k =>
    obtain ⟨hd1, rfl⟩ := dec_of hd hlen rfl (Nat.succ_pos _)
    exact s_lload_n C hd1 h
  case aload k =>
    obtain ⟨hd1, rfl⟩ := dec_of hd hlen rfl (Nat.succ_pos _)
    exact s_aload C hd1 h
  case aload_n k =>
    obtain ⟨hd1, rfl⟩ := dec_of hd hlen rfl (Nat.succ_pos _)
    exact s_aload_n C hd1 h
  case istore k =>
    obtain ⟨hd1, rfl⟩ := dec_of hd hlen rfl (Nat.succ_pos _)
    exact s_istore C hd1 (Nat.le_of_ble_eq_true hloc) h
  case istore_n k =>
    obtain ⟨hd1, rfl⟩ := dec_of hd hlen rfl (Nat.succ_pos _)
    exact s_istore_n C hd1 (Nat.le_of_ble_eq_true hloc) h
  case lstore k =>
    obtain ⟨hd1, rfl⟩ := dec_of hd hlen rfl (Nat.succ_pos _)
    exact s_lstore C hd1 (Nat.le_of_ble_eq_true hloc) h
  case lstore_n k =>
    obtain ⟨hd1, rfl⟩ := dec_of hd hlen rfl (Nat.succ_pos _)
    exact s_lstore_n C hd1 (Nat.le_of_ble_eq_true hloc) h
  case astore k =>
    obtain ⟨hd1, rfl⟩ := dec_of hd hlen rfl (Nat.succ_pos _)
    exact s_astore C hd1 (Nat.le_of_ble_eq_true hloc) h
  case iinc k z =>
    obtain ⟨hd1, rfl⟩ := dec_of hd hlen rfl (Nat.succ_pos _)
    exact s_iinc C hd1 (of_decide_eq_true hck) (Nat.le_of_ble_eq_true hloc) h
  case iadd =>
    obtain ⟨hd1, rfl⟩ := dec_of hd hlen rfl (Nat.succ_pos _)
    exact s_bin (f := fun x y => x + y) (fun k => lv_iadd C.1 C.2.1 hd1 k) h
  case isub =>
    obtain ⟨hd1, rfl⟩ := dec_of hd hlen rfl (Nat.succ_pos _)
    exact s_bin (f := fun x y => x - y) (fun k => lv_isub C.1 C.2.1 hd1 k) h
  case imul =>
    obtain ⟨hd1, rfl⟩ := dec_of hd hlen rfl (Nat.succ_pos _)
    exact s_bin (f := fun x y => x * y) (fun k => lv_imul C.1 C.2.1 hd1 k) h
  case iand =>
    obtain ⟨hd1, rfl⟩ := dec_of hd hlen rfl (Nat.succ_pos _)
    exact s_bin (f := fun x y => x &&& y) (fun k => lv_iand C.1 C.2.1 hd1 k) h
  case ior =>
    obtain ⟨hd1, rfl⟩ := dec_of hd hlen rfl (Nat.succ_pos _)
    exact s_bin (f := fun x y => x ||| y) (fun k => lv_ior C.1 C.2.1 hd1 k) h
  case ixor =>
    obtain ⟨hd1, rfl⟩ := dec_of hd hlen rfl (Nat.succ_pos _)
    exact s_bin (f := fun x y => x ^^^ y) (fun k => lv_ixor C.1 C.2.1 hd1 k) h
  case idiv =>
    obtain ⟨hd1, rfl⟩ := dec_of hd hlen rfl (Nat.succ_pos _)
    exact s_binG (f := fun x y => x / y) (fun z k => lv_idiv C.1 C.2.1 hd1 z k) h
  case irem =>
    obtain ⟨hd1, rfl⟩ := dec_of hd hlen rfl (Nat.succ_pos _)
    exact s_binG (f := fun x y => x - x / y * y) (fun z k => lv_irem C.1 C.2.1 hd1 z k) h
  case ishl =>
    obtain ⟨hd1, rfl⟩ := dec_of hd hlen rfl (Nat.succ_pos _)
    exact s_bin (f := fun x y => x <<< (y &&& 31)) (fun k => lv_ishl C.1 C.2.1 hd1 k) h
  case ishr =>
    obtain ⟨hd1, rfl⟩ := dec_of hd hlen rfl (Nat.succ_pos _)
    exact s_bin (f := fun x y => x >>> (y &&& 31)) (fun k => lv_ishr C.1 C.2.1 hd1 k) h
  case iushr =>
    obtain ⟨hd1, rfl⟩ := dec_of hd hlen rfl (Nat.succ_pos _)
    exact s_bin (f := fun x y => (x.toUInt32 >>> (y.toUInt32 &&& Int32.toUInt32 31)).toInt32) (fun k => lv_iushr C.1 C.2.1 hd1 rfl k) h
  case ineg =>
    obtain ⟨hd1, rfl⟩ := dec_of hd hlen rfl (Nat.succ_pos _)
    exact s_un (f := fun x => aI (-x)) (fun _ => trivial) (fun k => lv_ineg C.1 C.2.1 hd1 k) h
  case i2l =>
    obtain ⟨hd1, rfl⟩ := dec_of hd hlen rfl (Nat.succ_pos _)
    exact s_un (f := fun x => aL x.toInt64) (fun _ => trivial) (fun k => lv_i2l C.1 C.2.1 hd1 rfl k) h
  case l2i =>
    obtain ⟨hd1, rfl⟩ := dec_of hd hlen rfl (Nat.succ_pos _)
    exact s_l2i C hd1 h
  case i2b =>
    obtain ⟨hd1, rfl⟩ := dec_of hd hlen rfl (Nat.succ_pos _)
    exact s_un (f := fun x => aI x.toInt8.toInt32) (fun _ => trivial) (fun k => lv_i2b C.1 C.2.1 hd1 rfl k) h
  case i2s =>
    obtain ⟨hd1, rfl⟩ := dec_of hd hlen rfl (Nat.succ_pos _)
    exact s_un (f := fun x => aI x.toInt16.toInt32) (fun _ => trivial) (fun k => lv_i2s C.1 C.2.1 hd1 rfl k) h
  case i2c =>
    obtain ⟨hd1, rfl⟩ := dec_of hd hlen rfl (Nat.succ_pos _)
    exact s_un (f := fun x => aI (x.toUInt32 % 65536).toInt32) (fun _ => trivial) (fun k => lv_i2c C.1 C.2.1 hd1 rfl k) h
  case ladd =>
    obtain ⟨hd1, rfl⟩ := dec_of hd hlen rfl (Nat.succ_pos _)
    exact s_binL (f := fun x y => x + y) (fun k => lv_ladd C.1 C.2.1 hd1 k) h
  case lsub =>
    obtain ⟨hd1, rfl⟩ := dec_of hd hlen rfl (Nat.succ_pos _)
    exact s_binL (f := fun x y => x - y) (fun k => lv_lsub C.1 C.2.1 hd1 k) h
  case lmul =>
    obtain ⟨hd1, rfl⟩ := dec_of hd hlen rfl (Nat.succ_pos _)
    exact s_binL (f := fun x y => x * y) (fun k => lv_lmul C.1 C.2.1 hd1 k) h
  case ldiv =>
    obtain ⟨hd1, rfl⟩ := dec_of hd hlen rfl (Nat.succ_pos _)
    exact s_binLG (f := fun x y => x / y) (fun z k => lv_ldiv C.1 C.2.1 hd1 z k) h
  case lrem =>
    obtain ⟨hd1, rfl⟩ := dec_of hd hlen rfl (Nat.succ_pos _)
    exact s_binLG (f := fun x y => x - x / y * y) (fun z k => lv_lrem C.1 C.2.1 hd1 z k) h
  case lcmp =>
    obtain ⟨hd1, rfl⟩ := dec_of hd hlen rfl (Nat.succ_pos _)
    exact s_lcmp C hd1 h
  case dup =>
    obtain ⟨hd1, rfl⟩ := dec_of hd hlen rfl (Nat.succ_pos _)
    exact s_dup C hd1 h
  case dup2 =>
    obtain ⟨hd1, rfl⟩ := dec_of hd hlen rfl (Nat.succ_pos _)
    exact s_dup2 C hd1 h
  case pop =>
    obtain ⟨hd1, rfl⟩ := dec_of hd hlen rfl (Nat.succ_pos _)
    exact s_pop C hd1 h
  case goto o =>
    obtain ⟨hd1, rfl⟩ := dec_of hd hlen rfl (Nat.succ_pos _)
    exact s_goto C hd1 (of_decide_eq_true hck) h
  case ifCond cc o =>
    obtain ⟨hd1, rfl⟩ := dec_of hd hlen rfl (Nat.succ_pos _)
    cases cc
    case eq => exact s_br1 (u := fun x => x = 0) (w := fun x => ¬ x = 0) (fun a b => lv_if_eq C.1 C.2.1 hd1 (of_decide_eq_true hck) a b) h
    case ne => exact s_br1 (u := fun x => ¬ x = 0) (w := fun x => x = 0) (fun a b => lv_if_ne C.1 C.2.1 hd1 (of_decide_eq_true hck) a b) h
    case lt => exact s_br1 (u := fun x => x < 0) (w := fun x => ¬ x < 0) (fun a b => lv_if_lt C.1 C.2.1 hd1 (of_decide_eq_true hck) a b) h
    case ge => exact s_br1 (u := fun x => 0 ≤ x) (w := fun x => ¬ 0 ≤ x) (fun a b => lv_if_ge C.1 C.2.1 hd1 (of_decide_eq_true hck) a b) h
    case gt => exact s_br1 (u := fun x => 0 < x) (w := fun x => ¬ 0 < x) (fun a b => lv_if_gt C.1 C.2.1 hd1 (of_decide_eq_true hck) a b) h
    case le => exact s_br1 (u := fun x => x ≤ 0) (w := fun x => ¬ x ≤ 0) (fun a b => lv_if_le C.1 C.2.1 hd1 (of_decide_eq_true hck) a b) h
  case if_icmp cc o =>
    obtain ⟨hd1, rfl⟩ := dec_of hd hlen rfl (Nat.succ_pos _)
    cases cc
    case eq => exact s_br2 (u := fun x y => x = y) (w := fun x y => ¬ x = y) (fun a b => lv_icmp_eq C.1 C.2.1 hd1 (of_decide_eq_true hck) a b) h
    case ne => exact s_br2 (u := fun x y => ¬ x = y) (w := fun x y => x = y) (fun a b => lv_icmp_ne C.1 C.2.1 hd1 (of_decide_eq_true hck) a b) h
    case lt => exact s_br2 (u := fun x y => x < y) (w := fun x y => ¬ x < y) (fun a b => lv_icmp_lt C.1 C.2.1 hd1 (of_decide_eq_true hck) a b) h
    case ge => exact s_br2 (u := fun x y => y ≤ x) (w := fun x y => ¬ y ≤ x) (fun a b => lv_icmp_ge C.1 C.2.1 hd1 (of_decide_eq_true hck) a b) h
    case gt => exact s_br2 (u := fun x y => y < x) (w := fun x y => ¬ y < x) (fun a b => lv_icmp_gt C.1 C.2.1 hd1 (of_decide_eq_true hck) a b) h
    case le => exact s_br2 (u := fun x y => x ≤ y) (w := fun x y => ¬ x ≤ y) (fun a b => lv_icmp_le C.1 C.2.1 hd1 (of_decide_eq_true hck) a b) h
  case ldc ix =>
    obtain ⟨hd1, rfl⟩ := dec_of hd hlen rfl (Nat.succ_pos _)
    simp only [G] at h
    split at h
    · rename_i g hg
      exact s_ldcS C hG hd1 hg h
    · split at h
      · rename_i v hv
        exact s_ldcI C hd1 hv h
      · exact h.elim
  case ldc_w ix =>
    obtain ⟨hd1, rfl⟩ := dec_of hd hlen rfl (Nat.succ_pos _)
    simp only [G] at h
    split at h
    · rename_i v hv
      exact s_ldcw C hd1 hv h
    · exact h.elim
  case ldc2_w ix =>
    obtain ⟨hd1, rfl⟩ := dec_of hd hlen rfl (Nat.succ_pos _)
    simp only [G] at h
    split at h
    · rename_i v hv
      exact s_ldc2 C hd1 hv h
    · exact h.elim
  case astore_n k =>
    obtain ⟨hd1, rfl⟩ := dec_of hd hlen rfl (Nat.succ_pos _)
    simp only [G] at h
    split at h
    · exact s_astore_n C hd1 (Nat.le_of_ble_eq_true hloc) h
    · exact h.elim
  case ifnonnull o =>
    obtain ⟨hd1, rfl⟩ := dec_of hd hlen rfl (Nat.succ_pos _)
    simp only [G] at h
    split at h
    · exact s_ifnnN C hd1 h
    · exact s_ifnn C hd1 (of_decide_eq_true hck) h
    · exact h.elim
  case tableswitch df lo hi offs => exact s_table C hd hck h
  case lookupswitch df ps => exact s_look C hd hck h
  case getfield ix =>
    obtain ⟨hd1, rfl⟩ := dec_of hd hlen rfl (Nat.succ_pos _)
    simp only [G] at h
    split at h
    · exact h.elim
    · rename_i ci k ty fin hf
      obtain ⟨j, g, r, rfl, h_1⟩ := popR_of h
      obtain ⟨hj, h_2⟩ := cond_of h_1
      have hj := Nat.eq_of_beq_eq_true hj
      split at h_2
      · exact s_getf C hd1 hf hj (v := aL S.2.1) (fun _ _ _ _ _ _ => trivial) (fun z => by rw [← hj] at z; simp [fvl, z, cv]) h_2
      · obtain ⟨hn, h_2⟩ := h_2
        refine s_getf C hd1 hf hj (v := Sum.inr (Sum.inr (some (frf j g k)))) (fun H h1 h2 h3 h4 h5 => ?_) (fun z => by rw [← hj] at z; exact cv_frf z hn) h_2
        subst hj
        have hc : clsP j < 7 := by
          obtain ⟨q, hq, -⟩ := fldQ hf
          exact (clsF hq).2.2.2.2.2.1
        exact h5.2.2.2.2.2.1 j g k h1 h2 hc h4 h3 hn
      · rename_i n1 n2
        exact s_getf C hd1 hf hj (v := aI (S.1 j g k)) (fun _ _ _ _ _ _ => trivial) (fun z => by
          rw [← hj] at z
          unfold fvl
          split
          · rename_i y; exact absurd (z.symm.trans y) n1
          · rename_i y; exact absurd (z.symm.trans y) n2
          · rfl) h_2
  case putfield ix =>
    obtain ⟨hd1, rfl⟩ := dec_of hd hlen rfl (Nat.succ_pos _)
    simp only [G] at h
    split at h
    · exact h.elim
    · rename_i ci k ty fin hf
      obtain ⟨hfc, h_1⟩ := few_of h
      have hin : fin = true → Y.2.1.name = "<init>" ∧ ci = Y.1.2.1 := by
        intro z
        subst z
        simp only [pfI, hf, Bool.and_eq_true, decide_eq_true_eq] at hpf
        exact ⟨hpf.1, Nat.eq_of_beq_eq_true hpf.2⟩
      split at h_1
      · obtain ⟨x, r, rfl, h_2⟩ := popJ_of h_1
        obtain ⟨j, g, r, rfl, h_3⟩ := popR_of h_2
        obtain ⟨hj, h_4⟩ := cond_of h_3
        exact s_put1 C hd1 hin hf (Nat.eq_of_beq_eq_true hj) hfc h_4
      · obtain ⟨a, b, r, rfl, h_5⟩ := popR_of h_1
        obtain ⟨j, g, r, rfl, h_6⟩ := popR_of h_5
        obtain ⟨hj, h_7⟩ := cond_of h_6
        exact s_put2 C hd1 hin hf (Nat.eq_of_beq_eq_true hj) h_7.1 hfc h_7.2
      · obtain ⟨x, r, rfl, h_8⟩ := popI_of h_1
        obtain ⟨j, g, r, rfl, h_9⟩ := popR_of h_8
        obtain ⟨hj, h_10⟩ := cond_of h_9
        exact s_put0 C (Or.inr rfl) hd1 hin hf (fun _ => h_10.1) (Nat.eq_of_beq_eq_true hj) hfc h_10.2
      · rename_i n1 n2 n3
        obtain ⟨x, r, rfl, h_11⟩ := popI_of h_1
        obtain ⟨j, g, r, rfl, h_12⟩ := popR_of h_11
        obtain ⟨hj, h_13⟩ := cond_of h_12
        have hty : ty = 0 := by
          obtain ⟨q, hq, hk, hty, -⟩ := fldQ hf
          have := ftyLe (ci := ci) (k := k)
          rw [hty] at this
          rcases this with z | z | z | z | z
          · exact z
          · exact absurd z n1
          · exact absurd z n2
          · exact absurd z n3
          · exfalso
            have hno := fld9 hf
            omega
        exact s_put0 C (Or.inl hty) hd1 hin hf (fun z => by omega) (Nat.eq_of_beq_eq_true hj) hfc h_13
  case getstatic ix =>
    obtain ⟨hd1, rfl⟩ := dec_of hd hlen rfl (Nat.succ_pos _)
    simp only [G] at h
    split at h
    · exact h.elim
    · rename_i j hj
      exact s_gets C hd1 hj h
  case iaload =>
    obtain ⟨hd1, rfl⟩ := dec_of hd hlen rfl (Nat.succ_pos _)
    obtain ⟨i, r, rfl, h_1⟩ := popI_of h
    obtain ⟨j, g, r, rfl, h_2⟩ := popR_of h_1
    obtain ⟨hj, k, hk, h_3⟩ := cond_of h_2
    simp only [Bool.or_eq_true] at hj
    exact s_iald C hd1 (hj.imp Nat.eq_of_beq_eq_true Nat.eq_of_beq_eq_true) hk h_3
  case baload =>
    obtain ⟨hd1, rfl⟩ := dec_of hd hlen rfl (Nat.succ_pos _)
    obtain ⟨i, r, rfl, h_1⟩ := popI_of h
    obtain ⟨j, g, r, rfl, h_2⟩ := popR_of h_1
    obtain ⟨hj, k, hk, h_3⟩ := cond_of h_2
    exact s_bald C hd1 (Nat.eq_of_beq_eq_true hj) hk h_3
  case aaload =>
    obtain ⟨hd1, rfl⟩ := dec_of hd hlen rfl (Nat.succ_pos _)
    obtain ⟨i, r, rfl, h_1⟩ := popI_of h
    obtain ⟨j, g, r, rfl, h_2⟩ := popR_of h_1
    obtain ⟨hj, k, hk, hn, h_3⟩ := cond_of h_2
    exact s_aald C hd1 (Nat.le_of_ble_eq_true hj) hk hn h_3
  case iastore =>
    obtain ⟨hd1, rfl⟩ := dec_of hd hlen rfl (Nat.succ_pos _)
    obtain ⟨hfc, h_1⟩ := few_of h
    obtain ⟨x, r, rfl, h_2⟩ := popI_of h_1
    obtain ⟨i, r, rfl, h_3⟩ := popI_of h_2
    obtain ⟨j, g, r, rfl, h_4⟩ := popR_of h_3
    obtain ⟨hj, k, hk, h_5⟩ := cond_of h_4
    exact s_iast C hd1 hfc (Nat.eq_of_beq_eq_true hj) hk h_5
  case bastore =>
    obtain ⟨hd1, rfl⟩ := dec_of hd hlen rfl (Nat.succ_pos _)
    obtain ⟨hfc, h_1⟩ := few_of h
    obtain ⟨x, r, rfl, h_2⟩ := popI_of h_1
    obtain ⟨i, r, rfl, h_3⟩ := popI_of h_2
    obtain ⟨j, g, r, rfl, h_4⟩ := popR_of h_3
    obtain ⟨hj, k, hk, hx, h_5⟩ := cond_of h_4
    exact s_bast C hd1 hfc (Nat.eq_of_beq_eq_true hj) hk hx h_5
  case aastore =>
    obtain ⟨hd1, rfl⟩ := dec_of hd hlen rfl (Nat.succ_pos _)
    obtain ⟨hfc, h_1⟩ := few_of h
    obtain ⟨a, b, r, rfl, h_2⟩ := popR_of h_1
    obtain ⟨i, r, rfl, h_3⟩ := popI_of h_2
    obtain ⟨j, g, r, rfl, h_4⟩ := popR_of h_3
    obtain ⟨hj, k, hk, he, h_5⟩ := cond_of h_4
    have hs := s_aast C hd1 hfc (Nat.le_of_ble_eq_true hj) hk h_5
    rw [he] at hs
    exact hs
  case arraylength =>
    obtain ⟨hd1, rfl⟩ := dec_of hd hlen rfl (Nat.succ_pos _)
    simp only [G] at h
    obtain ⟨j, g, r, rfl, h_1⟩ := popR_of h
    obtain ⟨hj, h_2⟩ := cond_of h_1
    simp only [Bool.or_eq_true] at hj
    exact s_alen C hd1 (hj.imp Nat.le_of_ble_eq_true Nat.le_of_ble_eq_true) h_2
  case newarray ty =>
    obtain ⟨hd1, rfl⟩ := dec_of hd hlen rfl (Nat.succ_pos _)
    cases ty
    case int =>
      obtain ⟨hfc, h_1⟩ := few_of h
      obtain ⟨x, r, rfl, j, g, k, rfl, h1, h2, h3, h4, h5, h6, h7, h_2⟩ := popI_of h_1
      exact s_newI C hd1 hfc h1 h2 h3 h4 h5 h6 h7 h_2
    case boolean =>
      obtain ⟨hfc, h_3⟩ := few_of h
      obtain ⟨x, r, rfl, j, g, k, rfl, h1, h2, h4, h5, h6, h7, h_4⟩ := popI_of h_3
      exact s_newZ C hd1 hfc h1 h2 h4 h5 h6 h7 h_4
    all_goals exact False.elim h
  case anewarray ix =>
    obtain ⟨hd1, rfl⟩ := dec_of hd hlen rfl (Nat.succ_pos _)
    simp only [G] at h
    split at h
    · exact h.elim
    · rename_i ci hci
      obtain ⟨hfc, h_1⟩ := few_of h
      obtain ⟨x, r, rfl, j, g, k, rfl, h1, h2, h4, h5, h6, h7, h_2⟩ := popI_of h_1
      exact s_newR C hd1 hci hfc h1 h2 h4 h5 h6 h7 h_2
  case new ix =>
    obtain ⟨hd1, rfl⟩ := dec_of hd hlen rfl (Nat.succ_pos _)
    simp only [G] at h
    split at h
    · exact h.elim
    · rename_i ci hci
      split at h
      · exact h.elim
      · rename_i q hq
        obtain ⟨hfc, j, g, h1, h2, h3, h4, h5, h_1⟩ := few_of h
        exact s_new C hd1 hci hq hfc h1 h2 h3 h4 h5 h_1
  case checkcast ix =>
    obtain ⟨hd1, rfl⟩ := dec_of hd hlen rfl (Nat.succ_pos _)
    obtain ⟨hc, h_1⟩ := cond_of h
    obtain ⟨j, g, r, rfl, h_2⟩ := popR_of h_1
    obtain ⟨hj, h_3⟩ := cond_of h_2
    split at hc
    · rename_i hci
      exact s_cast C hd1 hci (Nat.eq_of_beq_eq_true hj) h_3
    · cases hc
  case invokevirtual ix =>
    obtain ⟨hd1, rfl⟩ := dec_of hd hlen rfl (Nat.succ_pos _)
    simp only [G] at h
    split at h
    · exact h.elim
    · rename_i kd Z na hl
      split at h
      · obtain ⟨hr, h_1⟩ := cond_of h
        cases hp : popN (na + 1) st [] with
        | none => rw [hp] at h_1; exact h_1.elim
        | some q =>
          obtain ⟨as, rest⟩ := q
          rw [hp] at h_1 hr
          obtain ⟨g1, g2, g3, g4, K', hcall, hK⟩ := goC_of h_1
          exact s_goV C hX hd1 hl hp hr g1 g2 g3 (hC Z as K' (lkP hl) (ckN0 hl (Or.inl rfl)) g4 hcall) hK
      · obtain ⟨hfc, h_2⟩ := few_of h
        obtain ⟨j, g, r, rfl, h_3⟩ := popR_of h_2
        obtain ⟨hb, a, b, h1, h2, h3, h4, h5, h6, h_4⟩ := cond_of h_3
        simp only [Bool.and_eq_true] at hb
        exact s_clone C hfc hd1 hl (Nat.le_of_ble_eq_true hb.2) (Nat.eq_of_beq_eq_true hb.1) h1 h2 h3 h4 h5 h6 h_4
      · obtain ⟨j, g, r, rfl, h_5⟩ := popR_of h
        obtain ⟨hb, h_6⟩ := cond_of h_5
        simp only [Bool.and_eq_true] at hb
        have hj := Nat.eq_of_beq_eq_true hb.1
        subst hj
        exact s_tlen C hT hd1 hl (Nat.le_of_ble_eq_true hb.2) h_6
      · obtain ⟨i, r, rfl, h_7⟩ := popI_of h
        obtain ⟨j, g, r, rfl, h_8⟩ := popR_of h_7
        obtain ⟨hb, k, rfl, hk, h_9⟩ := cond_of h_8
        simp only [Bool.and_eq_true] at hb
        have hj := Nat.eq_of_beq_eq_true hb.1
        subst hj
        exact s_tat C hT hd1 hl (Nat.le_of_ble_eq_true hb.2) hk h_9
      · obtain ⟨i, r, rfl, h_10⟩ := popI_of h
        obtain ⟨j, g, r, rfl, h_11⟩ := popR_of h_10
        obtain ⟨hb, h_12⟩ := cond_of h_11
        simp only [Bool.and_eq_true] at hb
        have hj := Nat.eq_of_beq_eq_true hb.1
        subst hj
        exact s_tix C hT hd1 hl (Nat.le_of_ble_eq_true hb.2) h_12
      · exact h.elim
  case invokestatic ix =>
    obtain ⟨hd1, rfl⟩ := dec_of hd hlen rfl (Nat.succ_pos _)
    simp only [G] at h
    split at h
    · exact h.elim
    · rename_i kd Z na hl
      split at h
      · cases hp : popN na st [] with
        | none => rw [hp] at h; exact h.elim
        | some q =>
          obtain ⟨as, rest⟩ := q
          rw [hp] at h
          obtain ⟨g1, g2, g3, g4, K', hcall, hK⟩ := goC_of h
          exact s_goS C hX hd1 hl hp g1 g2 g3 (hC Z as K' (lkP hl) (ckN0 hl (Or.inr (Or.inl rfl))) g4 hcall) hK
      · cases hp : popN na st [] with
        | none => rw [hp] at h; exact h.elim
        | some q =>
          obtain ⟨as, rest⟩ := q
          rw [hp] at h
          obtain ⟨g1, g2, g3, g4, K', hcall, hK⟩ := goC_of h
          exact s_goN C hX hd1 hl hp g1 g2 g3 (hC Z as K' (lkP hl) (ckN0 hl (Or.inr (Or.inr (Or.inr (Or.inl rfl))))) g4 hcall) hK
      · obtain ⟨y, r, rfl, h_1⟩ := popI_of h
        obtain ⟨x, r, rfl, h_2⟩ := popI_of h_1
        obtain ⟨hb, h_3⟩ := cond_of h_2
        exact s_min C hd1 hl (Nat.le_of_ble_eq_true hb) h_3
      · obtain ⟨y, r, rfl, h_4⟩ := popI_of h
        obtain ⟨x, r, rfl, h_5⟩ := popI_of h_4
        obtain ⟨hb, h_6⟩ := cond_of h_5
        exact s_max C hd1 hl (Nat.le_of_ble_eq_true hb) h_6
      · obtain ⟨hfc, h_7⟩ := few_of h
        obtain ⟨z, r, rfl, h_8⟩ := popI_of h_7
        obtain ⟨dp, r, rfl, h_9⟩ := popI_of h_8
        obtain ⟨a, b, r, rfl, h_10⟩ := popR_of h_9
        obtain ⟨sp, r, rfl, h_11⟩ := popI_of h_10
        obtain ⟨j, g, r, rfl, h_12⟩ := popR_of h_11
        obtain ⟨hb, ks, kd', kn, rfl, rfl, rfl, h1, h2, h3, h_13⟩ := cond_of h_12
        simp only [Bool.and_eq_true] at hb
        exact s_copy C hfc hd1 hl (Nat.le_of_ble_eq_true hb.2) (Nat.eq_of_beq_eq_true hb.1.2) (Nat.eq_of_beq_eq_true hb.1.1) h1 h2 h3 h_13
      · exact h.elim
  case invokespecial ix =>
    obtain ⟨hd1, rfl⟩ := dec_of hd hlen rfl (Nat.succ_pos _)
    simp only [G] at h
    split at h
    · exact h.elim
    · rename_i kd Z na hl
      split at h
      · obtain ⟨hr, h_1⟩ := cond_of h
        cases hp : popN (na + 1) st [] with
        | none => rw [hp] at h_1; exact h_1.elim
        | some q =>
          obtain ⟨as, rest⟩ := q
          rw [hp] at h_1 hr
          obtain ⟨g1, g2, g3, g4, K', hcall, hK⟩ := goC_of h_1
          exact s_goI C hX (Or.inl rfl) hd1 hl hp hr g1 g2 g3 (hC Z as K' (lkP hl) (ckN0 hl (Or.inr (Or.inr (Or.inl rfl)))) g4 hcall) hK
      · obtain ⟨hr, h_2⟩ := cond_of h
        cases hp : popN (na + 1) st [] with
        | none => rw [hp] at h_2; exact h_2.elim
        | some q =>
          obtain ⟨as, rest⟩ := q
          rw [hp] at h_2 hr
          obtain ⟨g1, g2, g3, g4, K', hcall, hK⟩ := goC_of h_2
          exact s_goI C hX (Or.inr rfl) hd1 hl hp hr g1 g2 g3 (hC Z as K' (lkP hl) (ckN0 hl (Or.inr (Or.inr (Or.inr (Or.inr rfl))))) g4 hcall) hK
      · obtain ⟨j, g, r, rfl, h_3⟩ := popR_of h
        obtain ⟨hb, h_4⟩ := cond_of h_3
        exact s_obj C hd1 hl (Nat.le_of_ble_eq_true hb) h_4
      · exact h.elim
  case ireturn =>
    obtain ⟨hd1, rfl⟩ := dec_of hd hlen rfl (Nat.succ_pos _)
    simp only [G] at h
    split at h
    · split at h
      · rename_i x rk hrk
        exact s_ret hR hd1 (v := some (aI x)) (Or.inl ⟨rfl, x, rfl, Or.inl hrk⟩) h
      · rename_i x rk hrk
        exact s_ret hR hd1 (v := some (aI x)) (Or.inl ⟨rfl, x, rfl, Or.inr ⟨hrk, h.1⟩⟩) h.2
      · exact h.elim
    · exact h.elim
  case lreturn =>
    obtain ⟨hd1, rfl⟩ := dec_of hd hlen rfl (Nat.succ_pos _)
    simp only [G] at h
    split at h
    · split at h
      · rename_i x rk hrk
        exact s_ret hR hd1 (v := some (aL x)) (Or.inr (Or.inl ⟨rfl, hrk, x, rfl⟩)) h
      · exact h.elim
    · exact h.elim
  case areturn =>
    obtain ⟨hd1, rfl⟩ := dec_of hd hlen rfl (Nat.succ_pos _)
    simp only [G] at h
    split at h
    · split at h
      · rename_i q rk hrk
        exact s_ret hR hd1 (v := some (Sum.inr (Sum.inr q))) (Or.inr (Or.inr (Or.inl ⟨rfl, hrk, q, rfl⟩))) h
      · exact h.elim
    · exact h.elim
  case return_ =>
    obtain ⟨hd1, rfl⟩ := dec_of hd hlen rfl (Nat.succ_pos _)
    simp only [G] at h
    split at h
    · split at h
      · rename_i rk hrk
        exact s_ret hR hd1 (v := none) (Or.inr (Or.inr (Or.inr ⟨rfl, hrk, rfl⟩))) h
      · exact h.elim
    · exact h.elim
end SNL
end
section
/-! SOUNDNESS: a run of AM is a contract -/
theorem mkL_len : ∀ (n : Nat) (as : List AV), (mkL n as).length = n
  | 0, _ => rfl
  | n + 1, [] => by simp [mkL, mkL_len n []]
  | 1, v :: r => by
    unfold mkL
    split <;> rfl
  | n + 2, v :: r => by
    unfold mkL
    split
    · simp [mkL_len n r]
    · simp [mkL_len (n + 1) r]
theorem mkL_in : ∀ (n : Nat) (as : List AV) (k : Nat) (v : AV), nth (mkL n as) k = some (some v) → v ∈ as
  | 0, _, k, v, h => by simp [mkL, nth] at h
  | n + 1, [], 0, v, h => by simp [mkL, nth] at h
  | n + 1, [], k + 1, v, h => by
    simp only [mkL, nth] at h
    exact mkL_in n [] k v h
  | 1, u :: r, 0, v, h => by
    unfold mkL at h
    split at h <;> (simp only [nth, Option.some.injEq] at h; rw [h]; exact List.mem_cons_self)
  | 1, u :: r, k + 1, v, h => by
    unfold mkL at h
    split at h <;> simp [nth, mkL] at h
  | n + 2, u :: r, 0, v, h => by
    unfold mkL at h
    split at h <;> (simp only [nth, Option.some.injEq] at h; rw [h]; exact List.mem_cons_self)
  | n + 2, u :: r, k + 1, v, h => by
    unfold mkL at h
    split at h
    · cases k with
      | zero => simp [nth] at h
      | succ k => exact List.mem_cons_of_mem _ (mkL_in n r k v h)
    · exact List.mem_cons_of_mem _ (mkL_in (n + 1) r k v h)
theorem lvl_mkL {E : Env0} : ∀ (n : Nat) (as : List AV) (k : Nat), ∀ q ∈ lvl E (mkL n as) k, q ∈ lv_args k (as.map (cv E))
  | 0, _, k, q, h => by simp [mkL, lvl] at h
  | n + 1, [], k, q, h => by
    simp only [mkL, lvl] at h
    have := lvl_mkL n [] (k + 1) q h
    simp [lv_args] at this
  | 1, v :: r, k, q, h => by
    unfold mkL at h
    split at h <;> (simp [lvl, mkL] at h; subst h; exact List.mem_cons_self)
  | n + 2, v :: r, k, q, h => by
    unfold mkL at h
    split at h
    · simp only [lvl] at h
      rcases List.mem_cons.mp h with h | h
      · rw [h]; exact List.mem_cons_self
      · refine List.mem_cons_of_mem _ ?_
        exact lvl_mkL n r (k + 1 + 1) q h
    · rename_i hv
      simp only [lvl] at h
      rcases List.mem_cons.mp h with h | h
      · rw [h]; exact List.mem_cons_self
      · refine List.mem_cons_of_mem _ ?_
        have h1 := lvl_mkL (n + 1) r (k + 1) q h
        have hc : ¬ (cv E v).category = 2 := by
          intro z
          have := cv_cat.mp z
          rcases v with x | x | x | x
          · simp [isJ] at this
          · exact hv x rfl
          · simp [isJ] at this
          · simp [isJ] at this
        simp only [hc, if_false]
        exact h1
theorem sl_len {E : Env0} (as : List AV) : (lg_sl (as.map (cv E))).length = catS as := by
  induction as with
  | nil => rfl
  | cons v r ih =>
    simp only [List.map_cons, lg_sl, List.flatMap_cons, List.length_append, catS]
    have : (List.flatMap (fun v => if v.category = 2 then [Slot.val v, Slot.second] else [Slot.val v]) (r.map (cv E))).length = catS r := ih
    rw [this]
    rcases v with x | x | x | x <;> simp [cv, Value.category]
theorem ret_ty {Y : MT} (h : ckN Y = true) {k : Nat} (hk : Y.1.2.2.2.2 = k) : (k = 0 → Y.2.2.2.2 = none) ∧ (k = 1 → Y.2.2.2.2 = some .int) ∧ (k = 2 → Y.2.2.2.2 = some .long) ∧ (k = 3 → ∃ C, Y.2.2.2.2 = some (.object C)) ∧ (k = 4 → Y.2.2.2.2 = some .boolean) := by
  have := (ckN_of h).2.2.2.2.1
  rw [hk] at this
  unfold rkOf at this
  split at this <;> (rename_i hr; refine ⟨fun z => ?_, fun z => ?_, fun z => ?_, fun z => ?_, fun z => ?_⟩ <;> first | exact hr | exact ⟨_, hr⟩ | (subst z; simp at this; done))
set_option maxHeartbeats 1000000 in
theorem sound {E : Env0} {X : State → Prop} {l : Launch} (hX : Xok E X) (hT : TxtOK E X) (hG : LdcOK E X) : ∀ (d : Nat) {S : St} (Z : MT) (as : List AV) (K : KT), ckP Z → ckN Z = true → catS as ≤ Z.2.2.2.1 → Call d Z as S K → MetC E X l d Z as S K := by
  intro d
  induction d with
  | zero => intro S Z as K _ _ _ h; exact h.elim
  | succ d ih =>
    intro S Z as K hP hN hfit h
    obtain ⟨n1, n2, n3, n4, n5, n6⟩ := ckN_of hN
    refine Met.ofW (cc := Z.2.2.1) (maxL := Z.2.2.2.1) (ret := Z.2.2.2.2) n2 rfl ?_
    intro p e s m args below meth c s₁ B hml hv
    obtain ⟨rfl, hR, hSt, hlv⟩ := hv
    have hts := atoms_spec (ws := wsM Z) B.pre
    have hown : s.vm.findClass (own8 Z.1.2.1) = some m.cls := by
      rw [← n1]
      exact findClass_of_methodNamed B.named
    have C : Ctx E X Z d p (headSpec (wsM Z) (rmOf (d + 1) Z)).room s m (as.map (cv E)).toArray meth c :=
      ⟨B.exec, B.bytes, hml, hown, fun w hw => hts w (List.mem_cons_of_mem _ hw), hP, hSt, (by show d + 9 ≤ d + 1 + 8; omega), (by show 64 * d + 664 ≤ 64 * (d + 1) + 600; omega), Nat.le_refl _, Nat.le_refl _, fun z => by rw [(name_of_methodNamed B.named B.method).1]; exact z⟩
    have hlocks := B.notSynchronized
    have hret := B.returns
    have hHR : HRet E Z S.2.2.2.2 p l e (headSpec (wsM Z) (rmOf (d + 1) Z)).room s m (as.map (cv E)).toArray below meth c (MQ below (fun _ st o t => QcT E S K st o t) (as.map (cv E)).toArray s Z.1.2.2.1 Z.1.2.2.2.1 (baseA E)) K := by
      intro pc fc fs S' H locs ls i v hd hri hK hR' hlv' hS hn hfc hfs
      refine W.widen hfc hfs ?_
      have hq : ∀ t : State, t.heap = H → s.WarmedH t.vm → QcT E S K s (.returned (v.map (cv E))) t := fun t ht _ => ⟨⟨v, S', hK, rfl, by rw [ht]; exact hR', hlv', hn⟩, hS.F ht⟩
      have hty := ret_ty hN (k := Z.1.2.2.2.2) rfl
      rcases hri with ⟨rfl, x, rfl, hx | ⟨hx, h01⟩⟩ | ⟨rfl, hx, x, rfl⟩ | ⟨rfl, hx, q, rfl⟩ | ⟨rfl, hx, rfl⟩
      · exact W.iret (v := x) B.exec B.bytes (by rw [hret]; exact hty.2.1 hx) (fun t a b => hq t a b) hS.2.2 hd
      · exact W.zret (v := x) (ty := .boolean) B.exec B.bytes (by rw [hret]; exact hty.2.2.2.2 hx) (by rcases h01 with rfl | rfl <;> decide) (fun t a b => hq t a b) hS.2.2 hd
      · exact W.lret (v := x) B.exec B.bytes (by rw [hret]; exact hty.2.2.1 hx) (fun t a b => hq t a b) hS.2.2 hd
      · obtain ⟨Cn, hCn⟩ := hty.2.2.2.1 hx
        rcases q with _ | q
        · exact W.aret (v := .null) B.exec B.bytes (by rw [hret]; exact hCn) (Or.inl ⟨Cn, rfl⟩) (Or.inl rfl) (fun t a b => hq t a b) hS.2.2 hd
        · exact W.aret (v := .ref (adr E q.1 q.2)) B.exec B.bytes (by rw [hret]; exact hCn) (Or.inl ⟨Cn, rfl⟩) (Or.inr ⟨_, rfl⟩) (fun t a b => hq t a b) hS.2.2 hd
      · exact W.vret B.exec B.bytes (by rw [hret]; exact hty.1 hx) (fun t a b => hq t a b) hS.2.2 hd
    have hst := step (n0 := S.2.2.2.2) (below := below) (l := l) (e := e) (call := Call d) (K := K) C hX hT hG hHR (fun {S'} Z' as' K' a b c0 h' => ih Z' as' K' a b c0 h')
    have hps := h _ hst
    rw [lg_entry_eq]
    have hle : (lg_sl (as.map (cv E))).length ≤ Z.2.2.2.1 := by rw [sl_len]; exact hfit
    have hl := lv_entry (as.map (cv E)) (n := Z.2.2.2.1) hle
    exact hps s.heap [] _ hR ⟨⟨hl.1, hl.2.1, fun q hq => hl.2.2 q (lvl_mkL _ _ _ q hq)⟩, mkL_len _ _⟩ (fun k v hk => hlv v (mkL_in _ _ k v hk)) (fun v hv => absurd hv List.not_mem_nil) va_S.rf (Nat.le_refl _) (Nat.zero_le _) (Nat.zero_le _) (fun _ => ⟨hR.1, rfl⟩)
end
section
/-! WHAT THE METHODS DO -/
/-- the references that are set for good -/
def nnr (j k : Nat) : Bool := cond (Nat.ble (clsP j) 6) (Nat.beq (fty (clsP j) k) 2 && Nat.ble (k + 1) (nFl (clsP j))) (Nat.ble 1 (rfk j) && !(Nat.beq j 3) && Nat.ble (k + 1) (aln (fun _ => 0) j 0))
def NN (S : St) : Prop := ∀ j g k, nnr j k = true → S.2.2.1 j g k = true
/-- a sum -/
def sm (f : Nat → Int32) : Nat → Int32
  | 0 => 0
  | n + 1 => sm f n + f n
theorem ix5 (a b : Nat) : nI a * 5 + nI b = nI (5 * a + b) := by
  rw [show (5 : Int32) = nI 5 from rfl, pk_mul, nI_add, Nat.mul_comm]
theorem sp_owing {d : Nat} {S : St} {K : KT} {f a b : Nat} (hd : 1 ≤ d) (hN : NN S) (ha : a < 5) (hb : b < 5) (h : K (some (aI (S.1 14 f (5 * a + b)))) S) : Call d m_X0_owing [aR 10 f, aI (nI a), aI (nI b)] S K := by
  refine Call.of (k := 0) hd (fun e he P hP => ?_)
  repeat (first | (refine hP _ _ _ _ _ _ ?_; show P _ _ _ _ _ _) | refine hP _ _ _ _ _ _ (And.intro (hN _ _ _ rfl) ?_))
  refine hP _ _ _ _ _ _ (Exists.intro (5 * a + b) (And.intro (And.intro (ix5 a b) (by show _ < 25; omega)) ?_))
  exact hP _ _ _ _ _ _ h
theorem sp_owes {d : Nat} {S : St} {K : KT} {f a n : Nat} (hd : 1 ≤ d) (hN : NN S) (hn : n ≤ 5) (hnn : S.1 10 f 1 = nI n) (ha : a < 5) (h : K (some (aI (sm (fun o => S.1 14 f (5 * a + o)) n))) S) : Call d m_X0_owes [aR 10 f, aI (nI a)] S K := by
  refine Call.of (k := 0) hd (fun e he P hP => ?_)
  have loop : ∀ m k, k + m = n → P 9 [some (aR 10 f), some (aI (nI a)), some (aI (sm (fun o => S.1 14 f (5 * a + o)) k)), some (aI (nI k))] [aI (S.1 10 f 1), aI (nI k)] S 0 0 := by
    intro m
    induction m with
    | zero =>
      intro k hk
      refine hP _ _ _ _ _ _ (And.intro (fun hc => ?_) (fun hc => ?_))
      · repeat (refine hP _ _ _ _ _ _ ?_; show P _ _ _ _ _ _)
        obtain rfl : k = n := by omega
        exact hP _ _ _ _ _ _ h
      · exact absurd (by rw [hnn]; exact nI_le (by omega) (by omega)) hc
    | succ m ih =>
      intro k hk
      refine hP _ _ _ _ _ _ (And.intro (fun hc => ?_) (fun hc => ?_))
      · exact absurd hc (by rw [hnn]; exact nI_ge (by omega) (by omega))
      · repeat (first | (refine hP _ _ _ _ _ _ ?_; show P _ _ _ _ _ _) | refine hP _ _ _ _ _ _ (And.intro (hN _ _ _ rfl) ?_))
        refine hP _ _ _ _ _ _ (Exists.intro (5 * a + k) (And.intro (And.intro (ix5 a k) (by show _ < 25; omega)) ?_))
        repeat (first | (refine hP _ _ _ _ _ _ ?_; show P _ _ _ _ _ _) | refine hP _ _ _ _ _ _ (And.intro (hN _ _ _ rfl) ?_))
        have := ih (k + 1) (by omega)
        rw [nI_succ] at this
        exact this
  repeat (refine hP _ _ _ _ _ _ ?_; show P _ _ _ _ _ _)
  exact loop n 0 (by omega)
end
section
/-! Floor: what pays, will, breath, may tell -/
theorem Sc.dummy : True := trivial
/-- all but the scratch rows (4: the names, 5: the stack) is the same -/
def sc4 (j : Nat) : Bool := !(Nat.beq j 4) && !(Nat.beq j 5)
def Sc (S S' : St) : Prop := (∀ j, sc4 j = true → S'.1 j = S.1 j) ∧ S'.2 = S.2
theorem Sc.rf (S : St) : Sc S S := ⟨fun _ _ => rfl, rfl⟩
theorem Sc.tr {S S1 S2 : St} (h : Sc S S1) (h2 : Sc S1 S2) : Sc S S2 := ⟨fun j hj => (h2.1 j hj).trans (h.1 j hj), h2.2.trans h.2⟩
theorem Sc.nn {S S' : St} (h : Sc S S') (hN : NN S) : NN S' := fun j g k hj => by rw [h.2]; exact hN j g k hj
theorem Sc.st {S : St} {j g k : Nat} {v : Int32} (hj : sc4 j = false) : Sc S (ivSet S j g k v) := by
  refine ⟨fun i hi => ?_, rfl⟩
  funext a b
  simp only [ivSet, up3]
  rw [if_neg]
  rintro ⟨rfl, -⟩
  rw [hj] at hi
  cases hi
/-- what a text needs of the state -/
def TxS (S S1 : St) : Prop := S1.1 31 = S.1 31 ∧ S1.1 32 = S.1 32 ∧ S1.1 1 = S.1 1 ∧ S1.2.2 = S.2.2
theorem Sc.tx {S S' : St} (h : Sc S S') : TxS S S' := ⟨h.1 31 rfl, h.1 32 rfl, h.1 1 rfl, by rw [h.2]⟩
theorem TxS.rf (S : St) : TxS S S := ⟨rfl, rfl, rfl, rfl⟩
theorem TxS.tr {S S1 S2 : St} (h : TxS S S1) (h2 : TxS S1 S2) : TxS S S2 := ⟨h2.1.trans h.1, h2.2.1.trans h.2.1, h2.2.2.1.trans h.2.2.1, h2.2.2.2.trans h.2.2.2⟩
/-- the texts: part p of text t, the names being N, is worked out to tv t p N -/
def RV (S : St) (nT : Nat) (tv : Nat → Nat → (Nat → Int32) → Int32) : Prop :=
  ∀ (d : Nat) (S1 : St) (K : KT) (t p : Nat) (N : Nat → Int32), 1 ≤ d → TxS S S1 → t < nT → p < 3 → (∀ k, k < 6 → S1.1 4 0 k = N k) → (∀ S', Sc S1 S' → K (some (aI (tv t p N))) S') → Call d m_X2_value [aR 1 0, aI (nI t), aI (nI p)] S1 K
theorem RV.up {S S1 : St} {nT : Nat} {tv : Nat → Nat → (Nat → Int32) → Int32} (h : RV S nT tv) (h1 : TxS S S1) : RV S1 nT tv := fun d S2 K t p N a b => h d S2 K t p N a (h1.tr b)
/-- held from 0 to m -/
def wI (x m : Int32) : Int32 := if x < 0 then 0 else if m < x then m else x
theorem sp_within {d : Nat} {S : St} {K : KT} {x m : Int32} (hd : 1 ≤ d) (h : K (some (aI (wI x m))) S) : Call d m_X5_within [aI x, aI m] S K := by
  refine Call.of (k := 0) hd (fun e he P hP => ?_)
  unfold wI at h
  repeat (refine hP _ _ _ _ _ _ ?_; show P _ _ _ _ _ _)
  refine hP _ _ _ _ _ _ (And.intro (fun hc => ?_) (fun hc => ?_))
  · rw [if_neg (Int32.not_lt.mpr hc)] at h
    repeat (refine hP _ _ _ _ _ _ ?_; show P _ _ _ _ _ _)
    refine hP _ _ _ _ _ _ (And.intro (fun hc2 => ?_) (fun hc2 => ?_))
    · rw [if_neg (Int32.not_lt.mpr hc2)] at h
      repeat (refine hP _ _ _ _ _ _ ?_; show P _ _ _ _ _ _)
      exact hP _ _ _ _ _ _ (h)
    · rw [if_pos (Int32.not_le.mp hc2)] at h
      repeat (refine hP _ _ _ _ _ _ ?_; show P _ _ _ _ _ _)
      exact hP _ _ _ _ _ _ (h)
  · rw [if_pos (Int32.not_le.mp hc)] at h
    repeat (refine hP _ _ _ _ _ _ ?_; show P _ _ _ _ _ _)
    exact hP _ _ _ _ _ _ (h)
theorem sp_owedTo {d : Nat} {S : St} {K : KT} {f a n : Nat} (hd : 1 ≤ d) (hN : NN S) (hn : n ≤ 5) (hnn : S.1 10 f 1 = nI n) (ha : a < 5) (h : K (some (aI (sm (fun o => S.1 14 f (5 * o + a)) n))) S) : Call d m_X0_owedTo [aR 10 f, aI (nI a)] S K := by
  refine Call.of (k := 0) hd (fun e he P hP => ?_)
  have loop : ∀ m k, k + m = n → P 9 [some (aR 10 f), some (aI (nI a)), some (aI (sm (fun o => S.1 14 f (5 * o + a)) k)), some (aI (nI k))] [aI (S.1 10 f 1), aI (nI k)] S 0 0 := by
    intro m
    induction m with
    | zero =>
      intro k hk
      refine hP _ _ _ _ _ _ (And.intro (fun hc => ?_) (fun hc => ?_))
      · repeat (refine hP _ _ _ _ _ _ ?_; show P _ _ _ _ _ _)
        obtain rfl : k = n := by omega
        exact hP _ _ _ _ _ _ (h)
      · exact absurd (by rw [hnn]; exact nI_le (by omega) (by omega)) hc
    | succ m ih =>
      intro k hk
      refine hP _ _ _ _ _ _ (And.intro (fun hc => ?_) (fun hc => ?_))
      · exact absurd hc (by rw [hnn]; exact nI_ge (by omega) (by omega))
      · repeat (first | (refine hP _ _ _ _ _ _ ?_; show P _ _ _ _ _ _) | refine hP _ _ _ _ _ _ (And.intro (hN _ _ _ rfl) ?_))
        refine hP _ _ _ _ _ _ (Exists.intro (5 * k + a) (And.intro (And.intro (ix5 k a) (by show _ < 25; omega)) ?_))
        repeat (first | (refine hP _ _ _ _ _ _ ?_; show P _ _ _ _ _ _) | refine hP _ _ _ _ _ _ (And.intro (hN _ _ _ rfl) ?_))
        have := ih (k + 1) (by omega)
        rw [nI_succ] at this
        exact this
  repeat (refine hP _ _ _ _ _ _ ?_; show P _ _ _ _ _ _)
  exact loop n 0 (by omega)
theorem sp_all {d : Nat} {S : St} {K : KT} {f n : Nat} (hd : 2 ≤ d) (hN : NN S) (hn : n ≤ 5) (hnn : S.1 10 f 1 = nI n) (h : K (some (aI (sm (fun a => sm (fun o => S.1 14 f (5 * a + o)) n) n))) S) : Call d m_X0_all [aR 10 f] S K := by
  refine Call.of (k := 1) hd (fun e he P hP => ?_)
  have loop : ∀ m k, k + m = n → P 9 [some (aR 10 f), some (aI (sm (fun a => sm (fun o => S.1 14 f (5 * a + o)) n) k)), some (aI (nI k))] [aI (S.1 10 f 1), aI (nI k)] S 0 0 := by
    intro m
    induction m with
    | zero =>
      intro k hk
      refine hP _ _ _ _ _ _ (And.intro (fun hc => ?_) (fun hc => ?_))
      · repeat (refine hP _ _ _ _ _ _ ?_; show P _ _ _ _ _ _)
        obtain rfl : k = n := by omega
        exact hP _ _ _ _ _ _ (h)
      · exact absurd (by rw [hnn]; exact nI_le (by omega) (by omega)) hc
    | succ m ih =>
      intro k hk
      refine hP _ _ _ _ _ _ (And.intro (fun hc => ?_) (fun hc => ?_))
      · exact absurd hc (by rw [hnn]; exact nI_ge (by omega) (by omega))
      · repeat (first | (refine hP _ _ _ _ _ _ ?_; show P _ _ _ _ _ _) | refine hP _ _ _ _ _ _ (And.intro (hN _ _ _ rfl) ?_))
        refine hP _ _ _ _ _ _ (sp_owes (by omega) hN hn hnn (by omega) ?_)
        repeat (first | (refine hP _ _ _ _ _ _ ?_; show P _ _ _ _ _ _) | refine hP _ _ _ _ _ _ (And.intro (hN _ _ _ rfl) ?_))
        have := ih (k + 1) (by omega)
        rw [nI_succ] at this
        exact this
  repeat (refine hP _ _ _ _ _ _ ?_; show P _ _ _ _ _ _)
  exact loop n 0 (by omega)
/-- the names, of one, owing o -/
def nmF (S : St) (f n a : Nat) (o : Int32) : Nat → Int32 := fun k => match k with
  | 0 => o
  | 1 => sm (fun x => S.1 14 f (5 * x + a)) n
  | 2 => S.1 12 f a
  | 3 => S.1 10 f 2
  | 4 => S.1 13 f a
  | _ => S.1 10 f 3
/-- a part's value, of one -/
def vlF (tv : Nat → Nat → (Nat → Int32) → Int32) (S : St) (f n t p a : Nat) (o : Int32) : Int32 := if p = 1 then tv t p (nmF S f n a o) else wI (tv t p (nmF S f n a o)) 99
theorem sp_value {d : Nat} {S : St} {K : KT} {f a n t p nT : Nat} {o : Int32} {tv : Nat → Nat → (Nat → Int32) → Int32} (hd : 2 ≤ d) (hN : NN S) (hn : n ≤ 5) (hnn : S.1 10 f 1 = nI n) (ht : t < nT) (htt : S.1 10 f 4 = nI t) (hp : p < 3) (hR : RV S nT tv) (ha : a < 5) (h : ∀ S', Sc S S' → K (some (aI (vlF tv S f n t p a o))) S') : Call d m_X0_value [aR 10 f, aI (nI p), aI (nI a), aI o] S K := by
  refine Call.of (k := 1) hd (fun e he P hP => ?_)
  repeat (first | (refine hP _ _ _ _ _ _ ?_; show P _ _ _ _ _ _) | refine hP _ _ _ _ _ _ (And.intro (hN _ _ _ rfl) ?_))
  refine hP _ _ _ _ _ _ (Exists.intro (0) (And.intro (And.intro (rfl) (show 0 < 6 by decide)) ?_))
  repeat (first | (refine hP _ _ _ _ _ _ ?_; show P _ _ _ _ _ _) | refine hP _ _ _ _ _ _ (And.intro (hN _ _ _ rfl) ?_))
  refine hP _ _ _ _ _ _ (sp_owedTo (by omega) hN hn hnn ha ?_)
  repeat (first | (refine hP _ _ _ _ _ _ ?_; show P _ _ _ _ _ _) | refine hP _ _ _ _ _ _ (And.intro (hN _ _ _ rfl) ?_))
  refine hP _ _ _ _ _ _ (Exists.intro (1) (And.intro (And.intro (rfl) (show 1 < 6 by decide)) ?_))
  repeat (first | (refine hP _ _ _ _ _ _ ?_; show P _ _ _ _ _ _) | refine hP _ _ _ _ _ _ (And.intro (hN _ _ _ rfl) ?_))
  refine hP _ _ _ _ _ _ (Exists.intro (a) (And.intro (And.intro (rfl) (show a < 5 from ha)) ?_))
  repeat (first | (refine hP _ _ _ _ _ _ ?_; show P _ _ _ _ _ _) | refine hP _ _ _ _ _ _ (And.intro (hN _ _ _ rfl) ?_))
  refine hP _ _ _ _ _ _ (Exists.intro (2) (And.intro (And.intro (rfl) (show 2 < 6 by decide)) ?_))
  repeat (first | (refine hP _ _ _ _ _ _ ?_; show P _ _ _ _ _ _) | refine hP _ _ _ _ _ _ (And.intro (hN _ _ _ rfl) ?_))
  refine hP _ _ _ _ _ _ (Exists.intro (3) (And.intro (And.intro (rfl) (show 3 < 6 by decide)) ?_))
  repeat (first | (refine hP _ _ _ _ _ _ ?_; show P _ _ _ _ _ _) | refine hP _ _ _ _ _ _ (And.intro (hN _ _ _ rfl) ?_))
  refine hP _ _ _ _ _ _ (Exists.intro (a) (And.intro (And.intro (rfl) (show a < 5 from ha)) ?_))
  repeat (first | (refine hP _ _ _ _ _ _ ?_; show P _ _ _ _ _ _) | refine hP _ _ _ _ _ _ (And.intro (hN _ _ _ rfl) ?_))
  refine hP _ _ _ _ _ _ (Exists.intro (4) (And.intro (And.intro (rfl) (show 4 < 6 by decide)) ?_))
  repeat (first | (refine hP _ _ _ _ _ _ ?_; show P _ _ _ _ _ _) | refine hP _ _ _ _ _ _ (And.intro (hN _ _ _ rfl) ?_))
  refine hP _ _ _ _ _ _ (Exists.intro (5) (And.intro (And.intro (rfl) (show 5 < 6 by decide)) ?_))
  repeat (first | (refine hP _ _ _ _ _ _ ?_; show P _ _ _ _ _ _) | refine hP _ _ _ _ _ _ (And.intro (hN _ _ _ rfl) ?_))
  show P _ _ _ (ivSet (ivSet (ivSet (ivSet (ivSet (ivSet S 4 0 0 o) 4 0 1 (sm (fun x => S.1 14 f (5 * x + a)) n)) 4 0 2 (S.1 12 f a)) 4 0 3 (S.1 10 f 2)) 4 0 4 (S.1 13 f a)) 4 0 5 (S.1 10 f 3)) _ _
  generalize hS1 : ivSet (ivSet (ivSet (ivSet (ivSet (ivSet S 4 0 0 o) 4 0 1 (sm (fun x => S.1 14 f (5 * x + a)) n)) 4 0 2 (S.1 12 f a)) 4 0 3 (S.1 10 f 2)) 4 0 4 (S.1 13 f a)) 4 0 5 (S.1 10 f 3) = S1
  have hS : Sc S S1 := by
    rw [← hS1]
    exact Sc.tr (Sc.tr (Sc.tr (Sc.tr (Sc.tr (Sc.st rfl) (Sc.st rfl)) (Sc.st rfl)) (Sc.st rfl)) (Sc.st rfl)) (Sc.st rfl)
  have hnm : ∀ k, k < 6 → S1.1 4 0 k = nmF S f n a o k := by
    intro k hk
    rw [← hS1]
    rcases (show k = 0 ∨ k = 1 ∨ k = 2 ∨ k = 3 ∨ k = 4 ∨ k = 5 by omega) with rfl | rfl | rfl | rfl | rfl | rfl <;> rfl
  show P 68 [some (aR 10 f), some (aI (nI p)), some (aI (nI a)), some (aI o), some (aR 4 0), none] [aI (nI p), aI (S.1 10 f 4), aR 1 0] S1 0 0
  rw [htt]
  have hN := hS.nn hN
  refine hP _ _ _ _ _ _ (hR e S1 _ t p (nmF S f n a o) (by omega) hS.tx ht hp hnm (fun S' hS' => ?_))
  · have hSS := hS.tr hS'
    have h := h S' hSS
    repeat (first | (refine hP _ _ _ _ _ _ ?_; show P _ _ _ _ _ _) | refine hP _ _ _ _ _ _ (And.intro (hN _ _ _ rfl) ?_))
    refine hP _ _ _ _ _ _ (And.intro (fun hc => ?_) (fun hc => ?_))
    · have hp1 : ¬ p = 1 := fun z => hc (by rw [z]; rfl)
      simp only [vlF, if_neg hp1] at h
      repeat (first | (refine hP _ _ _ _ _ _ ?_; show P _ _ _ _ _ _) | refine hP _ _ _ _ _ _ (And.intro (hN _ _ _ rfl) ?_))
      refine hP _ _ _ _ _ _ (sp_within (by omega) ?_)
      exact hP _ _ _ _ _ _ (h)
    · have hp1 : p = 1 := by
        have := (nI_eq (a := p) (b := 1) (by omega) (by omega)).mp hc
        exact this
      simp only [vlF, if_pos hp1] at h
      repeat (first | (refine hP _ _ _ _ _ _ ?_; show P _ _ _ _ _ _) | refine hP _ _ _ _ _ _ (And.intro (hN _ _ _ rfl) ?_))
      exact hP _ _ _ _ _ _ (h)
end
section
/-! Floor: pays, breath, will, may -/
def swF (x : Int32) : List (Int32 × Nat) → Nat → Nat
  | [], d => d
  | a :: l, d => if x = a.1 then a.2 else swF x l d
theorem swP_to {x : Int32} {P : Nat → Prop} : ∀ {sw : List (Int32 × Nat)} {d : Nat}, P (swF x sw d) → swP x P sw d
  | [], _, h => h
  | a :: l, d, h => ⟨fun hx => by
      simp only [swF, if_pos hx] at h
      exact h, fun hx => by
      simp only [swF, if_neg hx] at h
      exact swP_to h⟩
/-- a floor that is in order: n dancers, THE RULE is text t of nT -/
def FO (tv : Nat → Nat → (Nat → Int32) → Int32) (S : St) (f n t nT : Nat) : Prop := NN S ∧ n ≤ 5 ∧ S.1 10 f 1 = nI n ∧ t < nT ∧ S.1 10 f 4 = nI t ∧ RV S nT tv ∧ ∀ a, a < n → ∃ k, k ≤ 5 ∧ S.1 11 f a = nI k
theorem FO.up {tv : Nat → Nat → (Nat → Int32) → Int32} {S S1 : St} {f n t nT : Nat} (h : FO tv S f n t nT) (hS : Sc S S1) : FO tv S1 f n t nT := by
  obtain ⟨h1, h2, h3, h4, h5, h6, h7⟩ := h
  exact ⟨hS.nn h1, h2, by rw [hS.1 10 rfl]; exact h3, h4, by rw [hS.1 10 rfl]; exact h5, h6.up hS.tx, by rw [hS.1 11 rfl]; exact h7⟩
theorem FO.value {tv : Nat → Nat → (Nat → Int32) → Int32} {d : Nat} {S : St} {K : KT} {f a n t p nT : Nat} {o : Int32} (hF : FO tv S f n t nT) (hd : 2 ≤ d) (hp : p < 3) (ha : a < n) (h : ∀ S', Sc S S' → K (some (aI (vlF tv S f n t p a o))) S') : Call d m_X0_value [aR 10 f, aI (nI p), aI (nI a), aI o] S K := by
  obtain ⟨h1, h2, h3, h4, h5, h6, h7⟩ := hF
  exact sp_value hd h1 h2 h3 h4 h5 hp h6 (by omega) h
theorem vlF_c {tv : Nat → Nat → (Nat → Int32) → Int32} {S S1 : St} {f n t p a : Nat} {o : Int32} (h : Sc S S1) : vlF tv S1 f n t p a o = vlF tv S f n t p a o := by
  have e : nmF S1 f n a o = nmF S f n a o := by
    funext k
    unfold nmF
    rw [h.1 10 rfl, h.1 12 rfl, h.1 13 rfl, h.1 14 rfl]
  simp only [vlF, e]
/-- what one pays, owing o -/
def pyF (tv : Nat → Nat → (Nat → Int32) → Int32) (S : St) (f n t a : Nat) (o : Int32) : Int32 :=
  wI (if S.1 11 f a = 1 then 2 * vlF tv S f n t 0 a o
    else if S.1 11 f a = 2 then 1
    else if S.1 11 f a = 3 then 2 * vlF tv S f n t 0 a o + (if S.1 10 f 2 - S.1 10 f 2 / 2 * 2 = 0 then S.1 12 f a else 0)
    else if S.1 11 f a = 4 then o
    else if S.1 11 f a = 5 then 0
    else vlF tv S f n t 0 a o) o
theorem sp_pays {tv : Nat → Nat → (Nat → Int32) → Int32} {d : Nat} {S : St} {K : KT} {f a n t nT : Nat} {o : Int32} (hd : 3 ≤ d) (hF : FO tv S f n t nT) (ha : a < n) (h : ∀ S', Sc S S' → K (some (aI (pyF tv S f n t a o))) S') : Call d m_X0_pays [aR 10 f, aI (nI a), aI o] S K := by
  refine Call.of (k := 2) hd (fun e he P hP => ?_)
  have hN := hF.1
  have hn := hF.2.1
  obtain ⟨k, hk5, hk⟩ := hF.2.2.2.2.2.2 a ha
  have fin : ∀ (S' : St) (x : Int32), Sc S S' → pyF tv S f n t a o = wI x o → P 111 [some (aR 10 f), some (aI (nI a)), some (aI o), some (aI x)] [aI o, aI x] S' 0 0 := by
    intro S' x hS hx
    refine hP _ _ _ _ _ _ (sp_within (by omega) ?_)
    have h := h S' hS
    rw [hx] at h
    exact hP _ _ _ _ _ _ (h)
  repeat (first | (refine hP _ _ _ _ _ _ ?_; show P _ _ _ _ _ _) | refine hP _ _ _ _ _ _ (And.intro (hN _ _ _ rfl) ?_))
  refine hP _ _ _ _ _ _ (Exists.intro (a) (And.intro (And.intro (rfl) (show a < 5 by omega)) ?_))
  repeat (first | (refine hP _ _ _ _ _ _ ?_; show P _ _ _ _ _ _) | refine hP _ _ _ _ _ _ (And.intro (hN _ _ _ rfl) ?_))
  refine hP _ _ _ _ _ _ (swP_to ?_)
  have hk2 : S.1 (frf (10, f).fst (10, f).snd 5).fst (frf (10, f).fst (10, f).snd 5).snd a = nI k := hk
  rw [hk2]
  rcases (show k = 0 ∨ k = 1 ∨ k = 2 ∨ k = 3 ∨ k = 4 ∨ k = 5 by omega) with rfl | rfl | rfl | rfl | rfl | rfl
  · show P 101 _ _ _ _ _
    repeat (first | (refine hP _ _ _ _ _ _ ?_; show P _ _ _ _ _ _) | refine hP _ _ _ _ _ _ (And.intro (hN _ _ _ rfl) ?_))
    refine hP _ _ _ _ _ _ (FO.value (p := 0) hF (by omega) (by omega) ha (fun S' hS => ?_))
    repeat (first | (refine hP _ _ _ _ _ _ ?_; show P _ _ _ _ _ _) | refine hP _ _ _ _ _ _ (And.intro (hN _ _ _ rfl) ?_))
    refine fin S' _ hS ?_
    simp [pyF, hk, nI]
  · show P 40 _ _ _ _ _
    repeat (first | (refine hP _ _ _ _ _ _ ?_; show P _ _ _ _ _ _) | refine hP _ _ _ _ _ _ (And.intro (hN _ _ _ rfl) ?_))
    refine hP _ _ _ _ _ _ (FO.value (p := 0) hF (by omega) (by omega) ha (fun S' hS => ?_))
    repeat (first | (refine hP _ _ _ _ _ _ ?_; show P _ _ _ _ _ _) | refine hP _ _ _ _ _ _ (And.intro (hN _ _ _ rfl) ?_))
    refine fin S' _ hS ?_
    simp [pyF, hk, nI]
  · show P 53 _ _ _ _ _
    repeat (first | (refine hP _ _ _ _ _ _ ?_; show P _ _ _ _ _ _) | refine hP _ _ _ _ _ _ (And.intro (hN _ _ _ rfl) ?_))
    refine fin S _ (Sc.rf S) ?_
    simp [pyF, hk, nI]
  · show P 58 _ _ _ _ _
    repeat (first | (refine hP _ _ _ _ _ _ ?_; show P _ _ _ _ _ _) | refine hP _ _ _ _ _ _ (And.intro (hN _ _ _ rfl) ?_))
    refine hP _ _ _ _ _ _ (FO.value (p := 0) hF (by omega) (by omega) ha (fun S' hS => ?_))
    have hN := hS.nn hN
    repeat (first | (refine hP _ _ _ _ _ _ ?_; show P _ _ _ _ _ _) | refine hP _ _ _ _ _ _ (And.intro (hN _ _ _ rfl) ?_))
    refine hP _ _ _ _ _ _ (And.intro (by decide) ?_)
    repeat (first | (refine hP _ _ _ _ _ _ ?_; show P _ _ _ _ _ _) | refine hP _ _ _ _ _ _ (And.intro (hN _ _ _ rfl) ?_))
    refine hP _ _ _ _ _ _ (And.intro (fun hc => ?_) (fun hc => ?_))
    · repeat (first | (refine hP _ _ _ _ _ _ ?_; show P _ _ _ _ _ _) | refine hP _ _ _ _ _ _ (And.intro (hN _ _ _ rfl) ?_))
      refine fin S' _ hS ?_
      have hc' : ¬ S.1 10 f 2 - S.1 10 f 2 / 2 * 2 = 0 := by
        rw [← hS.1 10 rfl]
        exact hc
      simp [pyF, hk, nI, hc']
    · repeat (first | (refine hP _ _ _ _ _ _ ?_; show P _ _ _ _ _ _) | refine hP _ _ _ _ _ _ (And.intro (hN _ _ _ rfl) ?_))
      refine hP _ _ _ _ _ _ (Exists.intro (a) (And.intro (And.intro (rfl) (show a < 5 by omega)) ?_))
      repeat (first | (refine hP _ _ _ _ _ _ ?_; show P _ _ _ _ _ _) | refine hP _ _ _ _ _ _ (And.intro (hN _ _ _ rfl) ?_))
      refine fin S' _ hS ?_
      have hc' : S.1 10 f 2 - S.1 10 f 2 / 2 * 2 = 0 := by
        rw [← hS.1 10 rfl]
        exact hc
      have e12 : S'.1 12 f a = S.1 12 f a := by rw [hS.1 12 rfl]
      show _ = wI (2 * vlF tv S f n t 0 a o + S'.1 12 f a) o
      simp [pyF, hk, nI, hc', e12]
  · show P 91 _ _ _ _ _
    repeat (first | (refine hP _ _ _ _ _ _ ?_; show P _ _ _ _ _ _) | refine hP _ _ _ _ _ _ (And.intro (hN _ _ _ rfl) ?_))
    refine fin S _ (Sc.rf S) ?_
    simp [pyF, hk, nI]
  · show P 96 _ _ _ _ _
    repeat (first | (refine hP _ _ _ _ _ _ ?_; show P _ _ _ _ _ _) | refine hP _ _ _ _ _ _ (And.intro (hN _ _ _ rfl) ?_))
    refine fin S _ (Sc.rf S) ?_
    simp [pyF, hk, nI]
end
section
/-! Floor: breath, will, may -/
def b2 (b : Bool) : Int32 := cond b 1 0
def brF (tv : Nat → Nat → (Nat → Int32) → Int32) (S : St) (f n t a : Nat) : Int32 :=
  wI (if S.1 11 f a = 1 then vlF tv S f n t 2 a 0 + 3
    else if S.1 11 f a = 2 then vlF tv S f n t 2 a 0 / 2
    else if S.1 11 f a = 3 then vlF tv S f n t 2 a 0 + 3
    else if S.1 11 f a = 4 then 99
    else if S.1 11 f a = 5 then S.1 12 f a
    else vlF tv S f n t 2 a 0) 99
theorem sp_breath {tv : Nat → Nat → (Nat → Int32) → Int32} {d : Nat} {S : St} {K : KT} {f a n t nT : Nat} (hd : 3 ≤ d) (hF : FO tv S f n t nT) (ha : a < n) (h : ∀ S', Sc S S' → K (some (aI (brF tv S f n t a))) S') : Call d m_X0_breath [aR 10 f, aI (nI a)] S K := by
  refine Call.of (k := 2) hd (fun e he P hP => ?_)
  have hN := hF.1
  have hn := hF.2.1
  obtain ⟨k, hk5, hk⟩ := hF.2.2.2.2.2.2 a ha
  have fin : ∀ (S' : St) (x : Int32), Sc S S' → brF tv S f n t a = wI x 99 → P 93 [some (aR 10 f), some (aI (nI a)), some (aI x)] [aI 99, aI x] S' 0 0 := by
    intro S' x hS hx
    refine hP _ _ _ _ _ _ (sp_within (by omega) ?_)
    have h := h S' hS
    rw [hx] at h
    exact hP _ _ _ _ _ _ (h)
  repeat (first | (refine hP _ _ _ _ _ _ ?_; show P _ _ _ _ _ _) | refine hP _ _ _ _ _ _ (And.intro (hN _ _ _ rfl) ?_))
  refine hP _ _ _ _ _ _ (Exists.intro (a) (And.intro (And.intro (rfl) (show a < 5 by omega)) ?_))
  repeat (first | (refine hP _ _ _ _ _ _ ?_; show P _ _ _ _ _ _) | refine hP _ _ _ _ _ _ (And.intro (hN _ _ _ rfl) ?_))
  refine hP _ _ _ _ _ _ (swP_to ?_)
  have hk2 : S.1 (frf (10, f).fst (10, f).snd 5).fst (frf (10, f).fst (10, f).snd 5).snd a = nI k := hk
  rw [hk2]
  rcases (show k = 0 ∨ k = 1 ∨ k = 2 ∨ k = 3 ∨ k = 4 ∨ k = 5 by omega) with rfl | rfl | rfl | rfl | rfl | rfl
  · show P 82 _ _ _ _ _
    repeat (first | (refine hP _ _ _ _ _ _ ?_; show P _ _ _ _ _ _) | refine hP _ _ _ _ _ _ (And.intro (hN _ _ _ rfl) ?_))
    refine hP _ _ _ _ _ _ (FO.value (p := 2) hF (by omega) (by omega) ha (fun S' hS => ?_))
    repeat (first | (refine hP _ _ _ _ _ _ ?_; show P _ _ _ _ _ _) | refine hP _ _ _ _ _ _ (And.intro (hN _ _ _ rfl) ?_))
    refine fin S' _ hS ?_
    simp [brF, hk, nI]
  · show P 40 _ _ _ _ _
    repeat (first | (refine hP _ _ _ _ _ _ ?_; show P _ _ _ _ _ _) | refine hP _ _ _ _ _ _ (And.intro (hN _ _ _ rfl) ?_))
    refine hP _ _ _ _ _ _ (FO.value (p := 2) hF (by omega) (by omega) ha (fun S' hS => ?_))
    repeat (first | (refine hP _ _ _ _ _ _ ?_; show P _ _ _ _ _ _) | refine hP _ _ _ _ _ _ (And.intro (hN _ _ _ rfl) ?_))
    refine fin S' _ hS ?_
    simp [brF, hk, nI]
  · show P 53 _ _ _ _ _
    repeat (first | (refine hP _ _ _ _ _ _ ?_; show P _ _ _ _ _ _) | refine hP _ _ _ _ _ _ (And.intro (hN _ _ _ rfl) ?_))
    refine hP _ _ _ _ _ _ (FO.value (p := 2) hF (by omega) (by omega) ha (fun S' hS => ?_))
    repeat (first | (refine hP _ _ _ _ _ _ ?_; show P _ _ _ _ _ _) | refine hP _ _ _ _ _ _ (And.intro (hN _ _ _ rfl) ?_))
    refine hP _ _ _ _ _ _ (And.intro (by decide) ?_)
    repeat (first | (refine hP _ _ _ _ _ _ ?_; show P _ _ _ _ _ _) | refine hP _ _ _ _ _ _ (And.intro (hN _ _ _ rfl) ?_))
    refine fin S' _ hS ?_
    simp [brF, hk, nI]
  · show P 40 _ _ _ _ _
    repeat (first | (refine hP _ _ _ _ _ _ ?_; show P _ _ _ _ _ _) | refine hP _ _ _ _ _ _ (And.intro (hN _ _ _ rfl) ?_))
    refine hP _ _ _ _ _ _ (FO.value (p := 2) hF (by omega) (by omega) ha (fun S' hS => ?_))
    repeat (first | (refine hP _ _ _ _ _ _ ?_; show P _ _ _ _ _ _) | refine hP _ _ _ _ _ _ (And.intro (hN _ _ _ rfl) ?_))
    refine fin S' _ hS ?_
    simp [brF, hk, nI]
  · show P 66 _ _ _ _ _
    repeat (first | (refine hP _ _ _ _ _ _ ?_; show P _ _ _ _ _ _) | refine hP _ _ _ _ _ _ (And.intro (hN _ _ _ rfl) ?_))
    refine fin S _ (Sc.rf S) ?_
    simp [brF, hk, nI]
  · show P 72 _ _ _ _ _
    repeat (first | (refine hP _ _ _ _ _ _ ?_; show P _ _ _ _ _ _) | refine hP _ _ _ _ _ _ (And.intro (hN _ _ _ rfl) ?_))
    refine hP _ _ _ _ _ _ (Exists.intro (a) (And.intro (And.intro (rfl) (show a < 5 by omega)) ?_))
    repeat (first | (refine hP _ _ _ _ _ _ ?_; show P _ _ _ _ _ _) | refine hP _ _ _ _ _ _ (And.intro (hN _ _ _ rfl) ?_))
    refine fin S _ (Sc.rf S) ?_
    show _ = wI (S.1 12 f a) 99
    simp [brF, hk, nI]
/-- whether one will dance with b -/
def wlF (tv : Nat → Nat → (Nat → Int32) → Int32) (S : St) (f n t a b : Nat) : Bool :=
  if S.1 11 f a = 1 then true
  else if S.1 11 f a = 2 then decide (0 < S.1 14 f (5 * b + a)) && decide (¬ vlF tv S f n t 1 a (S.1 14 f (5 * a + b)) = 0)
  else if S.1 11 f a = 3 then decide (¬ S.1 13 f a = S.1 12 f a)
  else if S.1 11 f a = 4 then decide (sm (fun x => S.1 14 f (5 * x + a)) n = 0) || (decide (0 < S.1 14 f (5 * b + a)) && decide (¬ vlF tv S f n t 1 a (S.1 14 f (5 * a + b)) = 0))
  else if S.1 11 f a = 5 then false
  else decide (¬ vlF tv S f n t 1 a (S.1 14 f (5 * a + b)) = 0)
theorem sp_will {tv : Nat → Nat → (Nat → Int32) → Int32} {d : Nat} {S : St} {K : KT} {f a b n t nT : Nat} (hd : 3 ≤ d) (hF : FO tv S f n t nT) (ha : a < n) (hb : b < n) (h : ∀ S', Sc S S' → K (some (aI (b2 (wlF tv S f n t a b)))) S') : Call d m_X0_will [aR 10 f, aI (nI a), aI (nI b)] S K := by
  refine Call.of (k := 2) hd (fun e he P hP => ?_)
  have hN := hF.1
  have hn := hF.2.1
  obtain ⟨k, hk5, hk⟩ := hF.2.2.2.2.2.2 a ha
  have mid : ∀ (w : Bool), w = decide (0 < S.1 14 f (5 * b + a)) → P 28 [some (aR 10 f), some (aI (nI a)), some (aI (nI b)), some (aI (S.1 14 f (5 * a + b))), some (aI (b2 w))] [aI (nI a), aR 11 f] S 0 0 := by
    intro w hw
    refine hP _ _ _ _ _ _ (Exists.intro (a) (And.intro (And.intro (rfl) (show a < 5 by omega)) ?_))
    repeat (first | (refine hP _ _ _ _ _ _ ?_; show P _ _ _ _ _ _) | refine hP _ _ _ _ _ _ (And.intro (hN _ _ _ rfl) ?_))
    refine hP _ _ _ _ _ _ (swP_to ?_)
    rw [hk]
    have pick : ∀ (S' : St), Sc S S' → wlF tv S f n t a b = true → P 64 [some (aR 10 f), some (aI (nI a)), some (aI (nI b)), some (aI (S.1 14 f (5 * a + b))), some (aI (b2 w))] [] S' 0 0 := by
      intro S' hS hx
      repeat (first | (refine hP _ _ _ _ _ _ ?_; show P _ _ _ _ _ _) | refine hP _ _ _ _ _ _ (And.intro (hN _ _ _ rfl) ?_))
      have h := h S' hS
      rw [hx] at h
      refine hP _ _ _ _ _ _ (And.intro (Or.inr rfl) h)
    rcases (show k = 0 ∨ k = 1 ∨ k = 2 ∨ k = 3 ∨ k = 4 ∨ k = 5 by omega) with rfl | rfl | rfl | rfl | rfl | rfl
    · show P 139 _ _ _ _ _
      repeat (first | (refine hP _ _ _ _ _ _ ?_; show P _ _ _ _ _ _) | refine hP _ _ _ _ _ _ (And.intro (hN _ _ _ rfl) ?_))
      refine hP _ _ _ _ _ _ (FO.value (p := 1) hF (by omega) (by omega) ha (fun S' hS => ?_))
      repeat (first | (refine hP _ _ _ _ _ _ ?_; show P _ _ _ _ _ _) | refine hP _ _ _ _ _ _ (And.intro (hN _ _ _ rfl) ?_))
      have h := h S' hS
      refine hP _ _ _ _ _ _ (And.intro (fun hc => ?_) (fun hc => ?_))
      · repeat (first | (refine hP _ _ _ _ _ _ ?_; show P _ _ _ _ _ _) | refine hP _ _ _ _ _ _ (And.intro (hN _ _ _ rfl) ?_))
        have hx : wlF tv S f n t a b = false := by simp [wlF, hk, nI, hc]
        rw [hx] at h
        refine hP _ _ _ _ _ _ (And.intro (Or.inl rfl) h)
      · repeat (first | (refine hP _ _ _ _ _ _ ?_; show P _ _ _ _ _ _) | refine hP _ _ _ _ _ _ (And.intro (hN _ _ _ rfl) ?_))
        have hx : wlF tv S f n t a b = true := by simp [wlF, hk, nI, hc]
        rw [hx] at h
        refine hP _ _ _ _ _ _ (And.intro (Or.inr rfl) h)
    · exact pick S (Sc.rf S) (by simp [wlF, hk, nI])
    · show P 66 _ _ _ _ _
      repeat (first | (refine hP _ _ _ _ _ _ ?_; show P _ _ _ _ _ _) | refine hP _ _ _ _ _ _ (And.intro (hN _ _ _ rfl) ?_))
      refine hP _ _ _ _ _ _ (And.intro (fun hc => ?_) (fun hc => ?_))
      · repeat (first | (refine hP _ _ _ _ _ _ ?_; show P _ _ _ _ _ _) | refine hP _ _ _ _ _ _ (And.intro (hN _ _ _ rfl) ?_))
        have hw0 : w = false := by cases w <;> simp_all [b2]
        have h := h S (Sc.rf S)
        have hx : wlF tv S f n t a b = false := by
          have : decide (0 < S.1 14 f (5 * b + a)) = false := by rw [← hw, hw0]
          simp [wlF, hk, nI, this]
        rw [hx] at h
        refine hP _ _ _ _ _ _ (And.intro (Or.inl rfl) h)
      · have hw1 : decide (0 < S.1 14 f (5 * b + a)) = true := by
          rw [← hw]
          cases w <;> simp_all [b2]
        repeat (first | (refine hP _ _ _ _ _ _ ?_; show P _ _ _ _ _ _) | refine hP _ _ _ _ _ _ (And.intro (hN _ _ _ rfl) ?_))
        refine hP _ _ _ _ _ _ (FO.value (p := 1) hF (by omega) (by omega) ha (fun S' hS => ?_))
        repeat (first | (refine hP _ _ _ _ _ _ ?_; show P _ _ _ _ _ _) | refine hP _ _ _ _ _ _ (And.intro (hN _ _ _ rfl) ?_))
        have h := h S' hS
        refine hP _ _ _ _ _ _ (And.intro (fun hc2 => ?_) (fun hc2 => ?_))
        · repeat (first | (refine hP _ _ _ _ _ _ ?_; show P _ _ _ _ _ _) | refine hP _ _ _ _ _ _ (And.intro (hN _ _ _ rfl) ?_))
          have hx : wlF tv S f n t a b = false := by simp [wlF, hk, nI, hc2]
          rw [hx] at h
          refine hP _ _ _ _ _ _ (And.intro (Or.inl rfl) h)
        · repeat (first | (refine hP _ _ _ _ _ _ ?_; show P _ _ _ _ _ _) | refine hP _ _ _ _ _ _ (And.intro (hN _ _ _ rfl) ?_))
          have hx : wlF tv S f n t a b = true := by
            simp only [wlF, hk, hw1]
            simp [nI, hc2]
          rw [hx] at h
          refine hP _ _ _ _ _ _ (And.intro (Or.inr rfl) h)
    · show P 87 _ _ _ _ _
      repeat (first | (refine hP _ _ _ _ _ _ ?_; show P _ _ _ _ _ _) | refine hP _ _ _ _ _ _ (And.intro (hN _ _ _ rfl) ?_))
      refine hP _ _ _ _ _ _ (Exists.intro (a) (And.intro (And.intro (rfl) (show a < 5 by omega)) ?_))
      repeat (first | (refine hP _ _ _ _ _ _ ?_; show P _ _ _ _ _ _) | refine hP _ _ _ _ _ _ (And.intro (hN _ _ _ rfl) ?_))
      refine hP _ _ _ _ _ _ (Exists.intro (a) (And.intro (And.intro (rfl) (show a < 5 by omega)) ?_))
      repeat (first | (refine hP _ _ _ _ _ _ ?_; show P _ _ _ _ _ _) | refine hP _ _ _ _ _ _ (And.intro (hN _ _ _ rfl) ?_))
      have h := h S (Sc.rf S)
      refine hP _ _ _ _ _ _ (And.intro (fun hc => ?_) (fun hc => ?_))
      · repeat (first | (refine hP _ _ _ _ _ _ ?_; show P _ _ _ _ _ _) | refine hP _ _ _ _ _ _ (And.intro (hN _ _ _ rfl) ?_))
        have hc' : S.1 13 f a = S.1 12 f a := hc
        have hx : wlF tv S f n t a b = false := by simp [wlF, hk, nI, hc']
        rw [hx] at h
        refine hP _ _ _ _ _ _ (And.intro (Or.inl rfl) h)
      · repeat (first | (refine hP _ _ _ _ _ _ ?_; show P _ _ _ _ _ _) | refine hP _ _ _ _ _ _ (And.intro (hN _ _ _ rfl) ?_))
        have hc' : ¬ S.1 13 f a = S.1 12 f a := hc
        have hx : wlF tv S f n t a b = true := by simp [wlF, hk, nI, hc']
        rw [hx] at h
        refine hP _ _ _ _ _ _ (And.intro (Or.inr rfl) h)
    · show P 108 _ _ _ _ _
      repeat (first | (refine hP _ _ _ _ _ _ ?_; show P _ _ _ _ _ _) | refine hP _ _ _ _ _ _ (And.intro (hN _ _ _ rfl) ?_))
      refine hP _ _ _ _ _ _ (sp_owedTo (by omega) hN hn hF.2.2.1 (by omega) ?_)
      repeat (first | (refine hP _ _ _ _ _ _ ?_; show P _ _ _ _ _ _) | refine hP _ _ _ _ _ _ (And.intro (hN _ _ _ rfl) ?_))
      refine hP _ _ _ _ _ _ (And.intro (fun hc => ?_) (fun hc => ?_))
      · repeat (first | (refine hP _ _ _ _ _ _ ?_; show P _ _ _ _ _ _) | refine hP _ _ _ _ _ _ (And.intro (hN _ _ _ rfl) ?_))
        have h := h S (Sc.rf S)
        have hx : wlF tv S f n t a b = true := by simp [wlF, hk, nI, hc]
        rw [hx] at h
        refine hP _ _ _ _ _ _ (And.intro (Or.inr rfl) h)
      · repeat (first | (refine hP _ _ _ _ _ _ ?_; show P _ _ _ _ _ _) | refine hP _ _ _ _ _ _ (And.intro (hN _ _ _ rfl) ?_))
        refine hP _ _ _ _ _ _ (And.intro (fun hc1 => ?_) (fun hc1 => ?_))
        · repeat (first | (refine hP _ _ _ _ _ _ ?_; show P _ _ _ _ _ _) | refine hP _ _ _ _ _ _ (And.intro (hN _ _ _ rfl) ?_))
          have hw0 : w = false := by cases w <;> simp_all [b2]
          have h := h S (Sc.rf S)
          have hx : wlF tv S f n t a b = false := by
            have : decide (0 < S.1 14 f (5 * b + a)) = false := by rw [← hw, hw0]
            simp [wlF, hk, nI, this, hc]
          rw [hx] at h
          refine hP _ _ _ _ _ _ (And.intro (Or.inl rfl) h)
        · have hw1 : decide (0 < S.1 14 f (5 * b + a)) = true := by
            rw [← hw]
            cases w <;> simp_all [b2]
          repeat (first | (refine hP _ _ _ _ _ _ ?_; show P _ _ _ _ _ _) | refine hP _ _ _ _ _ _ (And.intro (hN _ _ _ rfl) ?_))
          refine hP _ _ _ _ _ _ (FO.value (p := 1) hF (by omega) (by omega) ha (fun S' hS => ?_))
          repeat (first | (refine hP _ _ _ _ _ _ ?_; show P _ _ _ _ _ _) | refine hP _ _ _ _ _ _ (And.intro (hN _ _ _ rfl) ?_))
          have h := h S' hS
          refine hP _ _ _ _ _ _ (And.intro (fun hc2 => ?_) (fun hc2 => ?_))
          · repeat (first | (refine hP _ _ _ _ _ _ ?_; show P _ _ _ _ _ _) | refine hP _ _ _ _ _ _ (And.intro (hN _ _ _ rfl) ?_))
            have hx : wlF tv S f n t a b = false := by simp [wlF, hk, nI, hc2, hc]
            rw [hx] at h
            refine hP _ _ _ _ _ _ (And.intro (Or.inl rfl) h)
          · repeat (first | (refine hP _ _ _ _ _ _ ?_; show P _ _ _ _ _ _) | refine hP _ _ _ _ _ _ (And.intro (hN _ _ _ rfl) ?_))
            have hx : wlF tv S f n t a b = true := by
              simp only [wlF, hk, hw1]
              simp [nI, hc2]
            rw [hx] at h
            refine hP _ _ _ _ _ _ (And.intro (Or.inr rfl) h)
    · show P 137 _ _ _ _ _
      repeat (first | (refine hP _ _ _ _ _ _ ?_; show P _ _ _ _ _ _) | refine hP _ _ _ _ _ _ (And.intro (hN _ _ _ rfl) ?_))
      have h := h S (Sc.rf S)
      have hx : wlF tv S f n t a b = false := by simp [wlF, hk, nI]
      rw [hx] at h
      refine hP _ _ _ _ _ _ (And.intro (Or.inl rfl) h)
  repeat (first | (refine hP _ _ _ _ _ _ ?_; show P _ _ _ _ _ _) | refine hP _ _ _ _ _ _ (And.intro (hN _ _ _ rfl) ?_))
  refine hP _ _ _ _ _ _ (sp_owing (by omega) hN (by omega) (by omega) ?_)
  repeat (first | (refine hP _ _ _ _ _ _ ?_; show P _ _ _ _ _ _) | refine hP _ _ _ _ _ _ (And.intro (hN _ _ _ rfl) ?_))
  refine hP _ _ _ _ _ _ (sp_owing (by omega) hN (by omega) (by omega) ?_)
  repeat (first | (refine hP _ _ _ _ _ _ ?_; show P _ _ _ _ _ _) | refine hP _ _ _ _ _ _ (And.intro (hN _ _ _ rfl) ?_))
  refine hP _ _ _ _ _ _ (And.intro (fun hc => ?_) (fun hc => ?_))
  · repeat (first | (refine hP _ _ _ _ _ _ ?_; show P _ _ _ _ _ _) | refine hP _ _ _ _ _ _ (And.intro (hN _ _ _ rfl) ?_))
    exact mid false (by
      have : ¬ 0 < S.1 14 f (5 * b + a) := Int32.not_lt.mpr hc
      simp [this])
  · repeat (first | (refine hP _ _ _ _ _ _ ?_; show P _ _ _ _ _ _) | refine hP _ _ _ _ _ _ (And.intro (hN _ _ _ rfl) ?_))
    exact mid true (by
      have : 0 < S.1 14 f (5 * b + a) := Int32.not_le.mp hc
      simp [this])
theorem brF_c {tv : Nat → Nat → (Nat → Int32) → Int32} {S S1 : St} {f n t a : Nat} (h : Sc S S1) : brF tv S1 f n t a = brF tv S f n t a := by
  simp only [brF, vlF_c h, h.1 11 rfl, h.1 12 rfl]
theorem wlF_c {tv : Nat → Nat → (Nat → Int32) → Int32} {S S1 : St} {f n t a b : Nat} (h : Sc S S1) : wlF tv S1 f n t a b = wlF tv S f n t a b := by
  simp only [wlF, vlF_c h, h.1 11 rfl, h.1 12 rfl, h.1 13 rfl, h.1 14 rfl]
theorem pyF_c {tv : Nat → Nat → (Nat → Int32) → Int32} {S S1 : St} {f n t a : Nat} {o : Int32} (h : Sc S S1) : pyF tv S1 f n t a o = pyF tv S f n t a o := by
  simp only [pyF, vlF_c h, h.1 11 rfl, h.1 12 rfl, h.1 10 rfl]
end
section
/-! Floor: may, lessen, settle, step -/
def myF (tv : Nat → Nat → (Nat → Int32) → Int32) (S : St) (f n t a b : Nat) : Bool :=
  (decide (0 < S.1 14 f (5 * a + b)) || decide (0 < S.1 14 f (5 * b + a))) && wlF tv S f n t a b && wlF tv S f n t b a && decide (S.1 13 f a < brF tv S f n t a) && decide (S.1 13 f b < brF tv S f n t b)
theorem b2_0 {w : Bool} (h : b2 w = 0) : w = false := by cases w <;> simp_all [b2]
theorem b2_1 {w : Bool} (h : ¬ b2 w = 0) : w = true := by cases w <;> simp_all [b2]
theorem sp_may {tv : Nat → Nat → (Nat → Int32) → Int32} {d : Nat} {S : St} {K : KT} {f a b n t nT : Nat} (hd : 4 ≤ d) (hF : FO tv S f n t nT) (ha : a < n) (hb : b < n) (h : ∀ S', Sc S S' → K (some (aI (b2 (myF tv S f n t a b)))) S') : Call d m_X0_may [aR 10 f, aI (nI a), aI (nI b)] S K := by
  refine Call.of (k := 3) hd (fun e he P hP => ?_)
  have hN := hF.1
  have hn := hF.2.1
  have out0 : ∀ (S' : St), Sc S S' → myF tv S f n t a b = false → P 68 [some (aR 10 f), some (aI (nI a)), some (aI (nI b))] [] S' 0 0 := by
    intro S' hS hx
    repeat (first | (refine hP _ _ _ _ _ _ ?_; show P _ _ _ _ _ _) | refine hP _ _ _ _ _ _ (And.intro (hN _ _ _ rfl) ?_))
    have h := h S' hS
    rw [hx] at h
    refine hP _ _ _ _ _ _ (And.intro (Or.inl rfl) h)
  have mid : (0 < S.1 14 f (5 * a + b) ∨ 0 < S.1 14 f (5 * b + a)) → P 18 [some (aR 10 f), some (aI (nI a)), some (aI (nI b))] [] S 0 0 := by
    intro hor
    have hor' : (decide (0 < S.1 14 f (5 * a + b)) || decide (0 < S.1 14 f (5 * b + a))) = true := by simpa using hor
    repeat (first | (refine hP _ _ _ _ _ _ ?_; show P _ _ _ _ _ _) | refine hP _ _ _ _ _ _ (And.intro (hN _ _ _ rfl) ?_))
    refine hP _ _ _ _ _ _ (sp_will (by omega) hF ha hb (fun S1 h1 => ?_))
    repeat (first | (refine hP _ _ _ _ _ _ ?_; show P _ _ _ _ _ _) | refine hP _ _ _ _ _ _ (And.intro (hN _ _ _ rfl) ?_))
    refine hP _ _ _ _ _ _ (And.intro (fun hc => ?_) (fun hc => ?_))
    · exact out0 S1 h1 (by simp [myF, b2_0 hc])
    · have w1 := b2_1 hc
      have hF1 := hF.up h1
      repeat (first | (refine hP _ _ _ _ _ _ ?_; show P _ _ _ _ _ _) | refine hP _ _ _ _ _ _ (And.intro (hN _ _ _ rfl) ?_))
      refine hP _ _ _ _ _ _ (sp_will (by omega) hF1 hb ha (fun S2 h2 => ?_))
      repeat (first | (refine hP _ _ _ _ _ _ ?_; show P _ _ _ _ _ _) | refine hP _ _ _ _ _ _ (And.intro (hN _ _ _ rfl) ?_))
      rw [wlF_c h1]
      refine hP _ _ _ _ _ _ (And.intro (fun hc2 => ?_) (fun hc2 => ?_))
      · exact out0 S2 (h1.tr h2) (by simp [myF, b2_0 hc2])
      · have w2 := b2_1 hc2
        have h12 := h1.tr h2
        have hF2 := hF.up h12
        have hN := hF2.1
        repeat (first | (refine hP _ _ _ _ _ _ ?_; show P _ _ _ _ _ _) | refine hP _ _ _ _ _ _ (And.intro (hN _ _ _ rfl) ?_))
        refine hP _ _ _ _ _ _ (Exists.intro (a) (And.intro (And.intro (rfl) (show a < 5 by omega)) ?_))
        repeat (first | (refine hP _ _ _ _ _ _ ?_; show P _ _ _ _ _ _) | refine hP _ _ _ _ _ _ (And.intro (hN _ _ _ rfl) ?_))
        refine hP _ _ _ _ _ _ (sp_breath (by omega) hF2 ha (fun S3 h3 => ?_))
        have h13 := h12.tr h3
        have hF3 := hF.up h13
        have hN := hF3.1
        repeat (first | (refine hP _ _ _ _ _ _ ?_; show P _ _ _ _ _ _) | refine hP _ _ _ _ _ _ (And.intro (hN _ _ _ rfl) ?_))
        rw [brF_c h12]
        have e2 : S2.1 (frf (10, f).fst (10, f).snd 7).fst (frf (10, f).fst (10, f).snd 7).snd a = S.1 13 f a := by
          show S2.1 13 f a = _
          rw [h12.1 13 rfl]
        rw [e2]
        refine hP _ _ _ _ _ _ (And.intro (fun hc3 => ?_) (fun hc3 => ?_))
        · exact out0 S3 h13 (by
            have : ¬ S.1 13 f a < brF tv S f n t a := Int32.not_lt.mpr hc3
            simp [myF, this])
        · have w3 := Int32.not_le.mp hc3
          repeat (first | (refine hP _ _ _ _ _ _ ?_; show P _ _ _ _ _ _) | refine hP _ _ _ _ _ _ (And.intro (hN _ _ _ rfl) ?_))
          refine hP _ _ _ _ _ _ (Exists.intro (b) (And.intro (And.intro (rfl) (show b < 5 by omega)) ?_))
          repeat (first | (refine hP _ _ _ _ _ _ ?_; show P _ _ _ _ _ _) | refine hP _ _ _ _ _ _ (And.intro (hN _ _ _ rfl) ?_))
          refine hP _ _ _ _ _ _ (sp_breath (by omega) hF3 hb (fun S4 h4 => ?_))
          have h14 := h13.tr h4
          repeat (first | (refine hP _ _ _ _ _ _ ?_; show P _ _ _ _ _ _) | refine hP _ _ _ _ _ _ (And.intro (hN _ _ _ rfl) ?_))
          rw [brF_c h13]
          have e3 : S3.1 (frf (10, f).fst (10, f).snd 7).fst (frf (10, f).fst (10, f).snd 7).snd b = S.1 13 f b := by
            show S3.1 13 f b = _
            rw [h13.1 13 rfl]
          rw [e3]
          refine hP _ _ _ _ _ _ (And.intro (fun hc4 => ?_) (fun hc4 => ?_))
          · exact out0 S4 h14 (by
              have : ¬ S.1 13 f b < brF tv S f n t b := Int32.not_lt.mpr hc4
              simp [myF, this])
          · have w4 := Int32.not_le.mp hc4
            repeat (first | (refine hP _ _ _ _ _ _ ?_; show P _ _ _ _ _ _) | refine hP _ _ _ _ _ _ (And.intro (hN _ _ _ rfl) ?_))
            have h := h S4 h14
            have hx : myF tv S f n t a b = true := by simp [myF, hor', w1, w2, w3, w4]
            rw [hx] at h
            refine hP _ _ _ _ _ _ (And.intro (Or.inr rfl) h)
  repeat (first | (refine hP _ _ _ _ _ _ ?_; show P _ _ _ _ _ _) | refine hP _ _ _ _ _ _ (And.intro (hN _ _ _ rfl) ?_))
  refine hP _ _ _ _ _ _ (sp_owing (by omega) hN (by omega) (by omega) ?_)
  repeat (first | (refine hP _ _ _ _ _ _ ?_; show P _ _ _ _ _ _) | refine hP _ _ _ _ _ _ (And.intro (hN _ _ _ rfl) ?_))
  refine hP _ _ _ _ _ _ (And.intro (fun hc => ?_) (fun hc => ?_))
  · exact mid (Or.inl hc)
  · repeat (first | (refine hP _ _ _ _ _ _ ?_; show P _ _ _ _ _ _) | refine hP _ _ _ _ _ _ (And.intro (hN _ _ _ rfl) ?_))
    refine hP _ _ _ _ _ _ (sp_owing (by omega) hN (by omega) (by omega) ?_)
    repeat (first | (refine hP _ _ _ _ _ _ ?_; show P _ _ _ _ _ _) | refine hP _ _ _ _ _ _ (And.intro (hN _ _ _ rfl) ?_))
    refine hP _ _ _ _ _ _ (And.intro (fun hc2 => ?_) (fun hc2 => ?_))
    · exact out0 S (Sc.rf S) (by
        have g1 : ¬ 0 < S.1 14 f (5 * a + b) := hc
        have g2 : ¬ 0 < S.1 14 f (5 * b + a) := Int32.not_lt.mpr hc2
        simp [myF, g1, g2])
    · exact mid (Or.inr (Int32.not_le.mp hc2))
/-- a debt is so much less -/
def lsS (S : St) (f a b : Nat) (v : Int32) : St := ivSet S 14 f (5 * a + b) (S.1 14 f (5 * a + b) - v)
theorem sp_lessen {d : Nat} {S : St} {K : KT} {f a b : Nat} {v : Int32} (hd : 1 ≤ d) (hN : NN S) (ha : a < 5) (hb : b < 5) (h : K none (lsS S f a b v)) : Call d m_X0_lessen [aR 10 f, aI (nI a), aI (nI b), aI v] S K := by
  refine Call.of (k := 0) hd (fun e he P hP => ?_)
  repeat (first | (refine hP _ _ _ _ _ _ ?_; show P _ _ _ _ _ _) | refine hP _ _ _ _ _ _ (And.intro (hN _ _ _ rfl) ?_))
  refine hP _ _ _ _ _ _ (Exists.intro (5 * a + b) (And.intro (And.intro (ix5 a b) (by show _ < 25; omega)) ?_))
  repeat (first | (refine hP _ _ _ _ _ _ ?_; show P _ _ _ _ _ _) | refine hP _ _ _ _ _ _ (And.intro (hN _ _ _ rfl) ?_))
  refine hP _ _ _ _ _ _ (Exists.intro (5 * a + b) (And.intro (And.intro (ix5 a b) (by show _ < 25; omega)) ?_))
  repeat (first | (refine hP _ _ _ _ _ _ ?_; show P _ _ _ _ _ _) | refine hP _ _ _ _ _ _ (And.intro (hN _ _ _ rfl) ?_))
  exact hP _ _ _ _ _ _ (h)
/-- one dance more, 99 at most -/
def dnS (S : St) (f a : Nat) : St := ivSet S 13 f a (if 99 < S.1 13 f a + 1 then 99 else S.1 13 f a + 1)
def stS (S : St) (f a b : Nat) (v w : Int32) : St := dnS (dnS (lsS (lsS S f a b v) f b a w) f a) f b
theorem iv_NN {S : St} {j g k : Nat} {v : Int32} (h : NN S) : NN (ivSet S j g k v) := h
theorem sp_settle {d : Nat} {S : St} {K : KT} {f a b : Nat} {v w : Int32} (hd : 2 ≤ d) (hN : NN S) (ha : a < 5) (hb : b < 5) (h : K none (stS S f a b v w)) : Call d m_X0_settle [aR 10 f, aI (nI a), aI (nI b), aI v, aI w] S K := by
  refine Call.of (k := 1) hd (fun e he P hP => ?_)
  repeat (first | (refine hP _ _ _ _ _ _ ?_; show P _ _ _ _ _ _) | refine hP _ _ _ _ _ _ (And.intro (hN _ _ _ rfl) ?_))
  refine hP _ _ _ _ _ _ (sp_lessen (by omega) hN ha hb ?_)
  repeat (first | (refine hP _ _ _ _ _ _ ?_; show P _ _ _ _ _ _) | refine hP _ _ _ _ _ _ (And.intro (hN _ _ _ rfl) ?_))
  refine hP _ _ _ _ _ _ (sp_lessen (by omega) hN hb ha ?_)
  repeat (first | (refine hP _ _ _ _ _ _ ?_; show P _ _ _ _ _ _) | refine hP _ _ _ _ _ _ (And.intro (hN _ _ _ rfl) ?_))
  refine hP _ _ _ _ _ _ (Exists.intro (a) (And.intro (And.intro (rfl) (show a < 5 from ha)) ?_))
  repeat (first | (refine hP _ _ _ _ _ _ ?_; show P _ _ _ _ _ _) | refine hP _ _ _ _ _ _ (And.intro (hN _ _ _ rfl) ?_))
  refine hP _ _ _ _ _ _ (Exists.intro (a) (And.intro (And.intro (rfl) (show a < 5 from ha)) ?_))
  repeat (first | (refine hP _ _ _ _ _ _ ?_; show P _ _ _ _ _ _) | refine hP _ _ _ _ _ _ (And.intro (hN _ _ _ rfl) ?_))
  refine hP _ _ _ _ _ _ (Exists.intro (b) (And.intro (And.intro (rfl) (show b < 5 from hb)) ?_))
  repeat (first | (refine hP _ _ _ _ _ _ ?_; show P _ _ _ _ _ _) | refine hP _ _ _ _ _ _ (And.intro (hN _ _ _ rfl) ?_))
  refine hP _ _ _ _ _ _ (Exists.intro (b) (And.intro (And.intro (rfl) (show b < 5 from hb)) ?_))
  repeat (first | (refine hP _ _ _ _ _ _ ?_; show P _ _ _ _ _ _) | refine hP _ _ _ _ _ _ (And.intro (hN _ _ _ rfl) ?_))
  exact hP _ _ _ _ _ _ (h)
end
