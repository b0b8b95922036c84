-- ===== PART A: goes FIRST, ahead of the names: the tables' words, and 'selects' of the private methods out of them =====
/-- a private method of a class that the tables say can be made, by its rows of tables_1 -/
def lw_okq (q : MethodName × Nat) : Prop := (q.1.cls ≠ "java/lang/invoke/MethodHandle" ∧ q.1.cls ≠ "java/lang/invoke/VarHandle") ∧ Cond.instantiable q.1.cls q.2 ∈ tables_1 ∧ Cond.privateMethod q.1 ∈ tables_1 ∧ Cond.instanceMethod q.1 ∈ tables_1
theorem lw_p0 : lw_okq (⟨"DanceStillOwed", "debtPlace", "(I)I"⟩, 8) := ⟨⟨by decide +kernel, by decide +kernel⟩, List.mem_of_getElem? (i := 16) (by decide +kernel), List.mem_of_getElem? (i := 216) (by decide +kernel), List.mem_of_getElem? (i := 217) (by decide +kernel)⟩
theorem lw_p1 : lw_okq (⟨"DanceStillOwed", "isTwo", "(II)Z"⟩, 8) := ⟨⟨by decide +kernel, by decide +kernel⟩, List.mem_of_getElem? (i := 16) (by decide +kernel), List.mem_of_getElem? (i := 220) (by decide +kernel), List.mem_of_getElem? (i := 221) (by decide +kernel)⟩
theorem lw_p2 : lw_okq (⟨"DanceStillOwed", "isDancer", "(I)Z"⟩, 8) := ⟨⟨by decide +kernel, by decide +kernel⟩, List.mem_of_getElem? (i := 16) (by decide +kernel), List.mem_of_getElem? (i := 224) (by decide +kernel), List.mem_of_getElem? (i := 225) (by decide +kernel)⟩
theorem lw_p3 : lw_okq (⟨"DanceStillOwed$Floor", "value", "(III)I"⟩, 13) := ⟨⟨by decide +kernel, by decide +kernel⟩, List.mem_of_getElem? (i := 62) (by decide +kernel), List.mem_of_getElem? (i := 232) (by decide +kernel), List.mem_of_getElem? (i := 233) (by decide +kernel)⟩
theorem lw_p4 : lw_okq (⟨"DanceStillOwed$Reader", "next", "()V"⟩, 10) := ⟨⟨by decide +kernel, by decide +kernel⟩, List.mem_of_getElem? (i := 120) (by decide +kernel), List.mem_of_getElem? (i := 300) (by decide +kernel), List.mem_of_getElem? (i := 301) (by decide +kernel)⟩
theorem lw_p5 : lw_okq (⟨"DanceStillOwed$Reader", "nextNumber", "()V"⟩, 10) := ⟨⟨by decide +kernel, by decide +kernel⟩, List.mem_of_getElem? (i := 120) (by decide +kernel), List.mem_of_getElem? (i := 307) (by decide +kernel), List.mem_of_getElem? (i := 308) (by decide +kernel)⟩
theorem lw_p6 : lw_okq (⟨"DanceStillOwed$Reader", "nextWord", "()V"⟩, 10) := ⟨⟨by decide +kernel, by decide +kernel⟩, List.mem_of_getElem? (i := 120) (by decide +kernel), List.mem_of_getElem? (i := 314) (by decide +kernel), List.mem_of_getElem? (i := 315) (by decide +kernel)⟩
theorem lw_p7 : lw_okq (⟨"DanceStillOwed$Reader", "spells", "(Ljava/lang/String;)Z"⟩, 10) := ⟨⟨by decide +kernel, by decide +kernel⟩, List.mem_of_getElem? (i := 120) (by decide +kernel), List.mem_of_getElem? (i := 319) (by decide +kernel), List.mem_of_getElem? (i := 320) (by decide +kernel)⟩
theorem lw_p8 : lw_okq (⟨"DanceStillOwed$Reader", "pass", "(I)Z"⟩, 10) := ⟨⟨by decide +kernel, by decide +kernel⟩, List.mem_of_getElem? (i := 120) (by decide +kernel), List.mem_of_getElem? (i := 442) (by decide +kernel), List.mem_of_getElem? (i := 443) (by decide +kernel)⟩
theorem lw_p9 : lw_okq (⟨"DanceStillOwed$Reader", "either", "()Z"⟩, 10) := ⟨⟨by decide +kernel, by decide +kernel⟩, List.mem_of_getElem? (i := 120) (by decide +kernel), List.mem_of_getElem? (i := 446) (by decide +kernel), List.mem_of_getElem? (i := 447) (by decide +kernel)⟩
theorem lw_p10 : lw_okq (⟨"DanceStillOwed$Reader", "both", "()Z"⟩, 10) := ⟨⟨by decide +kernel, by decide +kernel⟩, List.mem_of_getElem? (i := 120) (by decide +kernel), List.mem_of_getElem? (i := 450) (by decide +kernel), List.mem_of_getElem? (i := 451) (by decide +kernel)⟩
theorem lw_p11 : lw_okq (⟨"DanceStillOwed$Reader", "denied", "()Z"⟩, 10) := ⟨⟨by decide +kernel, by decide +kernel⟩, List.mem_of_getElem? (i := 120) (by decide +kernel), List.mem_of_getElem? (i := 454) (by decide +kernel), List.mem_of_getElem? (i := 455) (by decide +kernel)⟩
theorem lw_p12 : lw_okq (⟨"DanceStillOwed$Reader", "compared", "()Z"⟩, 10) := ⟨⟨by decide +kernel, by decide +kernel⟩, List.mem_of_getElem? (i := 120) (by decide +kernel), List.mem_of_getElem? (i := 458) (by decide +kernel), List.mem_of_getElem? (i := 459) (by decide +kernel)⟩
theorem lw_p13 : lw_okq (⟨"DanceStillOwed$Reader", "sum", "()Z"⟩, 10) := ⟨⟨by decide +kernel, by decide +kernel⟩, List.mem_of_getElem? (i := 120) (by decide +kernel), List.mem_of_getElem? (i := 462) (by decide +kernel), List.mem_of_getElem? (i := 463) (by decide +kernel)⟩
theorem lw_p14 : lw_okq (⟨"DanceStillOwed$Reader", "term", "()Z"⟩, 10) := ⟨⟨by decide +kernel, by decide +kernel⟩, List.mem_of_getElem? (i := 120) (by decide +kernel), List.mem_of_getElem? (i := 466) (by decide +kernel), List.mem_of_getElem? (i := 467) (by decide +kernel)⟩
theorem lw_p15 : lw_okq (⟨"DanceStillOwed$Reader", "one", "()Z"⟩, 10) := ⟨⟨by decide +kernel, by decide +kernel⟩, List.mem_of_getElem? (i := 120) (by decide +kernel), List.mem_of_getElem? (i := 470) (by decide +kernel), List.mem_of_getElem? (i := 471) (by decide +kernel)⟩
def lw_privs_1 : List (MethodName × Nat) := [(⟨"DanceStillOwed", "debtPlace", "(I)I"⟩, 8), (⟨"DanceStillOwed", "isTwo", "(II)Z"⟩, 8), (⟨"DanceStillOwed", "isDancer", "(I)Z"⟩, 8), (⟨"DanceStillOwed$Floor", "value", "(III)I"⟩, 13), (⟨"DanceStillOwed$Reader", "next", "()V"⟩, 10), (⟨"DanceStillOwed$Reader", "nextNumber", "()V"⟩, 10), (⟨"DanceStillOwed$Reader", "nextWord", "()V"⟩, 10), (⟨"DanceStillOwed$Reader", "spells", "(Ljava/lang/String;)Z"⟩, 10), (⟨"DanceStillOwed$Reader", "pass", "(I)Z"⟩, 10), (⟨"DanceStillOwed$Reader", "either", "()Z"⟩, 10), (⟨"DanceStillOwed$Reader", "both", "()Z"⟩, 10), (⟨"DanceStillOwed$Reader", "denied", "()Z"⟩, 10), (⟨"DanceStillOwed$Reader", "compared", "()Z"⟩, 10), (⟨"DanceStillOwed$Reader", "sum", "()Z"⟩, 10), (⟨"DanceStillOwed$Reader", "term", "()Z"⟩, 10), (⟨"DanceStillOwed$Reader", "one", "()Z"⟩, 10)]
theorem lw_r1 : ∀ q ∈ lw_privs_1, lw_okq q := List.forall_mem_cons.mpr ⟨lw_p0, List.forall_mem_cons.mpr ⟨lw_p1, List.forall_mem_cons.mpr ⟨lw_p2, List.forall_mem_cons.mpr ⟨lw_p3, List.forall_mem_cons.mpr ⟨lw_p4, List.forall_mem_cons.mpr ⟨lw_p5, List.forall_mem_cons.mpr ⟨lw_p6, List.forall_mem_cons.mpr ⟨lw_p7, List.forall_mem_cons.mpr ⟨lw_p8, List.forall_mem_cons.mpr ⟨lw_p9, List.forall_mem_cons.mpr ⟨lw_p10, List.forall_mem_cons.mpr ⟨lw_p11, List.forall_mem_cons.mpr ⟨lw_p12, List.forall_mem_cons.mpr ⟨lw_p13, List.forall_mem_cons.mpr ⟨lw_p14, List.forall_mem_cons.mpr ⟨lw_p15, fun _ h => absurd h List.not_mem_nil⟩⟩⟩⟩⟩⟩⟩⟩⟩⟩⟩⟩⟩⟩⟩⟩
theorem lw_p16 : lw_okq (⟨"DanceStillOwed$Reader", "put", "(I)Z"⟩, 10) := ⟨⟨by decide +kernel, by decide +kernel⟩, List.mem_of_getElem? (i := 120) (by decide +kernel), List.mem_of_getElem? (i := 474) (by decide +kernel), List.mem_of_getElem? (i := 475) (by decide +kernel)⟩
theorem lw_p17 : lw_okq (⟨"DanceStillOwed$Reader", "opens", "()Z"⟩, 10) := ⟨⟨by decide +kernel, by decide +kernel⟩, List.mem_of_getElem? (i := 120) (by decide +kernel), List.mem_of_getElem? (i := 478) (by decide +kernel), List.mem_of_getElem? (i := 479) (by decide +kernel)⟩
theorem lw_p18 : lw_okq (⟨"DanceStillOwed$Floor", "settle", "(IIII)V"⟩, 13) := ⟨⟨by decide +kernel, by decide +kernel⟩, List.mem_of_getElem? (i := 62) (by decide +kernel), List.mem_of_getElem? (i := 512) (by decide +kernel), List.mem_of_getElem? (i := 513) (by decide +kernel)⟩
theorem lw_p19 : lw_okq (⟨"DanceStillOwed", "readRing", "(I)I"⟩, 8) := ⟨⟨by decide +kernel, by decide +kernel⟩, List.mem_of_getElem? (i := 16) (by decide +kernel), List.mem_of_getElem? (i := 545) (by decide +kernel), List.mem_of_getElem? (i := 546) (by decide +kernel)⟩
theorem lw_p20 : lw_okq (⟨"DanceStillOwed", "think", "()LDanceStillOwed$Floor;"⟩, 8) := ⟨⟨by decide +kernel, by decide +kernel⟩, List.mem_of_getElem? (i := 16) (by decide +kernel), List.mem_of_getElem? (i := 555) (by decide +kernel), List.mem_of_getElem? (i := 556) (by decide +kernel)⟩
theorem lw_p21 : lw_okq (⟨"DanceStillOwed", "sitters", "()I"⟩, 8) := ⟨⟨by decide +kernel, by decide +kernel⟩, List.mem_of_getElem? (i := 16) (by decide +kernel), List.mem_of_getElem? (i := 596) (by decide +kernel), List.mem_of_getElem? (i := 597) (by decide +kernel)⟩
theorem lw_p22 : lw_okq (⟨"DanceStillOwed", "soonest", "()I"⟩, 8) := ⟨⟨by decide +kernel, by decide +kernel⟩, List.mem_of_getElem? (i := 16) (by decide +kernel), List.mem_of_getElem? (i := 600) (by decide +kernel), List.mem_of_getElem? (i := 601) (by decide +kernel)⟩
theorem lw_p23 : lw_okq (⟨"DanceStillOwed", "clears", "(II)Z"⟩, 8) := ⟨⟨by decide +kernel, by decide +kernel⟩, List.mem_of_getElem? (i := 16) (by decide +kernel), List.mem_of_getElem? (i := 604) (by decide +kernel), List.mem_of_getElem? (i := 605) (by decide +kernel)⟩
theorem lw_p24 : lw_okq (⟨"DanceStillOwed$Floor", "longest", "(IIII)I"⟩, 13) := ⟨⟨by decide +kernel, by decide +kernel⟩, List.mem_of_getElem? (i := 62) (by decide +kernel), List.mem_of_getElem? (i := 627) (by decide +kernel), List.mem_of_getElem? (i := 628) (by decide +kernel)⟩
theorem lw_p25 : lw_okq (⟨"DanceStillOwed", "kindsTold", "(LDanceStillOwed$Sheet;I)I"⟩, 8) := ⟨⟨by decide +kernel, by decide +kernel⟩, List.mem_of_getElem? (i := 16) (by decide +kernel), List.mem_of_getElem? (i := 659) (by decide +kernel), List.mem_of_getElem? (i := 660) (by decide +kernel)⟩
theorem lw_p26 : lw_okq (⟨"DanceStillOwed", "numbersTold", "(LDanceStillOwed$Sheet;I)I"⟩, 8) := ⟨⟨by decide +kernel, by decide +kernel⟩, List.mem_of_getElem? (i := 16) (by decide +kernel), List.mem_of_getElem? (i := 668) (by decide +kernel), List.mem_of_getElem? (i := 669) (by decide +kernel)⟩
theorem lw_p27 : lw_okq (⟨"DanceStillOwed", "roundsTold", "(LDanceStillOwed$Sheet;IZ)I"⟩, 8) := ⟨⟨by decide +kernel, by decide +kernel⟩, List.mem_of_getElem? (i := 16) (by decide +kernel), List.mem_of_getElem? (i := 672) (by decide +kernel), List.mem_of_getElem? (i := 673) (by decide +kernel)⟩
theorem lw_p28 : lw_okq (⟨"DanceStillOwed", "donesTold", "(LDanceStillOwed$Sheet;IZ)I"⟩, 8) := ⟨⟨by decide +kernel, by decide +kernel⟩, List.mem_of_getElem? (i := 16) (by decide +kernel), List.mem_of_getElem? (i := 676) (by decide +kernel), List.mem_of_getElem? (i := 677) (by decide +kernel)⟩
theorem lw_p29 : lw_okq (⟨"DanceStillOwed", "textsTold", "(LDanceStillOwed$Sheet;I)I"⟩, 8) := ⟨⟨by decide +kernel, by decide +kernel⟩, List.mem_of_getElem? (i := 16) (by decide +kernel), List.mem_of_getElem? (i := 680) (by decide +kernel), List.mem_of_getElem? (i := 681) (by decide +kernel)⟩
theorem lw_p30 : lw_okq (⟨"DanceStillOwed", "dancersTold", "(LDanceStillOwed$Sheet;I)I"⟩, 8) := ⟨⟨by decide +kernel, by decide +kernel⟩, List.mem_of_getElem? (i := 16) (by decide +kernel), List.mem_of_getElem? (i := 684) (by decide +kernel), List.mem_of_getElem? (i := 685) (by decide +kernel)⟩
theorem lw_p31 : lw_okq (⟨"DanceStillOwedModel", "spell", "(IIIIIIIII)V"⟩, 45) := ⟨⟨by decide +kernel, by decide +kernel⟩, List.mem_of_getElem? (i := 756) (by decide +kernel), List.mem_of_getElem? (i := 768) (by decide +kernel), List.mem_of_getElem? (i := 769) (by decide +kernel)⟩
def lw_privs_2 : List (MethodName × Nat) := [(⟨"DanceStillOwed$Reader", "put", "(I)Z"⟩, 10), (⟨"DanceStillOwed$Reader", "opens", "()Z"⟩, 10), (⟨"DanceStillOwed$Floor", "settle", "(IIII)V"⟩, 13), (⟨"DanceStillOwed", "readRing", "(I)I"⟩, 8), (⟨"DanceStillOwed", "think", "()LDanceStillOwed$Floor;"⟩, 8), (⟨"DanceStillOwed", "sitters", "()I"⟩, 8), (⟨"DanceStillOwed", "soonest", "()I"⟩, 8), (⟨"DanceStillOwed", "clears", "(II)Z"⟩, 8), (⟨"DanceStillOwed$Floor", "longest", "(IIII)I"⟩, 13), (⟨"DanceStillOwed", "kindsTold", "(LDanceStillOwed$Sheet;I)I"⟩, 8), (⟨"DanceStillOwed", "numbersTold", "(LDanceStillOwed$Sheet;I)I"⟩, 8), (⟨"DanceStillOwed", "roundsTold", "(LDanceStillOwed$Sheet;IZ)I"⟩, 8), (⟨"DanceStillOwed", "donesTold", "(LDanceStillOwed$Sheet;IZ)I"⟩, 8), (⟨"DanceStillOwed", "textsTold", "(LDanceStillOwed$Sheet;I)I"⟩, 8), (⟨"DanceStillOwed", "dancersTold", "(LDanceStillOwed$Sheet;I)I"⟩, 8), (⟨"DanceStillOwedModel", "spell", "(IIIIIIIII)V"⟩, 45)]
theorem lw_r2 : ∀ q ∈ lw_privs_2, lw_okq q := List.forall_mem_cons.mpr ⟨lw_p16, List.forall_mem_cons.mpr ⟨lw_p17, List.forall_mem_cons.mpr ⟨lw_p18, List.forall_mem_cons.mpr ⟨lw_p19, List.forall_mem_cons.mpr ⟨lw_p20, List.forall_mem_cons.mpr ⟨lw_p21, List.forall_mem_cons.mpr ⟨lw_p22, List.forall_mem_cons.mpr ⟨lw_p23, List.forall_mem_cons.mpr ⟨lw_p24, List.forall_mem_cons.mpr ⟨lw_p25, List.forall_mem_cons.mpr ⟨lw_p26, List.forall_mem_cons.mpr ⟨lw_p27, List.forall_mem_cons.mpr ⟨lw_p28, List.forall_mem_cons.mpr ⟨lw_p29, List.forall_mem_cons.mpr ⟨lw_p30, List.forall_mem_cons.mpr ⟨lw_p31, fun _ h => absurd h List.not_mem_nil⟩⟩⟩⟩⟩⟩⟩⟩⟩⟩⟩⟩⟩⟩⟩⟩
theorem lw_p32 : lw_okq (⟨"DanceStillOwedModel", "isOf", "(II)Z"⟩, 45) := ⟨⟨by decide +kernel, by decide +kernel⟩, List.mem_of_getElem? (i := 756) (by decide +kernel), List.mem_of_getElem? (i := 916) (by decide +kernel), List.mem_of_getElem? (i := 917) (by decide +kernel)⟩
theorem lw_p33 : lw_okq (⟨"DanceStillOwedModel", "areTwo", "(II)Z"⟩, 45) := ⟨⟨by decide +kernel, by decide +kernel⟩, List.mem_of_getElem? (i := 756) (by decide +kernel), List.mem_of_getElem? (i := 920) (by decide +kernel), List.mem_of_getElem? (i := 921) (by decide +kernel)⟩
theorem lw_p34 : lw_okq (⟨"DanceStillOwedModel", "isOne", "(I)Z"⟩, 45) := ⟨⟨by decide +kernel, by decide +kernel⟩, List.mem_of_getElem? (i := 756) (by decide +kernel), List.mem_of_getElem? (i := 924) (by decide +kernel), List.mem_of_getElem? (i := 925) (by decide +kernel)⟩
theorem lw_p35 : lw_okq (⟨"DanceStillOwedModel", "breathOf", "(I)I"⟩, 45) := ⟨⟨by decide +kernel, by decide +kernel⟩, List.mem_of_getElem? (i := 756) (by decide +kernel), List.mem_of_getElem? (i := 939) (by decide +kernel), List.mem_of_getElem? (i := 940) (by decide +kernel)⟩
theorem lw_p36 : lw_okq (⟨"DanceStillOwedModel", "says", "(III)I"⟩, 45) := ⟨⟨by decide +kernel, by decide +kernel⟩, List.mem_of_getElem? (i := 756) (by decide +kernel), List.mem_of_getElem? (i := 943) (by decide +kernel), List.mem_of_getElem? (i := 944) (by decide +kernel)⟩
theorem lw_p37 : lw_okq (⟨"DanceStillOwedModel", "owedTo", "(I)I"⟩, 45) := ⟨⟨by decide +kernel, by decide +kernel⟩, List.mem_of_getElem? (i := 756) (by decide +kernel), List.mem_of_getElem? (i := 947) (by decide +kernel), List.mem_of_getElem? (i := 948) (by decide +kernel)⟩
theorem lw_p38 : lw_okq (⟨"DanceStillOwedModel", "debtOf", "(II)I"⟩, 45) := ⟨⟨by decide +kernel, by decide +kernel⟩, List.mem_of_getElem? (i := 756) (by decide +kernel), List.mem_of_getElem? (i := 951) (by decide +kernel), List.mem_of_getElem? (i := 952) (by decide +kernel)⟩
theorem lw_p39 : lw_okq (⟨"DanceStillOwedModel", "read", "(II)I"⟩, 45) := ⟨⟨by decide +kernel, by decide +kernel⟩, List.mem_of_getElem? (i := 756) (by decide +kernel), List.mem_of_getElem? (i := 955) (by decide +kernel), List.mem_of_getElem? (i := 956) (by decide +kernel)⟩
theorem lw_p40 : lw_okq (⟨"DanceStillOwedModel", "next", "()V"⟩, 45) := ⟨⟨by decide +kernel, by decide +kernel⟩, List.mem_of_getElem? (i := 756) (by decide +kernel), List.mem_of_getElem? (i := 959) (by decide +kernel), List.mem_of_getElem? (i := 960) (by decide +kernel)⟩
theorem lw_p41 : lw_okq (⟨"DanceStillOwedModel", "byteAt", "(I)I"⟩, 45) := ⟨⟨by decide +kernel, by decide +kernel⟩, List.mem_of_getElem? (i := 756) (by decide +kernel), List.mem_of_getElem? (i := 963) (by decide +kernel), List.mem_of_getElem? (i := 964) (by decide +kernel)⟩
theorem lw_p42 : lw_okq (⟨"DanceStillOwedModel", "isWord", "(IIIIIIII)Z"⟩, 45) := ⟨⟨by decide +kernel, by decide +kernel⟩, List.mem_of_getElem? (i := 756) (by decide +kernel), List.mem_of_getElem? (i := 972) (by decide +kernel), List.mem_of_getElem? (i := 973) (by decide +kernel)⟩
theorem lw_p43 : lw_okq (⟨"DanceStillOwedModel", "isLetter", "(II)Z"⟩, 45) := ⟨⟨by decide +kernel, by decide +kernel⟩, List.mem_of_getElem? (i := 756) (by decide +kernel), List.mem_of_getElem? (i := 976) (by decide +kernel), List.mem_of_getElem? (i := 977) (by decide +kernel)⟩
theorem lw_p44 : lw_okq (⟨"DanceStillOwedModel", "part", "(Z)I"⟩, 45) := ⟨⟨by decide +kernel, by decide +kernel⟩, List.mem_of_getElem? (i := 756) (by decide +kernel), List.mem_of_getElem? (i := 980) (by decide +kernel), List.mem_of_getElem? (i := 981) (by decide +kernel)⟩
theorem lw_p45 : lw_okq (⟨"DanceStillOwedModel", "fail", "()V"⟩, 45) := ⟨⟨by decide +kernel, by decide +kernel⟩, List.mem_of_getElem? (i := 756) (by decide +kernel), List.mem_of_getElem? (i := 984) (by decide +kernel), List.mem_of_getElem? (i := 985) (by decide +kernel)⟩
theorem lw_p46 : lw_okq (⟨"DanceStillOwedModel", "either", "()I"⟩, 45) := ⟨⟨by decide +kernel, by decide +kernel⟩, List.mem_of_getElem? (i := 756) (by decide +kernel), List.mem_of_getElem? (i := 988) (by decide +kernel), List.mem_of_getElem? (i := 989) (by decide +kernel)⟩
theorem lw_p47 : lw_okq (⟨"DanceStillOwedModel", "both", "()I"⟩, 45) := ⟨⟨by decide +kernel, by decide +kernel⟩, List.mem_of_getElem? (i := 756) (by decide +kernel), List.mem_of_getElem? (i := 992) (by decide +kernel), List.mem_of_getElem? (i := 993) (by decide +kernel)⟩
def lw_privs_3 : List (MethodName × Nat) := [(⟨"DanceStillOwedModel", "isOf", "(II)Z"⟩, 45), (⟨"DanceStillOwedModel", "areTwo", "(II)Z"⟩, 45), (⟨"DanceStillOwedModel", "isOne", "(I)Z"⟩, 45), (⟨"DanceStillOwedModel", "breathOf", "(I)I"⟩, 45), (⟨"DanceStillOwedModel", "says", "(III)I"⟩, 45), (⟨"DanceStillOwedModel", "owedTo", "(I)I"⟩, 45), (⟨"DanceStillOwedModel", "debtOf", "(II)I"⟩, 45), (⟨"DanceStillOwedModel", "read", "(II)I"⟩, 45), (⟨"DanceStillOwedModel", "next", "()V"⟩, 45), (⟨"DanceStillOwedModel", "byteAt", "(I)I"⟩, 45), (⟨"DanceStillOwedModel", "isWord", "(IIIIIIII)Z"⟩, 45), (⟨"DanceStillOwedModel", "isLetter", "(II)Z"⟩, 45), (⟨"DanceStillOwedModel", "part", "(Z)I"⟩, 45), (⟨"DanceStillOwedModel", "fail", "()V"⟩, 45), (⟨"DanceStillOwedModel", "either", "()I"⟩, 45), (⟨"DanceStillOwedModel", "both", "()I"⟩, 45)]
theorem lw_r3 : ∀ q ∈ lw_privs_3, lw_okq q := List.forall_mem_cons.mpr ⟨lw_p32, List.forall_mem_cons.mpr ⟨lw_p33, List.forall_mem_cons.mpr ⟨lw_p34, List.forall_mem_cons.mpr ⟨lw_p35, List.forall_mem_cons.mpr ⟨lw_p36, List.forall_mem_cons.mpr ⟨lw_p37, List.forall_mem_cons.mpr ⟨lw_p38, List.forall_mem_cons.mpr ⟨lw_p39, List.forall_mem_cons.mpr ⟨lw_p40, List.forall_mem_cons.mpr ⟨lw_p41, List.forall_mem_cons.mpr ⟨lw_p42, List.forall_mem_cons.mpr ⟨lw_p43, List.forall_mem_cons.mpr ⟨lw_p44, List.forall_mem_cons.mpr ⟨lw_p45, List.forall_mem_cons.mpr ⟨lw_p46, List.forall_mem_cons.mpr ⟨lw_p47, fun _ h => absurd h List.not_mem_nil⟩⟩⟩⟩⟩⟩⟩⟩⟩⟩⟩⟩⟩⟩⟩⟩
theorem lw_p48 : lw_okq (⟨"DanceStillOwedModel", "not", "()I"⟩, 45) := ⟨⟨by decide +kernel, by decide +kernel⟩, List.mem_of_getElem? (i := 756) (by decide +kernel), List.mem_of_getElem? (i := 996) (by decide +kernel), List.mem_of_getElem? (i := 997) (by decide +kernel)⟩
theorem lw_p49 : lw_okq (⟨"DanceStillOwedModel", "opens", "()Z"⟩, 45) := ⟨⟨by decide +kernel, by decide +kernel⟩, List.mem_of_getElem? (i := 756) (by decide +kernel), List.mem_of_getElem? (i := 1000) (by decide +kernel), List.mem_of_getElem? (i := 1001) (by decide +kernel)⟩
theorem lw_p50 : lw_okq (⟨"DanceStillOwedModel", "added", "()I"⟩, 45) := ⟨⟨by decide +kernel, by decide +kernel⟩, List.mem_of_getElem? (i := 756) (by decide +kernel), List.mem_of_getElem? (i := 1004) (by decide +kernel), List.mem_of_getElem? (i := 1005) (by decide +kernel)⟩
theorem lw_p51 : lw_okq (⟨"DanceStillOwedModel", "term", "()I"⟩, 45) := ⟨⟨by decide +kernel, by decide +kernel⟩, List.mem_of_getElem? (i := 756) (by decide +kernel), List.mem_of_getElem? (i := 1008) (by decide +kernel), List.mem_of_getElem? (i := 1009) (by decide +kernel)⟩
theorem lw_p52 : lw_okq (⟨"DanceStillOwedModel", "atom", "()I"⟩, 45) := ⟨⟨by decide +kernel, by decide +kernel⟩, List.mem_of_getElem? (i := 756) (by decide +kernel), List.mem_of_getElem? (i := 1012) (by decide +kernel), List.mem_of_getElem? (i := 1013) (by decide +kernel)⟩
theorem lw_p53 : lw_okq (⟨"DanceStillOwedModel", "isSign", "(I)Z"⟩, 45) := ⟨⟨by decide +kernel, by decide +kernel⟩, List.mem_of_getElem? (i := 756) (by decide +kernel), List.mem_of_getElem? (i := 1016) (by decide +kernel), List.mem_of_getElem? (i := 1017) (by decide +kernel)⟩
theorem lw_p54 : lw_okq (⟨"DanceStillOwedModel", "name", "()I"⟩, 45) := ⟨⟨by decide +kernel, by decide +kernel⟩, List.mem_of_getElem? (i := 756) (by decide +kernel), List.mem_of_getElem? (i := 1020) (by decide +kernel), List.mem_of_getElem? (i := 1021) (by decide +kernel)⟩
theorem lw_p55 : lw_okq (⟨"DanceStillOwedModel", "owesOf", "(I)I"⟩, 45) := ⟨⟨by decide +kernel, by decide +kernel⟩, List.mem_of_getElem? (i := 756) (by decide +kernel), List.mem_of_getElem? (i := 1029) (by decide +kernel), List.mem_of_getElem? (i := 1030) (by decide +kernel)⟩
theorem lw_p56 : lw_okq (⟨"DanceStillOwedModel", "lays", "(III)V"⟩, 45) := ⟨⟨by decide +kernel, by decide +kernel⟩, List.mem_of_getElem? (i := 756) (by decide +kernel), List.mem_of_getElem? (i := 1033) (by decide +kernel), List.mem_of_getElem? (i := 1034) (by decide +kernel)⟩
theorem lw_p57 : lw_okq (⟨"DanceStillOwedModel", "paysOf", "(II)I"⟩, 45) := ⟨⟨by decide +kernel, by decide +kernel⟩, List.mem_of_getElem? (i := 756) (by decide +kernel), List.mem_of_getElem? (i := 1062) (by decide +kernel), List.mem_of_getElem? (i := 1063) (by decide +kernel)⟩
theorem lw_p58 : lw_okq (⟨"DanceStillOwedModel", "willOf", "(II)Z"⟩, 45) := ⟨⟨by decide +kernel, by decide +kernel⟩, List.mem_of_getElem? (i := 756) (by decide +kernel), List.mem_of_getElem? (i := 1066) (by decide +kernel), List.mem_of_getElem? (i := 1067) (by decide +kernel)⟩
theorem lw_p59 : lw_okq (⟨"DanceStillOwedModel", "mayDance", "(II)Z"⟩, 45) := ⟨⟨by decide +kernel, by decide +kernel⟩, List.mem_of_getElem? (i := 756) (by decide +kernel), List.mem_of_getElem? (i := 1070) (by decide +kernel), List.mem_of_getElem? (i := 1071) (by decide +kernel)⟩
theorem lw_p60 : lw_okq (⟨"DanceStillOwedModel", "hasBreath", "(I)Z"⟩, 45) := ⟨⟨by decide +kernel, by decide +kernel⟩, List.mem_of_getElem? (i := 756) (by decide +kernel), List.mem_of_getElem? (i := 1074) (by decide +kernel), List.mem_of_getElem? (i := 1075) (by decide +kernel)⟩
theorem lw_p61 : lw_okq (⟨"DanceStillOwedModel", "danceBoth", "(II)I"⟩, 45) := ⟨⟨by decide +kernel, by decide +kernel⟩, List.mem_of_getElem? (i := 756) (by decide +kernel), List.mem_of_getElem? (i := 1082) (by decide +kernel), List.mem_of_getElem? (i := 1083) (by decide +kernel)⟩
theorem lw_p62 : lw_okq (⟨"DanceStillOwedModel", "dances", "(I)V"⟩, 45) := ⟨⟨by decide +kernel, by decide +kernel⟩, List.mem_of_getElem? (i := 756) (by decide +kernel), List.mem_of_getElem? (i := 1086) (by decide +kernel), List.mem_of_getElem? (i := 1087) (by decide +kernel)⟩
theorem lw_p63 : lw_okq (⟨"DanceStillOwedModel", "passes", "()I"⟩, 45) := ⟨⟨by decide +kernel, by decide +kernel⟩, List.mem_of_getElem? (i := 756) (by decide +kernel), List.mem_of_getElem? (i := 1094) (by decide +kernel), List.mem_of_getElem? (i := 1095) (by decide +kernel)⟩
def lw_privs_4 : List (MethodName × Nat) := [(⟨"DanceStillOwedModel", "not", "()I"⟩, 45), (⟨"DanceStillOwedModel", "opens", "()Z"⟩, 45), (⟨"DanceStillOwedModel", "added", "()I"⟩, 45), (⟨"DanceStillOwedModel", "term", "()I"⟩, 45), (⟨"DanceStillOwedModel", "atom", "()I"⟩, 45), (⟨"DanceStillOwedModel", "isSign", "(I)Z"⟩, 45), (⟨"DanceStillOwedModel", "name", "()I"⟩, 45), (⟨"DanceStillOwedModel", "owesOf", "(I)I"⟩, 45), (⟨"DanceStillOwedModel", "lays", "(III)V"⟩, 45), (⟨"DanceStillOwedModel", "paysOf", "(II)I"⟩, 45), (⟨"DanceStillOwedModel", "willOf", "(II)Z"⟩, 45), (⟨"DanceStillOwedModel", "mayDance", "(II)Z"⟩, 45), (⟨"DanceStillOwedModel", "hasBreath", "(I)Z"⟩, 45), (⟨"DanceStillOwedModel", "danceBoth", "(II)I"⟩, 45), (⟨"DanceStillOwedModel", "dances", "(I)V"⟩, 45), (⟨"DanceStillOwedModel", "passes", "()I"⟩, 45)]
theorem lw_r4 : ∀ q ∈ lw_privs_4, lw_okq q := List.forall_mem_cons.mpr ⟨lw_p48, List.forall_mem_cons.mpr ⟨lw_p49, List.forall_mem_cons.mpr ⟨lw_p50, List.forall_mem_cons.mpr ⟨lw_p51, List.forall_mem_cons.mpr ⟨lw_p52, List.forall_mem_cons.mpr ⟨lw_p53, List.forall_mem_cons.mpr ⟨lw_p54, List.forall_mem_cons.mpr ⟨lw_p55, List.forall_mem_cons.mpr ⟨lw_p56, List.forall_mem_cons.mpr ⟨lw_p57, List.forall_mem_cons.mpr ⟨lw_p58, List.forall_mem_cons.mpr ⟨lw_p59, List.forall_mem_cons.mpr ⟨lw_p60, List.forall_mem_cons.mpr ⟨lw_p61, List.forall_mem_cons.mpr ⟨lw_p62, List.forall_mem_cons.mpr ⟨lw_p63, fun _ h => absurd h List.not_mem_nil⟩⟩⟩⟩⟩⟩⟩⟩⟩⟩⟩⟩⟩⟩⟩⟩
theorem lw_p64 : lw_okq (⟨"DanceStillOwedModel", "ringOf", "(I)I"⟩, 45) := ⟨⟨by decide +kernel, by decide +kernel⟩, List.mem_of_getElem? (i := 756) (by decide +kernel), List.mem_of_getElem? (i := 1106) (by decide +kernel), List.mem_of_getElem? (i := 1107) (by decide +kernel)⟩
theorem lw_p65 : lw_okq (⟨"DanceStillOwedModel", "laysAside", "()V"⟩, 45) := ⟨⟨by decide +kernel, by decide +kernel⟩, List.mem_of_getElem? (i := 756) (by decide +kernel), List.mem_of_getElem? (i := 1116) (by decide +kernel), List.mem_of_getElem? (i := 1117) (by decide +kernel)⟩
theorem lw_p66 : lw_okq (⟨"DanceStillOwedModel", "owedAll", "()I"⟩, 45) := ⟨⟨by decide +kernel, by decide +kernel⟩, List.mem_of_getElem? (i := 756) (by decide +kernel), List.mem_of_getElem? (i := 1120) (by decide +kernel), List.mem_of_getElem? (i := 1121) (by decide +kernel)⟩
theorem lw_p67 : lw_okq (⟨"DanceStillOwedModel", "owedSet", "()I"⟩, 45) := ⟨⟨by decide +kernel, by decide +kernel⟩, List.mem_of_getElem? (i := 756) (by decide +kernel), List.mem_of_getElem? (i := 1124) (by decide +kernel), List.mem_of_getElem? (i := 1125) (by decide +kernel)⟩
theorem lw_p68 : lw_okq (⟨"DanceStillOwedModel", "laysBack", "()V"⟩, 45) := ⟨⟨by decide +kernel, by decide +kernel⟩, List.mem_of_getElem? (i := 756) (by decide +kernel), List.mem_of_getElem? (i := 1128) (by decide +kernel), List.mem_of_getElem? (i := 1129) (by decide +kernel)⟩
theorem lw_p69 : lw_okq (⟨"DanceStillOwedModel", "bestSet", "(I)I"⟩, 45) := ⟨⟨by decide +kernel, by decide +kernel⟩, List.mem_of_getElem? (i := 756) (by decide +kernel), List.mem_of_getElem? (i := 1136) (by decide +kernel), List.mem_of_getElem? (i := 1137) (by decide +kernel)⟩
theorem lw_p70 : lw_okq (⟨"DanceStillOwedModel", "isSet", "(I)Z"⟩, 45) := ⟨⟨by decide +kernel, by decide +kernel⟩, List.mem_of_getElem? (i := 756) (by decide +kernel), List.mem_of_getElem? (i := 1140) (by decide +kernel), List.mem_of_getElem? (i := 1141) (by decide +kernel)⟩
theorem lw_p71 : lw_okq (⟨"DanceStillOwedModel", "dancesOf", "(I)I"⟩, 45) := ⟨⟨by decide +kernel, by decide +kernel⟩, List.mem_of_getElem? (i := 756) (by decide +kernel), List.mem_of_getElem? (i := 1150) (by decide +kernel), List.mem_of_getElem? (i := 1151) (by decide +kernel)⟩
theorem lw_p72 : lw_okq (⟨"DanceStillOwedModel", "nextRound", "(I)I"⟩, 45) := ⟨⟨by decide +kernel, by decide +kernel⟩, List.mem_of_getElem? (i := 756) (by decide +kernel), List.mem_of_getElem? (i := 1154) (by decide +kernel), List.mem_of_getElem? (i := 1155) (by decide +kernel)⟩
theorem lw_p73 : lw_okq (⟨"DanceStillOwedModel", "soonest", "()I"⟩, 45) := ⟨⟨by decide +kernel, by decide +kernel⟩, List.mem_of_getElem? (i := 756) (by decide +kernel), List.mem_of_getElem? (i := 1158) (by decide +kernel), List.mem_of_getElem? (i := 1159) (by decide +kernel)⟩
theorem lw_p74 : lw_okq (⟨"DanceStillOwedModel", "isPaidBy", "(I)Z"⟩, 45) := ⟨⟨by decide +kernel, by decide +kernel⟩, List.mem_of_getElem? (i := 756) (by decide +kernel), List.mem_of_getElem? (i := 1162) (by decide +kernel), List.mem_of_getElem? (i := 1163) (by decide +kernel)⟩
theorem lw_p75 : lw_okq (⟨"DanceStillOwedModel", "leastOwed", "()I"⟩, 45) := ⟨⟨by decide +kernel, by decide +kernel⟩, List.mem_of_getElem? (i := 756) (by decide +kernel), List.mem_of_getElem? (i := 1166) (by decide +kernel), List.mem_of_getElem? (i := 1167) (by decide +kernel)⟩
theorem lw_p76 : lw_okq (⟨"DanceStillOwedModel", "longestRing", "()I"⟩, 45) := ⟨⟨by decide +kernel, by decide +kernel⟩, List.mem_of_getElem? (i := 756) (by decide +kernel), List.mem_of_getElem? (i := 1171) (by decide +kernel), List.mem_of_getElem? (i := 1172) (by decide +kernel)⟩
theorem lw_p77 : lw_okq (⟨"DanceStillOwedModel", "ringFrom", "(IIII)I"⟩, 45) := ⟨⟨by decide +kernel, by decide +kernel⟩, List.mem_of_getElem? (i := 756) (by decide +kernel), List.mem_of_getElem? (i := 1175) (by decide +kernel), List.mem_of_getElem? (i := 1176) (by decide +kernel)⟩
theorem lw_p78 : lw_okq (⟨"DanceStillOwedModel", "ends", "()I"⟩, 45) := ⟨⟨by decide +kernel, by decide +kernel⟩, List.mem_of_getElem? (i := 756) (by decide +kernel), List.mem_of_getElem? (i := 1179) (by decide +kernel), List.mem_of_getElem? (i := 1180) (by decide +kernel)⟩
theorem lw_p79 : lw_okq (⟨"DanceStillOwedModel", "keeper", "()I"⟩, 45) := ⟨⟨by decide +kernel, by decide +kernel⟩, List.mem_of_getElem? (i := 756) (by decide +kernel), List.mem_of_getElem? (i := 1183) (by decide +kernel), List.mem_of_getElem? (i := 1184) (by decide +kernel)⟩
def lw_privs_5 : List (MethodName × Nat) := [(⟨"DanceStillOwedModel", "ringOf", "(I)I"⟩, 45), (⟨"DanceStillOwedModel", "laysAside", "()V"⟩, 45), (⟨"DanceStillOwedModel", "owedAll", "()I"⟩, 45), (⟨"DanceStillOwedModel", "owedSet", "()I"⟩, 45), (⟨"DanceStillOwedModel", "laysBack", "()V"⟩, 45), (⟨"DanceStillOwedModel", "bestSet", "(I)I"⟩, 45), (⟨"DanceStillOwedModel", "isSet", "(I)Z"⟩, 45), (⟨"DanceStillOwedModel", "dancesOf", "(I)I"⟩, 45), (⟨"DanceStillOwedModel", "nextRound", "(I)I"⟩, 45), (⟨"DanceStillOwedModel", "soonest", "()I"⟩, 45), (⟨"DanceStillOwedModel", "isPaidBy", "(I)Z"⟩, 45), (⟨"DanceStillOwedModel", "leastOwed", "()I"⟩, 45), (⟨"DanceStillOwedModel", "longestRing", "()I"⟩, 45), (⟨"DanceStillOwedModel", "ringFrom", "(IIII)I"⟩, 45), (⟨"DanceStillOwedModel", "ends", "()I"⟩, 45), (⟨"DanceStillOwedModel", "keeper", "()I"⟩, 45)]
theorem lw_r5 : ∀ q ∈ lw_privs_5, lw_okq q := List.forall_mem_cons.mpr ⟨lw_p64, List.forall_mem_cons.mpr ⟨lw_p65, List.forall_mem_cons.mpr ⟨lw_p66, List.forall_mem_cons.mpr ⟨lw_p67, List.forall_mem_cons.mpr ⟨lw_p68, List.forall_mem_cons.mpr ⟨lw_p69, List.forall_mem_cons.mpr ⟨lw_p70, List.forall_mem_cons.mpr ⟨lw_p71, List.forall_mem_cons.mpr ⟨lw_p72, List.forall_mem_cons.mpr ⟨lw_p73, List.forall_mem_cons.mpr ⟨lw_p74, List.forall_mem_cons.mpr ⟨lw_p75, List.forall_mem_cons.mpr ⟨lw_p76, List.forall_mem_cons.mpr ⟨lw_p77, List.forall_mem_cons.mpr ⟨lw_p78, List.forall_mem_cons.mpr ⟨lw_p79, fun _ h => absurd h List.not_mem_nil⟩⟩⟩⟩⟩⟩⟩⟩⟩⟩⟩⟩⟩⟩⟩⟩
theorem lw_p80 : lw_okq (⟨"DanceStillOwedModel", "firstOther", "(II)I"⟩, 45) := ⟨⟨by decide +kernel, by decide +kernel⟩, List.mem_of_getElem? (i := 756) (by decide +kernel), List.mem_of_getElem? (i := 1203) (by decide +kernel), List.mem_of_getElem? (i := 1204) (by decide +kernel)⟩
theorem lw_p81 : lw_okq (⟨"DanceStillOwedModel", "likeSet", "(II)I"⟩, 45) := ⟨⟨by decide +kernel, by decide +kernel⟩, List.mem_of_getElem? (i := 756) (by decide +kernel), List.mem_of_getElem? (i := 1207) (by decide +kernel), List.mem_of_getElem? (i := 1208) (by decide +kernel)⟩
theorem lw_p82 : lw_okq (⟨"DanceStillOwedModel", "endsDrawn", "(I)I"⟩, 45) := ⟨⟨by decide +kernel, by decide +kernel⟩, List.mem_of_getElem? (i := 756) (by decide +kernel), List.mem_of_getElem? (i := 1225) (by decide +kernel), List.mem_of_getElem? (i := 1226) (by decide +kernel)⟩
def lw_privs_6 : List (MethodName × Nat) := [(⟨"DanceStillOwedModel", "firstOther", "(II)I"⟩, 45), (⟨"DanceStillOwedModel", "likeSet", "(II)I"⟩, 45), (⟨"DanceStillOwedModel", "endsDrawn", "(I)I"⟩, 45)]
theorem lw_r6 : ∀ q ∈ lw_privs_6, lw_okq q := List.forall_mem_cons.mpr ⟨lw_p80, List.forall_mem_cons.mpr ⟨lw_p81, List.forall_mem_cons.mpr ⟨lw_p82, fun _ h => absurd h List.not_mem_nil⟩⟩⟩
def lw_privs : List (MethodName × Nat) := lw_privs_1 ++ (lw_privs_2 ++ (lw_privs_3 ++ (lw_privs_4 ++ (lw_privs_5 ++ (lw_privs_6)))))
def lw_tbl : List Cond := k2_sels lw_privs ++ tables_1
theorem lw_privs_ok : ∀ q ∈ lw_privs, lw_okq q := by
  show ∀ q ∈ lw_privs_1 ++ (lw_privs_2 ++ (lw_privs_3 ++ (lw_privs_4 ++ (lw_privs_5 ++ (lw_privs_6))))), lw_okq q
  exact List.forall_mem_append.mpr ⟨lw_r1, List.forall_mem_append.mpr ⟨lw_r2, List.forall_mem_append.mpr ⟨lw_r3, List.forall_mem_append.mpr ⟨lw_r4, List.forall_mem_append.mpr ⟨lw_r5, lw_r6⟩⟩⟩⟩⟩
-- ===== end of PART A; then your names; then what follows =====
theorem goodIn_r {big : List Cond} (ws : List Cond) (ps : List Nat) (hp : ws = ps.filterMap (fun i => big[i]?)) (h : ws.all goodWord = true) : GoodIn big ws := by
  intro w hw
  have h1 := List.all_eq_true.mp h w hw
  rw [hp] at hw
  obtain ⟨i, -, hi⟩ := List.mem_filterMap.mp hw
  have hm : w ∈ big := by first | exact List.mem_of_getElem? hi | exact List.getElem?_mem hi
  exact ⟨hm, good_of_word h1⟩
theorem goodIn_app {big a b : List Cond} (ha : GoodIn big a) (hb : GoodIn big b) : GoodIn big (a ++ b) := fun w h => (List.mem_append.mp h).elim (ha w) (hb w)
theorem goodIn_ca {big a b : List Cond} {c : Cond} (ha : GoodIn big (c :: a)) (hb : GoodIn big b) : GoodIn big (c :: (a ++ b)) := fun w h => (List.mem_cons.mp h).elim (fun e => ha w (List.mem_cons.mpr (Or.inl e))) (fun h => (List.mem_append.mp h).elim (fun h => ha w (List.mem_cons.mpr (Or.inr h))) (hb w))
theorem goodIn_sub {big ws : List Cond} (hm : ∀ w ∈ ws, w ∈ big) (h : ws.all goodWord = true) : GoodIn big ws := fun w hw => ⟨hm w hw, good_of_word (List.all_eq_true.mp h w hw)⟩
def RX0 : String := "DanceStillOwed$Floor"
def TX0 : u_T := fun k => match k with
  | 0 => ("DanceStillOwed$Floor", "rules", "LDanceStillOwed$Rules;", true)
  | 1 => ("DanceStillOwed$Floor", "dancers", "I", false)
  | 2 => ("DanceStillOwed$Floor", "round", "I", false)
  | 3 => ("DanceStillOwed$Floor", "night", "I", false)
  | 4 => ("DanceStillOwed$Floor", "rule", "I", false)
  | 5 => ("DanceStillOwed$Floor", "kind", "[I", true)
  | 6 => ("DanceStillOwed$Floor", "number", "[I", true)
  | 7 => ("DanceStillOwed$Floor", "done", "[I", true)
  | 8 => ("DanceStillOwed$Floor", "debt", "[I", true)
  | 9 => ("DanceStillOwed$Floor", "danced", "I", false)
  | 10 => ("DanceStillOwed$Floor", "mayDance", "I", false)
  | 11 => ("DanceStillOwed$Floor", "paidByLesser", "[I", true)
  | _ => ("DanceStillOwed$Floor", "paidByGreater", "[I", true)
def tyX0 : Nat → FieldType := fun k => match k with
  | 0 => .object "DanceStillOwed$Rules"
  | 1 => .int
  | 2 => .int
  | 3 => .int
  | 4 => .int
  | 5 => .array .int
  | 6 => .array .int
  | 7 => .array .int
  | 8 => .array .int
  | 9 => .int
  | 10 => .int
  | 11 => .array .int
  | _ => .array .int
abbrev wsX00 : List Cond := u_ws RX0 TX0 13
theorem nmX0 : ∀ a, a < 13 → ∀ b, b < 13 → a ≠ b → (TX0 a).2.1 ≠ (TX0 b).2.1 := by decide +kernel
theorem tyX0_ok : ∀ k, k < 13 → parseFieldDescriptor (TX0 k).2.2.1 = some (tyX0 k) := by decide +kernel
abbrev cX0_init : ByteArray := prog_2_method_1_code
def yX0_init : MethodName := ⟨RX0, "<init>", "(LDanceStillOwed$Rules;)V"⟩
abbrev cX0_takeFrom : ByteArray := prog_2_method_2_code
def yX0_takeFrom : MethodName := ⟨RX0, "takeFrom", "(LDanceStillOwed$Floor;)V"⟩
abbrev cX0_join : ByteArray := prog_2_method_3_code
def yX0_join : MethodName := ⟨RX0, "join", "(II)I"⟩
abbrev cX0_owing : ByteArray := prog_2_method_4_code
def yX0_owing : MethodName := ⟨RX0, "owing", "(II)I"⟩
abbrev cX0_owes : ByteArray := prog_2_method_5_code
def yX0_owes : MethodName := ⟨RX0, "owes", "(I)I"⟩
abbrev cX0_owedTo : ByteArray := prog_2_method_6_code
def yX0_owedTo : MethodName := ⟨RX0, "owedTo", "(I)I"⟩
abbrev cX0_all : ByteArray := prog_2_method_7_code
def yX0_all : MethodName := ⟨RX0, "all", "()I"⟩
abbrev cX0_value : ByteArray := prog_2_method_8_code
def yX0_value : MethodName := ⟨RX0, "value", "(III)I"⟩
abbrev cX0_pays : ByteArray := prog_2_method_9_code
def yX0_pays : MethodName := ⟨RX0, "pays", "(II)I"⟩
abbrev cX0_will : ByteArray := prog_2_method_10_code
def yX0_will : MethodName := ⟨RX0, "will", "(II)Z"⟩
abbrev cX0_breath : ByteArray := prog_2_method_11_code
def yX0_breath : MethodName := ⟨RX0, "breath", "(I)I"⟩
abbrev cX0_may : ByteArray := prog_2_method_12_code
def yX0_may : MethodName := ⟨RX0, "may", "(II)Z"⟩
abbrev cX0_step : ByteArray := prog_2_method_13_code
def yX0_step : MethodName := ⟨RX0, "step", "(II)I"⟩
abbrev cX0_lessen : ByteArray := prog_2_method_14_code
def yX0_lessen : MethodName := ⟨RX0, "lessen", "(III)V"⟩
abbrev cX0_settle : ByteArray := prog_2_method_15_code
def yX0_settle : MethodName := ⟨RX0, "settle", "(IIII)V"⟩
abbrev cX0_danceRound : ByteArray := prog_2_method_16_code
def yX0_danceRound : MethodName := ⟨RX0, "danceRound", "()I"⟩
abbrev cX0_endNight : ByteArray := prog_2_method_17_code
def yX0_endNight : MethodName := ⟨RX0, "endNight", "()I"⟩
abbrev cX0_ends : ByteArray := prog_2_method_18_code
def yX0_ends : MethodName := ⟨RX0, "ends", "()I"⟩
abbrev cX0_draw : ByteArray := prog_2_method_19_code
def yX0_draw : MethodName := ⟨RX0, "draw", "(I)V"⟩
abbrev cX0_stillOwed : ByteArray := prog_2_method_20_code
def yX0_stillOwed : MethodName := ⟨RX0, "stillOwed", "()I"⟩
abbrev cX0_keeps : ByteArray := prog_2_method_21_code
def yX0_keeps : MethodName := ⟨RX0, "keeps", "()I"⟩
abbrev cX0_least : ByteArray := prog_2_method_22_code
def yX0_least : MethodName := ⟨RX0, "least", "()I"⟩
abbrev cX0_ring : ByteArray := prog_2_method_23_code
def yX0_ring : MethodName := ⟨RX0, "ring", "()I"⟩
abbrev cX0_longest : ByteArray := prog_2_method_24_code
def yX0_longest : MethodName := ⟨RX0, "longest", "(IIII)I"⟩
abbrev cX0_mostToMeet : ByteArray := prog_2_method_25_code
def yX0_mostToMeet : MethodName := ⟨RX0, "mostToMeet", "()I"⟩
abbrev cX0_weigh : ByteArray := prog_2_method_26_code
def yX0_weigh : MethodName := ⟨RX0, "weigh", "()V"⟩
abbrev cX0_mayAll : ByteArray := prog_2_method_27_code
def yX0_mayAll : MethodName := ⟨RX0, "mayAll", "(I)Z"⟩
abbrev cX0_paidBy : ByteArray := prog_2_method_28_code
def yX0_paidBy : MethodName := ⟨RX0, "paidBy", "(I)I"⟩
abbrev cX0_bestSet : ByteArray := prog_2_method_29_code
def yX0_bestSet : MethodName := ⟨RX0, "bestSet", "()I"⟩
abbrev cX0_danceSet : ByteArray := prog_2_method_30_code
def yX0_danceSet : MethodName := ⟨RX0, "danceSet", "(ILDanceStillOwed$Floor;)V"⟩
abbrev cX0_firstOtherwise : ByteArray := prog_2_method_31_code
def yX0_firstOtherwise : MethodName := ⟨RX0, "firstOtherwise", "(LDanceStillOwed$Sheet;I)I"⟩
abbrev cX0_paysAs : ByteArray := prog_2_method_32_code
def yX0_paysAs : MethodName := ⟨RX0, "paysAs", "(LDanceStillOwed$Sheet;I)Z"⟩
def RX1 : String := "DanceStillOwed$Reader"
def TX1 : u_T := fun k => match k with
  | 0 => ("DanceStillOwed$Reader", "tape", "[I", true)
  | 1 => ("DanceStillOwed$Reader", "size", "I", false)
  | 2 => ("DanceStillOwed$Reader", "code", "[I", true)
  | 3 => ("DanceStillOwed$Reader", "used", "I", false)
  | 4 => ("DanceStillOwed$Reader", "ends", "[I", true)
  | 5 => ("DanceStillOwed$Reader", "at", "I", false)
  | 6 => ("DanceStillOwed$Reader", "token", "I", false)
  | 7 => ("DanceStillOwed$Reader", "number", "I", false)
  | 8 => ("DanceStillOwed$Reader", "begin", "I", false)
  | _ => ("DanceStillOwed$Reader", "open", "I", false)
def tyX1 : Nat → FieldType := fun k => match k with
  | 0 => .array .int
  | 1 => .int
  | 2 => .array .int
  | 3 => .int
  | 4 => .array .int
  | 5 => .int
  | 6 => .int
  | 7 => .int
  | 8 => .int
  | _ => .int
abbrev wsX10 : List Cond := u_ws RX1 TX1 10
theorem nmX1 : ∀ a, a < 10 → ∀ b, b < 10 → a ≠ b → (TX1 a).2.1 ≠ (TX1 b).2.1 := by decide +kernel
theorem tyX1_ok : ∀ k, k < 10 → parseFieldDescriptor (TX1 k).2.2.1 = some (tyX1 k) := by decide +kernel
abbrev cX1_init : ByteArray := prog_3_method_1_code
def yX1_init : MethodName := ⟨RX1, "<init>", "()V"⟩
abbrev cX1_hold : ByteArray := prog_3_method_2_code
def yX1_hold : MethodName := ⟨RX1, "hold", "(I)Z"⟩
abbrev cX1_read : ByteArray := prog_3_method_3_code
def yX1_read : MethodName := ⟨RX1, "read", "()LDanceStillOwed$Text;"⟩
abbrev cX1_pass : ByteArray := prog_3_method_4_code
def yX1_pass : MethodName := ⟨RX1, "pass", "(I)Z"⟩
abbrev cX1_put : ByteArray := prog_3_method_5_code
def yX1_put : MethodName := ⟨RX1, "put", "(I)Z"⟩
abbrev cX1_either : ByteArray := prog_3_method_6_code
def yX1_either : MethodName := ⟨RX1, "either", "()Z"⟩
abbrev cX1_both : ByteArray := prog_3_method_7_code
def yX1_both : MethodName := ⟨RX1, "both", "()Z"⟩
abbrev cX1_denied : ByteArray := prog_3_method_8_code
def yX1_denied : MethodName := ⟨RX1, "denied", "()Z"⟩
abbrev cX1_compared : ByteArray := prog_3_method_9_code
def yX1_compared : MethodName := ⟨RX1, "compared", "()Z"⟩
abbrev cX1_sum : ByteArray := prog_3_method_10_code
def yX1_sum : MethodName := ⟨RX1, "sum", "()Z"⟩
abbrev cX1_term : ByteArray := prog_3_method_11_code
def yX1_term : MethodName := ⟨RX1, "term", "()Z"⟩
abbrev cX1_one : ByteArray := prog_3_method_12_code
def yX1_one : MethodName := ⟨RX1, "one", "()Z"⟩
abbrev cX1_opens : ByteArray := prog_3_method_13_code
def yX1_opens : MethodName := ⟨RX1, "opens", "()Z"⟩
abbrev cX1_next : ByteArray := prog_3_method_14_code
def yX1_next : MethodName := ⟨RX1, "next", "()V"⟩
abbrev cX1_nextNumber : ByteArray := prog_3_method_15_code
def yX1_nextNumber : MethodName := ⟨RX1, "nextNumber", "()V"⟩
abbrev cX1_nextWord : ByteArray := prog_3_method_16_code
def yX1_nextWord : MethodName := ⟨RX1, "nextWord", "()V"⟩
abbrev cX1_spells : ByteArray := prog_3_method_17_code
def yX1_spells : MethodName := ⟨RX1, "spells", "(Ljava/lang/String;)Z"⟩
abbrev cX1_isDigit : ByteArray := prog_3_method_18_code
def yX1_isDigit : MethodName := ⟨RX1, "isDigit", "(I)Z"⟩
abbrev cX1_isLetter : ByteArray := prog_3_method_19_code
def yX1_isLetter : MethodName := ⟨RX1, "isLetter", "(I)Z"⟩
def RX2 : String := "DanceStillOwed$Rules"
def TX2 : u_T := fun k => match k with
  | 0 => ("DanceStillOwed$Rules", "texts", "[LDanceStillOwed$Text;", true)
  | 1 => ("DanceStillOwed$Rules", "count", "I", false)
  | 2 => ("DanceStillOwed$Rules", "names", "[I", true)
  | _ => ("DanceStillOwed$Rules", "stack", "[I", true)
def tyX2 : Nat → FieldType := fun k => match k with
  | 0 => .array (.object "DanceStillOwed$Text")
  | 1 => .int
  | 2 => .array .int
  | _ => .array .int
abbrev wsX20 : List Cond := u_ws RX2 TX2 4
theorem nmX2 : ∀ a, a < 4 → ∀ b, b < 4 → a ≠ b → (TX2 a).2.1 ≠ (TX2 b).2.1 := by decide +kernel
theorem tyX2_ok : ∀ k, k < 4 → parseFieldDescriptor (TX2 k).2.2.1 = some (tyX2 k) := by decide +kernel
abbrev cX2_init : ByteArray := prog_4_method_1_code
def yX2_init : MethodName := ⟨RX2, "<init>", "()V"⟩
abbrev cX2_keep : ByteArray := prog_4_method_2_code
def yX2_keep : MethodName := ⟨RX2, "keep", "(LDanceStillOwed$Text;)I"⟩
abbrev cX2_value : ByteArray := prog_4_method_3_code
def yX2_value : MethodName := ⟨RX2, "value", "(II)I"⟩
def RX3 : String := "DanceStillOwed$Sheet"
def TX3 : u_T := fun k => match k with
  | 0 => ("DanceStillOwed$Sheet", "sort", "I", false)
  | 1 => ("DanceStillOwed$Sheet", "size", "I", false)
  | _ => ("DanceStillOwed$Sheet", "row", "[I", true)
def tyX3 : Nat → FieldType := fun k => match k with
  | 0 => .int
  | 1 => .int
  | _ => .array .int
abbrev wsX30 : List Cond := u_ws RX3 TX3 3
theorem nmX3 : ∀ a, a < 3 → ∀ b, b < 3 → a ≠ b → (TX3 a).2.1 ≠ (TX3 b).2.1 := by decide +kernel
theorem tyX3_ok : ∀ k, k < 3 → parseFieldDescriptor (TX3 k).2.2.1 = some (tyX3 k) := by decide +kernel
abbrev cX3_init : ByteArray := prog_5_method_1_code
def yX3_init : MethodName := ⟨RX3, "<init>", "()V"⟩
abbrev cX3_become : ByteArray := prog_5_method_2_code
def yX3_become : MethodName := ⟨RX3, "become", "(II)V"⟩
abbrev cX3_holds : ByteArray := prog_5_method_3_code
def yX3_holds : MethodName := ⟨RX3, "holds", "(II)Z"⟩
abbrev cX3_put : ByteArray := prog_5_method_4_code
def yX3_put : MethodName := ⟨RX3, "put", "(II)V"⟩
def RX4 : String := "DanceStillOwed$Text"
def TX4 : u_T := fun k => match k with
  | 0 => ("DanceStillOwed$Text", "code", "[I", true)
  | _ => ("DanceStillOwed$Text", "ends", "[I", true)
def tyX4 : Nat → FieldType := fun k => match k with
  | 0 => .array .int
  | _ => .array .int
abbrev wsX40 : List Cond := u_ws RX4 TX4 2
theorem nmX4 : ∀ a, a < 2 → ∀ b, b < 2 → a ≠ b → (TX4 a).2.1 ≠ (TX4 b).2.1 := by decide +kernel
theorem tyX4_ok : ∀ k, k < 2 → parseFieldDescriptor (TX4 k).2.2.1 = some (tyX4 k) := by decide +kernel
abbrev cX4_init : ByteArray := prog_6_method_1_code
def yX4_init : MethodName := ⟨RX4, "<init>", "([I[I)V"⟩
def RX5 : String := "DanceStillOwed"
def TX5 : u_T := fun k => match k with
  | 0 => ("DanceStillOwed", "rules", "LDanceStillOwed$Rules;", true)
  | 1 => ("DanceStillOwed", "now", "LDanceStillOwed$Floor;", true)
  | 2 => ("DanceStillOwed", "kept", "LDanceStillOwed$Floor;", true)
  | 3 => ("DanceStillOwed", "thoughts", "[LDanceStillOwed$Floor;", true)
  | 4 => ("DanceStillOwed", "reader", "LDanceStillOwed$Reader;", true)
  | 5 => ("DanceStillOwed", "sheets", "[LDanceStillOwed$Sheet;", true)
  | 6 => ("DanceStillOwed", "imageKept", "Z", false)
  | _ => ("DanceStillOwed", "ring", "[I", true)
def tyX5 : Nat → FieldType := fun k => match k with
  | 0 => .object "DanceStillOwed$Rules"
  | 1 => .object "DanceStillOwed$Floor"
  | 2 => .object "DanceStillOwed$Floor"
  | 3 => .array (.object "DanceStillOwed$Floor")
  | 4 => .object "DanceStillOwed$Reader"
  | 5 => .array (.object "DanceStillOwed$Sheet")
  | 6 => .boolean
  | _ => .array .int
abbrev wsX50 : List Cond := u_ws RX5 TX5 8
theorem nmX5 : ∀ a, a < 8 → ∀ b, b < 8 → a ≠ b → (TX5 a).2.1 ≠ (TX5 b).2.1 := by decide +kernel
theorem tyX5_ok : ∀ k, k < 8 → parseFieldDescriptor (TX5 k).2.2.1 = some (tyX5 k) := by decide +kernel
abbrev cX5_init : ByteArray := prog_1_method_1_code
def yX5_init : MethodName := ⟨RX5, "<init>", "()V"⟩
abbrev cX5_set : ByteArray := prog_1_method_2_code
def yX5_set : MethodName := ⟨RX5, "set", "(III)I"⟩
abbrev cX5_dancer : ByteArray := prog_1_method_3_code
def yX5_dancer : MethodName := ⟨RX5, "dancer", "(II)I"⟩
abbrev cX5_told : ByteArray := prog_1_method_4_code
def yX5_told : MethodName := ⟨RX5, "told", "(II)I"⟩
abbrev cX5_asks : ByteArray := prog_1_method_5_code
def yX5_asks : MethodName := ⟨RX5, "asks", "(III)I"⟩
abbrev cX5_isDancer : ByteArray := prog_1_method_6_code
def yX5_isDancer : MethodName := ⟨RX5, "isDancer", "(I)Z"⟩
abbrev cX5_isTwo : ByteArray := prog_1_method_7_code
def yX5_isTwo : MethodName := ⟨RX5, "isTwo", "(II)Z"⟩
abbrev cX5_debtPlace : ByteArray := prog_1_method_8_code
def yX5_debtPlace : MethodName := ⟨RX5, "debtPlace", "(I)I"⟩
abbrev cX5_feed : ByteArray := prog_1_method_9_code
def yX5_feed : MethodName := ⟨RX5, "feed", "(I)I"⟩
abbrev cX5_text : ByteArray := prog_1_method_10_code
def yX5_text : MethodName := ⟨RX5, "text", "()I"⟩
abbrev cX5_force : ByteArray := prog_1_method_11_code
def yX5_force : MethodName := ⟨RX5, "force", "(I)I"⟩
abbrev cX5_dance : ByteArray := prog_1_method_12_code
def yX5_dance : MethodName := ⟨RX5, "dance", "(II)I"⟩
abbrev cX5_round : ByteArray := prog_1_method_13_code
def yX5_round : MethodName := ⟨RX5, "round", "()I"⟩
abbrev cX5_night : ByteArray := prog_1_method_14_code
def yX5_night : MethodName := ⟨RX5, "night", "()I"⟩
abbrev cX5_strike : ByteArray := prog_1_method_15_code
def yX5_strike : MethodName := ⟨RX5, "strike", "(I)I"⟩
abbrev cX5_readRing : ByteArray := prog_1_method_16_code
def yX5_readRing : MethodName := ⟨RX5, "readRing", "(I)I"⟩
abbrev cX5_run : ByteArray := prog_1_method_17_code
def yX5_run : MethodName := ⟨RX5, "run", "(IIII)I"⟩
abbrev cX5_think : ByteArray := prog_1_method_18_code
def yX5_think : MethodName := ⟨RX5, "think", "()LDanceStillOwed$Floor;"⟩
abbrev cX5_best : ByteArray := prog_1_method_19_code
def yX5_best : MethodName := ⟨RX5, "best", "(I)I"⟩
abbrev cX5_share : ByteArray := prog_1_method_20_code
def yX5_share : MethodName := ⟨RX5, "share", "(II)J"⟩
abbrev cX5_sitters : ByteArray := prog_1_method_21_code
def yX5_sitters : MethodName := ⟨RX5, "sitters", "()I"⟩
abbrev cX5_soonest : ByteArray := prog_1_method_22_code
def yX5_soonest : MethodName := ⟨RX5, "soonest", "()I"⟩
abbrev cX5_clears : ByteArray := prog_1_method_23_code
def yX5_clears : MethodName := ⟨RX5, "clears", "(II)Z"⟩
abbrev cX5_lowest : ByteArray := prog_1_method_24_code
def yX5_lowest : MethodName := ⟨RX5, "lowest", "(III)J"⟩
abbrev cX5_tells : ByteArray := prog_1_method_25_code
def yX5_tells : MethodName := ⟨RX5, "tells", "(IIII)I"⟩
abbrev cX5_kindsTold : ByteArray := prog_1_method_26_code
def yX5_kindsTold : MethodName := ⟨RX5, "kindsTold", "(LDanceStillOwed$Sheet;I)I"⟩
abbrev cX5_numbersTold : ByteArray := prog_1_method_27_code
def yX5_numbersTold : MethodName := ⟨RX5, "numbersTold", "(LDanceStillOwed$Sheet;I)I"⟩
abbrev cX5_roundsTold : ByteArray := prog_1_method_28_code
def yX5_roundsTold : MethodName := ⟨RX5, "roundsTold", "(LDanceStillOwed$Sheet;IZ)I"⟩
abbrev cX5_donesTold : ByteArray := prog_1_method_29_code
def yX5_donesTold : MethodName := ⟨RX5, "donesTold", "(LDanceStillOwed$Sheet;IZ)I"⟩
abbrev cX5_textsTold : ByteArray := prog_1_method_30_code
def yX5_textsTold : MethodName := ⟨RX5, "textsTold", "(LDanceStillOwed$Sheet;I)I"⟩
abbrev cX5_dancersTold : ByteArray := prog_1_method_31_code
def yX5_dancersTold : MethodName := ⟨RX5, "dancersTold", "(LDanceStillOwed$Sheet;I)I"⟩
abbrev cX5_film : ByteArray := prog_1_method_32_code
def yX5_film : MethodName := ⟨RX5, "film", "(IIII)I"⟩
abbrev cX5_drawn : ByteArray := prog_1_method_33_code
def yX5_drawn : MethodName := ⟨RX5, "drawn", "(I)I"⟩
abbrev cX5_chance : ByteArray := prog_1_method_34_code
def yX5_chance : MethodName := ⟨RX5, "chance", "(IIII)J"⟩
abbrev cX5_image : ByteArray := prog_1_method_35_code
def yX5_image : MethodName := ⟨RX5, "image", "()I"⟩
abbrev cX5_back : ByteArray := prog_1_method_36_code
def yX5_back : MethodName := ⟨RX5, "back", "()I"⟩
abbrev cX5_count : ByteArray := prog_1_method_37_code
def yX5_count : MethodName := ⟨RX5, "count", "(I)I"⟩
abbrev cX5_sheet : ByteArray := prog_1_method_38_code
def yX5_sheet : MethodName := ⟨RX5, "sheet", "(III)I"⟩
abbrev cX5_cell : ByteArray := prog_1_method_39_code
def yX5_cell : MethodName := ⟨RX5, "cell", "(III)I"⟩
abbrev cX5_copy : ByteArray := prog_1_method_40_code
def yX5_copy : MethodName := ⟨RX5, "copy", "(IIIII)I"⟩
abbrev cX5_room : ByteArray := prog_1_method_41_code
def yX5_room : MethodName := ⟨RX5, "room", "(IIII)I"⟩
abbrev cX5_taken : ByteArray := prog_1_method_42_code
def yX5_taken : MethodName := ⟨RX5, "taken", "(II)I"⟩
abbrev cX5_isSheet : ByteArray := prog_1_method_43_code
def yX5_isSheet : MethodName := ⟨RX5, "isSheet", "(I)Z"⟩
abbrev cX5_isSort : ByteArray := prog_1_method_44_code
def yX5_isSort : MethodName := ⟨RX5, "isSort", "(I)Z"⟩
abbrev cX5_within : ByteArray := prog_1_method_45_code
def yX5_within : MethodName := ⟨RX5, "within", "(II)I"⟩
def RX6 : String := "DanceStillOwedModel"
def TX6 : u_T := fun k => match k with
  | 0 => ("DanceStillOwedModel", "thrown", "I", false)
  | 1 => ("DanceStillOwedModel", "texts", "[I", true)
  | 2 => ("DanceStillOwedModel", "textSize", "[I", true)
  | 3 => ("DanceStillOwedModel", "textCount", "I", false)
  | 4 => ("DanceStillOwedModel", "rule", "I", false)
  | 5 => ("DanceStillOwedModel", "tape", "[I", true)
  | 6 => ("DanceStillOwedModel", "taped", "I", false)
  | 7 => ("DanceStillOwedModel", "roundNow", "I", false)
  | 8 => ("DanceStillOwedModel", "nightNow", "I", false)
  | 9 => ("DanceStillOwedModel", "kinds", "[I", true)
  | 10 => ("DanceStillOwedModel", "rows", "[I", true)
  | 11 => ("DanceStillOwedModel", "debts", "[I", true)
  | 12 => ("DanceStillOwedModel", "many", "I", false)
  | 13 => ("DanceStillOwedModel", "matches", "[I", true)
  | 14 => ("DanceStillOwedModel", "ofDebt", "I", false)
  | 15 => ("DanceStillOwedModel", "ofOwed", "I", false)
  | 16 => ("DanceStillOwedModel", "ofNumber", "I", false)
  | 17 => ("DanceStillOwedModel", "ofRound", "I", false)
  | 18 => ("DanceStillOwedModel", "ofDone", "I", false)
  | 19 => ("DanceStillOwedModel", "ofNight", "I", false)
  | 20 => ("DanceStillOwedModel", "from", "I", false)
  | 21 => ("DanceStillOwedModel", "size", "I", false)
  | 22 => ("DanceStillOwedModel", "here", "I", false)
  | 23 => ("DanceStillOwedModel", "token", "I", false)
  | 24 => ("DanceStillOwedModel", "tokenAt", "I", false)
  | 25 => ("DanceStillOwedModel", "tokenWorth", "J", false)
  | 26 => ("DanceStillOwedModel", "open", "I", false)
  | 27 => ("DanceStillOwedModel", "bad", "Z", false)
  | 28 => ("DanceStillOwedModel", "fault", "I", false)
  | 29 => ("DanceStillOwedModel", "dancedSet", "I", false)
  | 30 => ("DanceStillOwedModel", "ring1", "[I", true)
  | 31 => ("DanceStillOwedModel", "was", "[I", true)
  | 32 => ("DanceStillOwedModel", "debtsThen", "[I", true)
  | 33 => ("DanceStillOwedModel", "rowsThen", "[I", true)
  | 34 => ("DanceStillOwedModel", "debtsWas", "[I", true)
  | 35 => ("DanceStillOwedModel", "debtsKept", "[I", true)
  | 36 => ("DanceStillOwedModel", "rowsKept", "[I", true)
  | 37 => ("DanceStillOwedModel", "manyKept", "I", false)
  | 38 => ("DanceStillOwedModel", "roundKept", "I", false)
  | 39 => ("DanceStillOwedModel", "nightKept", "I", false)
  | 40 => ("DanceStillOwedModel", "ruleKept", "I", false)
  | 41 => ("DanceStillOwedModel", "isThere", "[Z", true)
  | 42 => ("DanceStillOwedModel", "sorts", "[I", true)
  | 43 => ("DanceStillOwedModel", "sheetSize", "[I", true)
  | _ => ("DanceStillOwedModel", "items", "[I", true)
def tyX6 : Nat → FieldType := fun k => match k with
  | 0 => .int
  | 1 => .array .int
  | 2 => .array .int
  | 3 => .int
  | 4 => .int
  | 5 => .array .int
  | 6 => .int
  | 7 => .int
  | 8 => .int
  | 9 => .array .int
  | 10 => .array .int
  | 11 => .array .int
  | 12 => .int
  | 13 => .array .int
  | 14 => .int
  | 15 => .int
  | 16 => .int
  | 17 => .int
  | 18 => .int
  | 19 => .int
  | 20 => .int
  | 21 => .int
  | 22 => .int
  | 23 => .int
  | 24 => .int
  | 25 => .long
  | 26 => .int
  | 27 => .boolean
  | 28 => .int
  | 29 => .int
  | 30 => .array .int
  | 31 => .array .int
  | 32 => .array .int
  | 33 => .array .int
  | 34 => .array .int
  | 35 => .array .int
  | 36 => .array .int
  | 37 => .int
  | 38 => .int
  | 39 => .int
  | 40 => .int
  | 41 => .array .boolean
  | 42 => .array .int
  | 43 => .array .int
  | _ => .array .int
abbrev wsX60 : List Cond := u_ws RX6 TX6 45
theorem nmX6 : ∀ a, a < 45 → ∀ b, b < 45 → a ≠ b → (TX6 a).2.1 ≠ (TX6 b).2.1 := by decide +kernel
theorem tyX6_ok : ∀ k, k < 45 → parseFieldDescriptor (TX6 k).2.2.1 = some (tyX6 k) := by decide +kernel
abbrev cX6_in : ByteArray := prog_8_method_2_code
def yX6_in : MethodName := ⟨RX6, "in", "(JJJ)Z"⟩
abbrev cX6_within : ByteArray := prog_8_method_3_code
def yX6_within : MethodName := ⟨RX6, "within", "(III)I"⟩
abbrev cX6_init : ByteArray := prog_8_method_4_code
def yX6_init : MethodName := ⟨RX6, "<init>", "()V"⟩
abbrev cX6_spell : ByteArray := prog_8_method_5_code
def yX6_spell : MethodName := ⟨RX6, "spell", "(IIIIIIIII)V"⟩
abbrev cX6_isOne : ByteArray := prog_8_method_6_code
def yX6_isOne : MethodName := ⟨RX6, "isOne", "(I)Z"⟩
abbrev cX6_areTwo : ByteArray := prog_8_method_7_code
def yX6_areTwo : MethodName := ⟨RX6, "areTwo", "(II)Z"⟩
abbrev cX6_isOf : ByteArray := prog_8_method_8_code
def yX6_isOf : MethodName := ⟨RX6, "isOf", "(II)Z"⟩
abbrev cX6_placeOf : ByteArray := prog_8_method_9_code
def yX6_placeOf : MethodName := ⟨RX6, "placeOf", "(I)I"⟩
abbrev cX6_mostOf : ByteArray := prog_8_method_10_code
def yX6_mostOf : MethodName := ⟨RX6, "mostOf", "(I)I"⟩
abbrev cX6_set : ByteArray := prog_8_method_11_code
def yX6_set : MethodName := ⟨RX6, "set", "(III)I"⟩
abbrev cX6_lays : ByteArray := prog_8_method_12_code
def yX6_lays : MethodName := ⟨RX6, "lays", "(III)V"⟩
abbrev cX6_dancer : ByteArray := prog_8_method_13_code
def yX6_dancer : MethodName := ⟨RX6, "dancer", "(II)I"⟩
abbrev cX6_told : ByteArray := prog_8_method_14_code
def yX6_told : MethodName := ⟨RX6, "told", "(II)I"⟩
abbrev cX6_debtOf : ByteArray := prog_8_method_15_code
def yX6_debtOf : MethodName := ⟨RX6, "debtOf", "(II)I"⟩
abbrev cX6_owesOf : ByteArray := prog_8_method_16_code
def yX6_owesOf : MethodName := ⟨RX6, "owesOf", "(I)I"⟩
abbrev cX6_owedTo : ByteArray := prog_8_method_17_code
def yX6_owedTo : MethodName := ⟨RX6, "owedTo", "(I)I"⟩
abbrev cX6_owedAll : ByteArray := prog_8_method_18_code
def yX6_owedAll : MethodName := ⟨RX6, "owedAll", "()I"⟩
abbrev cX6_feed : ByteArray := prog_8_method_19_code
def yX6_feed : MethodName := ⟨RX6, "feed", "(I)I"⟩
abbrev cX6_byteAt : ByteArray := prog_8_method_20_code
def yX6_byteAt : MethodName := ⟨RX6, "byteAt", "(I)I"⟩
abbrev cX6_next : ByteArray := prog_8_method_21_code
def yX6_next : MethodName := ⟨RX6, "next", "()V"⟩
abbrev cX6_fail : ByteArray := prog_8_method_22_code
def yX6_fail : MethodName := ⟨RX6, "fail", "()V"⟩
abbrev cX6_isLetter : ByteArray := prog_8_method_23_code
def yX6_isLetter : MethodName := ⟨RX6, "isLetter", "(II)Z"⟩
abbrev cX6_isWord : ByteArray := prog_8_method_24_code
def yX6_isWord : MethodName := ⟨RX6, "isWord", "(IIIIIIII)Z"⟩
abbrev cX6_isSign : ByteArray := prog_8_method_25_code
def yX6_isSign : MethodName := ⟨RX6, "isSign", "(I)Z"⟩
abbrev cX6_opens : ByteArray := prog_8_method_26_code
def yX6_opens : MethodName := ⟨RX6, "opens", "()Z"⟩
abbrev cX6_name : ByteArray := prog_8_method_27_code
def yX6_name : MethodName := ⟨RX6, "name", "()I"⟩
abbrev cX6_atom : ByteArray := prog_8_method_28_code
def yX6_atom : MethodName := ⟨RX6, "atom", "()I"⟩
abbrev cX6_term : ByteArray := prog_8_method_29_code
def yX6_term : MethodName := ⟨RX6, "term", "()I"⟩
abbrev cX6_added : ByteArray := prog_8_method_30_code
def yX6_added : MethodName := ⟨RX6, "added", "()I"⟩
abbrev cX6_not : ByteArray := prog_8_method_31_code
def yX6_not : MethodName := ⟨RX6, "not", "()I"⟩
abbrev cX6_both : ByteArray := prog_8_method_32_code
def yX6_both : MethodName := ⟨RX6, "both", "()I"⟩
abbrev cX6_either : ByteArray := prog_8_method_33_code
def yX6_either : MethodName := ⟨RX6, "either", "()I"⟩
abbrev cX6_part : ByteArray := prog_8_method_34_code
def yX6_part : MethodName := ⟨RX6, "part", "(Z)I"⟩
abbrev cX6_read : ByteArray := prog_8_method_35_code
def yX6_read : MethodName := ⟨RX6, "read", "(II)I"⟩
abbrev cX6_text : ByteArray := prog_8_method_36_code
def yX6_text : MethodName := ⟨RX6, "text", "()I"⟩
abbrev cX6_force : ByteArray := prog_8_method_37_code
def yX6_force : MethodName := ⟨RX6, "force", "(I)I"⟩
abbrev cX6_says : ByteArray := prog_8_method_38_code
def yX6_says : MethodName := ⟨RX6, "says", "(III)I"⟩
abbrev cX6_paysOf : ByteArray := prog_8_method_39_code
def yX6_paysOf : MethodName := ⟨RX6, "paysOf", "(II)I"⟩
abbrev cX6_willOf : ByteArray := prog_8_method_40_code
def yX6_willOf : MethodName := ⟨RX6, "willOf", "(II)Z"⟩
abbrev cX6_breathOf : ByteArray := prog_8_method_41_code
def yX6_breathOf : MethodName := ⟨RX6, "breathOf", "(I)I"⟩
abbrev cX6_hasBreath : ByteArray := prog_8_method_42_code
def yX6_hasBreath : MethodName := ⟨RX6, "hasBreath", "(I)Z"⟩
abbrev cX6_mayDance : ByteArray := prog_8_method_43_code
def yX6_mayDance : MethodName := ⟨RX6, "mayDance", "(II)Z"⟩
abbrev cX6_asks : ByteArray := prog_8_method_44_code
def yX6_asks : MethodName := ⟨RX6, "asks", "(III)I"⟩
abbrev cX6_dances : ByteArray := prog_8_method_45_code
def yX6_dances : MethodName := ⟨RX6, "dances", "(I)V"⟩
abbrev cX6_danceBoth : ByteArray := prog_8_method_46_code
def yX6_danceBoth : MethodName := ⟨RX6, "danceBoth", "(II)I"⟩
abbrev cX6_dance : ByteArray := prog_8_method_47_code
def yX6_dance : MethodName := ⟨RX6, "dance", "(II)I"⟩
abbrev cX6_passes : ByteArray := prog_8_method_48_code
def yX6_passes : MethodName := ⟨RX6, "passes", "()I"⟩
abbrev cX6_round : ByteArray := prog_8_method_49_code
def yX6_round : MethodName := ⟨RX6, "round", "()I"⟩
abbrev cX6_night : ByteArray := prog_8_method_50_code
def yX6_night : MethodName := ⟨RX6, "night", "()I"⟩
abbrev cX6_ringOf : ByteArray := prog_8_method_51_code
def yX6_ringOf : MethodName := ⟨RX6, "ringOf", "(I)I"⟩
abbrev cX6_strike : ByteArray := prog_8_method_52_code
def yX6_strike : MethodName := ⟨RX6, "strike", "(I)I"⟩
abbrev cX6_laysAside : ByteArray := prog_8_method_53_code
def yX6_laysAside : MethodName := ⟨RX6, "laysAside", "()V"⟩
abbrev cX6_laysBack : ByteArray := prog_8_method_54_code
def yX6_laysBack : MethodName := ⟨RX6, "laysBack", "()V"⟩
abbrev cX6_owedSet : ByteArray := prog_8_method_55_code
def yX6_owedSet : MethodName := ⟨RX6, "owedSet", "()I"⟩
abbrev cX6_run : ByteArray := prog_8_method_56_code
def yX6_run : MethodName := ⟨RX6, "run", "(IIII)I"⟩
abbrev cX6_both_ : ByteArray := prog_8_method_57_code
def yX6_both_ : MethodName := ⟨RX6, "both", "(I)I"⟩
abbrev cX6_lesser : ByteArray := prog_8_method_58_code
def yX6_lesser : MethodName := ⟨RX6, "lesser", "(I)I"⟩
abbrev cX6_greater : ByteArray := prog_8_method_59_code
def yX6_greater : MethodName := ⟨RX6, "greater", "(I)I"⟩
abbrev cX6_isApart : ByteArray := prog_8_method_60_code
def yX6_isApart : MethodName := ⟨RX6, "isApart", "(I)Z"⟩
abbrev cX6_isSet : ByteArray := prog_8_method_61_code
def yX6_isSet : MethodName := ⟨RX6, "isSet", "(I)Z"⟩
abbrev cX6_dancesOf : ByteArray := prog_8_method_62_code
def yX6_dancesOf : MethodName := ⟨RX6, "dancesOf", "(I)I"⟩
abbrev cX6_bestSet : ByteArray := prog_8_method_63_code
def yX6_bestSet : MethodName := ⟨RX6, "bestSet", "(I)I"⟩
abbrev cX6_nextRound : ByteArray := prog_8_method_64_code
def yX6_nextRound : MethodName := ⟨RX6, "nextRound", "(I)I"⟩
abbrev cX6_isPaidBy : ByteArray := prog_8_method_65_code
def yX6_isPaidBy : MethodName := ⟨RX6, "isPaidBy", "(I)Z"⟩
abbrev cX6_soonest : ByteArray := prog_8_method_66_code
def yX6_soonest : MethodName := ⟨RX6, "soonest", "()I"⟩
abbrev cX6_leastOwed : ByteArray := prog_8_method_67_code
def yX6_leastOwed : MethodName := ⟨RX6, "leastOwed", "()I"⟩
abbrev cX6_ringFrom : ByteArray := prog_8_method_68_code
def yX6_ringFrom : MethodName := ⟨RX6, "ringFrom", "(IIII)I"⟩
abbrev cX6_longestRing : ByteArray := prog_8_method_69_code
def yX6_longestRing : MethodName := ⟨RX6, "longestRing", "()I"⟩
abbrev cX6_ends : ByteArray := prog_8_method_70_code
def yX6_ends : MethodName := ⟨RX6, "ends", "()I"⟩
abbrev cX6_keeper : ByteArray := prog_8_method_71_code
def yX6_keeper : MethodName := ⟨RX6, "keeper", "()I"⟩
abbrev cX6_best : ByteArray := prog_8_method_72_code
def yX6_best : MethodName := ⟨RX6, "best", "(I)I"⟩
abbrev cX6_lowest : ByteArray := prog_8_method_73_code
def yX6_lowest : MethodName := ⟨RX6, "lowest", "(JJI)J"⟩
abbrev cX6_share : ByteArray := prog_8_method_74_code
def yX6_share : MethodName := ⟨RX6, "share", "(II)J"⟩
abbrev cX6_firstOther : ByteArray := prog_8_method_75_code
def yX6_firstOther : MethodName := ⟨RX6, "firstOther", "(II)I"⟩
abbrev cX6_likeSet : ByteArray := prog_8_method_76_code
def yX6_likeSet : MethodName := ⟨RX6, "likeSet", "(II)I"⟩
abbrev cX6_tells : ByteArray := prog_8_method_77_code
def yX6_tells : MethodName := ⟨RX6, "tells", "(IIII)I"⟩
abbrev cX6_film : ByteArray := prog_8_method_78_code
def yX6_film : MethodName := ⟨RX6, "film", "(IIII)I"⟩
abbrev cX6_endsDrawn : ByteArray := prog_8_method_79_code
def yX6_endsDrawn : MethodName := ⟨RX6, "endsDrawn", "(I)I"⟩
abbrev cX6_drawn : ByteArray := prog_8_method_80_code
def yX6_drawn : MethodName := ⟨RX6, "drawn", "(I)I"⟩
abbrev cX6_chance : ByteArray := prog_8_method_81_code
def yX6_chance : MethodName := ⟨RX6, "chance", "(IIII)J"⟩
abbrev cX6_image : ByteArray := prog_8_method_82_code
def yX6_image : MethodName := ⟨RX6, "image", "()I"⟩
abbrev cX6_back : ByteArray := prog_8_method_83_code
def yX6_back : MethodName := ⟨RX6, "back", "()I"⟩
abbrev cX6_count : ByteArray := prog_8_method_84_code
def yX6_count : MethodName := ⟨RX6, "count", "(I)I"⟩
abbrev cX6_isSheet : ByteArray := prog_8_method_85_code
def yX6_isSheet : MethodName := ⟨RX6, "isSheet", "(I)Z"⟩
abbrev cX6_sheet : ByteArray := prog_8_method_86_code
def yX6_sheet : MethodName := ⟨RX6, "sheet", "(III)I"⟩
abbrev cX6_cell : ByteArray := prog_8_method_87_code
def yX6_cell : MethodName := ⟨RX6, "cell", "(III)I"⟩
abbrev cX6_copy : ByteArray := prog_8_method_88_code
def yX6_copy : MethodName := ⟨RX6, "copy", "(IIIII)I"⟩
abbrev cX6_room : ByteArray := prog_8_method_89_code
def yX6_room : MethodName := ⟨RX6, "room", "(IIII)I"⟩
abbrev cX6_over : ByteArray := prog_8_method_90_code
def yX6_over : MethodName := ⟨RX6, "over", "(I)I"⟩
abbrev cX6_taken : ByteArray := prog_8_method_91_code
def yX6_taken : MethodName := ⟨RX6, "taken", "(II)I"⟩
def RJ11 : String := "java/lang/Character"
def TJ11 : u_T := fun k => match k with
  | _ => ("", "", "", false)
def tyJ11 : Nat → FieldType := fun k => match k with
  | _ => .int
theorem nmJ11 : ∀ a, a < 0 → ∀ b, b < 0 → a ≠ b → (TJ11 a).2.1 ≠ (TJ11 b).2.1 := by decide +kernel
theorem tyJ11_ok : ∀ k, k < 0 → parseFieldDescriptor (TJ11 k).2.2.1 = some (tyJ11 k) := by decide +kernel
abbrev cJ11_isValidCodePoint_9a6ad : ByteArray := prog_9_method_11_code
def yJ11_isValidCodePoint_9a6ad : MethodName := ⟨RJ11, "isValidCodePoint", "(I)Z"⟩
abbrev cJ11_highSurrogate_5068e : ByteArray := prog_9_method_28_code
def yJ11_highSurrogate_5068e : MethodName := ⟨RJ11, "highSurrogate", "(I)C"⟩
abbrev cJ11_lowSurrogate_5068e : ByteArray := prog_9_method_29_code
def yJ11_lowSurrogate_5068e : MethodName := ⟨RJ11, "lowSurrogate", "(I)C"⟩
def RJx8e188 : String := "java/lang/Cloneable"
def TJx8e188 : u_T := fun k => match k with
  | _ => ("", "", "", false)
def tyJx8e188 : Nat → FieldType := fun k => match k with
  | _ => .int
theorem nmJx8e188 : ∀ a, a < 0 → ∀ b, b < 0 → a ≠ b → (TJx8e188 a).2.1 ≠ (TJx8e188 b).2.1 := by decide +kernel
theorem tyJx8e188_ok : ∀ k, k < 0 → parseFieldDescriptor (TJx8e188 k).2.2.1 = some (tyJx8e188 k) := by decide +kernel
def RJ9 : String := "java/lang/Math"
def TJ9 : u_T := fun k => match k with
  | _ => ("", "", "", false)
def tyJ9 : Nat → FieldType := fun k => match k with
  | _ => .int
theorem nmJ9 : ∀ a, a < 0 → ∀ b, b < 0 → a ≠ b → (TJ9 a).2.1 ≠ (TJ9 b).2.1 := by decide +kernel
theorem tyJ9_ok : ∀ k, k < 0 → parseFieldDescriptor (TJ9 k).2.2.1 = some (tyJ9 k) := by decide +kernel
abbrev cJ9_max_7cf53 : ByteArray := prog_11_method_65_code
def yJ9_max_7cf53 : MethodName := ⟨RJ9, "max", "(II)I"⟩
abbrev cJ9_min_7cf53 : ByteArray := prog_11_method_69_code
def yJ9_min_7cf53 : MethodName := ⟨RJ9, "min", "(II)I"⟩
def RJ0 : String := "java/lang/String"
def TJ0 : u_T := fun k => match k with
  | _ => ("", "", "", false)
def tyJ0 : Nat → FieldType := fun k => match k with
  | _ => .int
theorem nmJ0 : ∀ a, a < 0 → ∀ b, b < 0 → a ≠ b → (TJ0 a).2.1 ≠ (TJ0 b).2.1 := by decide +kernel
theorem tyJ0_ok : ∀ k, k < 0 → parseFieldDescriptor (TJ0 k).2.2.1 = some (tyJ0 k) := by decide +kernel
abbrev cJ0_length_8abf5 : ByteArray := prog_12_method_54_code
def yJ0_length_8abf5 : MethodName := ⟨RJ0, "length", "()I"⟩
abbrev cJ0_charAt_5068e : ByteArray := prog_12_method_56_code
def yJ0_charAt_5068e : MethodName := ⟨RJ0, "charAt", "(I)C"⟩
abbrev cJ0_indexOf_0f7a4 : ByteArray := prog_12_method_79_code
def yJ0_indexOf_0f7a4 : MethodName := ⟨RJ0, "indexOf", "(I)I"⟩
abbrev cJ0_indexOf_7cf53 : ByteArray := prog_12_method_80_code
def yJ0_indexOf_7cf53 : MethodName := ⟨RJ0, "indexOf", "(II)I"⟩
abbrev cJ0_coder_7d493 : ByteArray := prog_12_method_152_code
def yJ0_coder_7d493 : MethodName := ⟨RJ0, "coder", "()B"⟩
abbrev cJ0_isLatin1_aae02 : ByteArray := prog_12_method_154_code
def yJ0_isLatin1_aae02 : MethodName := ⟨RJ0, "isLatin1", "()Z"⟩
abbrev cJ0_checkIndex_df160 : ByteArray := prog_12_method_155_code
def yJ0_checkIndex_df160 : MethodName := ⟨RJ0, "checkIndex", "(II)V"⟩
abbrev cJ0_checkBoundsBeginEnd_23922 : ByteArray := prog_12_method_158_code
def yJ0_checkBoundsBeginEnd_23922 : MethodName := ⟨RJ0, "checkBoundsBeginEnd", "(III)V"⟩
def RJ1 : String := "java/lang/StringLatin1"
def TJ1 : u_T := fun k => match k with
  | _ => ("", "", "", false)
def tyJ1 : Nat → FieldType := fun k => match k with
  | _ => .int
theorem nmJ1 : ∀ a, a < 0 → ∀ b, b < 0 → a ≠ b → (TJ1 a).2.1 ≠ (TJ1 b).2.1 := by decide +kernel
theorem tyJ1_ok : ∀ k, k < 0 → parseFieldDescriptor (TJ1 k).2.2.1 = some (tyJ1 k) := by decide +kernel
abbrev cJ1_charAt_3b067 : ByteArray := prog_13_method_2_code
def yJ1_charAt_3b067 : MethodName := ⟨RJ1, "charAt", "([BI)C"⟩
abbrev cJ1_canEncode_9a6ad : ByteArray := prog_13_method_4_code
def yJ1_canEncode_9a6ad : MethodName := ⟨RJ1, "canEncode", "(I)Z"⟩
abbrev cJ1_indexOf_4cfef : ByteArray := prog_13_method_22_code
def yJ1_indexOf_4cfef : MethodName := ⟨RJ1, "indexOf", "([BIII)I"⟩
abbrev cJ1_indexOfChar_4cfef : ByteArray := prog_13_method_23_code
def yJ1_indexOfChar_4cfef : MethodName := ⟨RJ1, "indexOfChar", "([BIII)I"⟩
def RJ2 : String := "java/lang/StringUTF16"
def TJ2 : u_T := fun k => match k with
  | _ => ("", "", "", false)
def tyJ2 : Nat → FieldType := fun k => match k with
  | _ => .int
theorem nmJ2 : ∀ a, a < 0 → ∀ b, b < 0 → a ≠ b → (TJ2 a).2.1 ≠ (TJ2 b).2.1 := by decide +kernel
theorem tyJ2_ok : ∀ k, k < 0 → parseFieldDescriptor (TJ2 k).2.2.1 = some (tyJ2 k) := by decide +kernel
abbrev cJ2_getChar_3b067 : ByteArray := prog_14_method_5_code
def yJ2_getChar_3b067 : MethodName := ⟨RJ2, "getChar", "([BI)C"⟩
abbrev cJ2_length_9d52b : ByteArray := prog_14_method_6_code
def yJ2_length_9d52b : MethodName := ⟨RJ2, "length", "([B)I"⟩
abbrev cJ2_indexOf_4cfef : ByteArray := prog_14_method_40_code
def yJ2_indexOf_4cfef : MethodName := ⟨RJ2, "indexOf", "([BIII)I"⟩
abbrev cJ2_indexOfChar_4cfef : ByteArray := prog_14_method_47_code
def yJ2_indexOfChar_4cfef : MethodName := ⟨RJ2, "indexOfChar", "([BIII)I"⟩
abbrev cJ2_indexOfCharUnsafe_4cfef : ByteArray := prog_14_method_48_code
def yJ2_indexOfCharUnsafe_4cfef : MethodName := ⟨RJ2, "indexOfCharUnsafe", "([BIII)I"⟩
abbrev cJ2_indexOfSupplementary_4cfef : ByteArray := prog_14_method_49_code
def yJ2_indexOfSupplementary_4cfef : MethodName := ⟨RJ2, "indexOfSupplementary", "([BIII)I"⟩
abbrev cJ2_charAt_3b067 : ByteArray := prog_14_method_83_code
def yJ2_charAt_3b067 : MethodName := ⟨RJ2, "charAt", "([BI)C"⟩
abbrev cJ2_checkIndex_2214a : ByteArray := prog_14_method_91_code
def yJ2_checkIndex_2214a : MethodName := ⟨RJ2, "checkIndex", "(I[B)V"⟩
abbrev cJ2_checkBoundsBeginEnd_d044e : ByteArray := prog_14_method_93_code
def yJ2_checkBoundsBeginEnd_d044e : MethodName := ⟨RJ2, "checkBoundsBeginEnd", "(II[B)V"⟩
def RJ10 : String := "java/lang/System"
def TJ10 : u_T := fun k => match k with
  | _ => ("", "", "", false)
def tyJ10 : Nat → FieldType := fun k => match k with
  | _ => .int
theorem nmJ10 : ∀ a, a < 0 → ∀ b, b < 0 → a ≠ b → (TJ10 a).2.1 ≠ (TJ10 b).2.1 := by decide +kernel
theorem tyJ10_ok : ∀ k, k < 0 → parseFieldDescriptor (TJ10 k).2.2.1 = some (tyJ10 k) := by decide +kernel
def RJ3 : String := "jdk/internal/util/Preconditions"
def TJ3 : u_T := fun k => match k with
  | _ => ("", "", "", false)
def tyJ3 : Nat → FieldType := fun k => match k with
  | _ => .int
theorem nmJ3 : ∀ a, a < 0 → ∀ b, b < 0 → a ≠ b → (TJ3 a).2.1 ≠ (TJ3 b).2.1 := by decide +kernel
theorem tyJ3_ok : ∀ k, k < 0 → parseFieldDescriptor (TJ3 k).2.2.1 = some (tyJ3 k) := by decide +kernel
abbrev cJ3_checkIndex_8e157 : ByteArray := prog_16_method_11_code
def yJ3_checkIndex_8e157 : MethodName := ⟨RJ3, "checkIndex", "(IILjava/util/function/BiFunction;)I"⟩
abbrev cJ3_checkFromToIndex_8c36e : ByteArray := prog_16_method_12_code
def yJ3_checkFromToIndex_8c36e : MethodName := ⟨RJ3, "checkFromToIndex", "(IIILjava/util/function/BiFunction;)I"⟩
def RL : String := "DanceStillOwedLaw"
abbrev cL_law : ByteArray := code
def yL_law : MethodName := ⟨RL, "law", "([I)Z"⟩
abbrev vwCl : List vw_C := [(RX0, TX0, 13), (RX1, TX1, 10), (RX2, TX2, 4), (RX3, TX3, 3), (RX4, TX4, 2), (RX5, TX5, 8), (RX6, TX6, 45)]
