-- ===== PART A: goes FIRST, ahead of the names: the tables' words, and 'selects' of the private methods out of them =====
/-- a private method of a class that the tables say can be made, by its rows of tables_1 -/
def lw_okq (q : MethodName × Nat) : Prop := (q.1.cls ≠ "java/lang/invoke/MethodHandle" ∧ q.1.cls ≠ "java/lang/invoke/VarHandle") ∧ Cond.instantiable q.1.cls q.2 ∈ tables_1 ∧ Cond.privateMethod q.1 ∈ tables_1 ∧ Cond.instanceMethod q.1 ∈ tables_1
theorem lw_p0 : lw_okq (⟨"DanceStillOwed", "debtPlace", "(I)I"⟩, 8) := ⟨⟨by decide +kernel, by decide +kernel⟩, List.mem_of_getElem? (i := 16) (by decide +kernel), List.mem_of_getElem? (i := 216) (by decide +kernel), List.mem_of_getElem? (i := 217) (by decide +kernel)⟩
theorem lw_p1 : lw_okq (⟨"DanceStillOwed", "isTwo", "(II)Z"⟩, 8) := ⟨⟨by decide +kernel, by decide +kernel⟩, List.mem_of_getElem? (i := 16) (by decide +kernel), List.mem_of_getElem? (i := 220) (by decide +kernel), List.mem_of_getElem? (i := 221) (by decide +kernel)⟩
theorem lw_p2 : lw_okq (⟨"DanceStillOwed", "isDancer", "(I)Z"⟩, 8) := ⟨⟨by decide +kernel, by decide +kernel⟩, List.mem_of_getElem? (i := 16) (by decide +kernel), List.mem_of_getElem? (i := 224) (by decide +kernel), List.mem_of_getElem? (i := 225) (by decide +kernel)⟩
theorem lw_p3 : lw_okq (⟨"DanceStillOwed$Floor", "value", "(III)I"⟩, 13) := ⟨⟨by decide +kernel, by decide +kernel⟩, List.mem_of_getElem? (i := 62) (by decide +kernel), List.mem_of_getElem? (i := 232) (by decide +kernel), List.mem_of_getElem? (i := 233) (by decide +kernel)⟩
theorem lw_p4 : lw_okq (⟨"DanceStillOwed$Reader", "next", "()V"⟩, 10) := ⟨⟨by decide +kernel, by decide +kernel⟩, List.mem_of_getElem? (i := 120) (by decide +kernel), List.mem_of_getElem? (i := 300) (by decide +kernel), List.mem_of_getElem? (i := 301) (by decide +kernel)⟩
theorem lw_p5 : lw_okq (⟨"DanceStillOwed$Reader", "nextNumber", "()V"⟩, 10) := ⟨⟨by decide +kernel, by decide +kernel⟩, List.mem_of_getElem? (i := 120) (by decide +kernel), List.mem_of_getElem? (i := 307) (by decide +kernel), List.mem_of_getElem? (i := 308) (by decide +kernel)⟩
theorem lw_p6 : lw_okq (⟨"DanceStillOwed$Reader", "nextWord", "()V"⟩, 10) := ⟨⟨by decide +kernel, by decide +kernel⟩, List.mem_of_getElem? (i := 120) (by decide +kernel), List.mem_of_getElem? (i := 314) (by decide +kernel), List.mem_of_getElem? (i := 315) (by decide +kernel)⟩
theorem lw_p7 : lw_okq (⟨"DanceStillOwed$Reader", "spells", "(Ljava/lang/String;)Z"⟩, 10) := ⟨⟨by decide +kernel, by decide +kernel⟩, List.mem_of_getElem? (i := 120) (by decide +kernel), List.mem_of_getElem? (i := 319) (by decide +kernel), List.mem_of_getElem? (i := 320) (by decide +kernel)⟩
theorem lw_p8 : lw_okq (⟨"DanceStillOwed$Reader", "pass", "(I)Z"⟩, 10) := ⟨⟨by decide +kernel, by decide +kernel⟩, List.mem_of_getElem? (i := 120) (by decide +kernel), List.mem_of_getElem? (i := 442) (by decide +kernel), List.mem_of_getElem? (i := 443) (by decide +kernel)⟩
theorem lw_p9 : lw_okq (⟨"DanceStillOwed$Reader", "either", "()Z"⟩, 10) := ⟨⟨by decide +kernel, by decide +kernel⟩, List.mem_of_getElem? (i := 120) (by decide +kernel), List.mem_of_getElem? (i := 446) (by decide +kernel), List.mem_of_getElem? (i := 447) (by decide +kernel)⟩
theorem lw_p10 : lw_okq (⟨"DanceStillOwed$Reader", "both", "()Z"⟩, 10) := ⟨⟨by decide +kernel, by decide +kernel⟩, List.mem_of_getElem? (i := 120) (by decide +kernel), List.mem_of_getElem? (i := 450) (by decide +kernel), List.mem_of_getElem? (i := 451) (by decide +kernel)⟩
theorem lw_p11 : lw_okq (⟨"DanceStillOwed$Reader", "denied", "()Z"⟩, 10) := ⟨⟨by decide +kernel, by decide +kernel⟩, List.mem_of_getElem? (i := 120) (by decide +kernel), List.mem_of_getElem? (i := 454) (by decide +kernel), List.mem_of_getElem? (i := 455) (by decide +kernel)⟩
theorem lw_p12 : lw_okq (⟨"DanceStillOwed$Reader", "compared", "()Z"⟩, 10) := ⟨⟨by decide +kernel, by decide +kernel⟩, List.mem_of_getElem? (i := 120) (by decide +kernel), List.mem_of_getElem? (i := 458) (by decide +kernel), List.mem_of_getElem? (i := 459) (by decide +kernel)⟩
theorem lw_p13 : lw_okq (⟨"DanceStillOwed$Reader", "sum", "()Z"⟩, 10) := ⟨⟨by decide +kernel, by decide +kernel⟩, List.mem_of_getElem? (i := 120) (by decide +kernel), List.mem_of_getElem? (i := 462) (by decide +kernel), List.mem_of_getElem? (i := 463) (by decide +kernel)⟩
theorem lw_p14 : lw_okq (⟨"DanceStillOwed$Reader", "term", "()Z"⟩, 10) := ⟨⟨by decide +kernel, by decide +kernel⟩, List.mem_of_getElem? (i := 120) (by decide +kernel), List.mem_of_getElem? (i := 466) (by decide +kernel), List.mem_of_getElem? (i := 467) (by decide +kernel)⟩
theorem lw_p15 : lw_okq (⟨"DanceStillOwed$Reader", "one", "()Z"⟩, 10) := ⟨⟨by decide +kernel, by decide +kernel⟩, List.mem_of_getElem? (i := 120) (by decide +kernel), List.mem_of_getElem? (i := 470) (by decide +kernel), List.mem_of_getElem? (i := 471) (by decide +kernel)⟩
def lw_privs_1 : List (MethodName × Nat) := [(⟨"DanceStillOwed", "debtPlace", "(I)I"⟩, 8), (⟨"DanceStillOwed", "isTwo", "(II)Z"⟩, 8), (⟨"DanceStillOwed", "isDancer", "(I)Z"⟩, 8), (⟨"DanceStillOwed$Floor", "value", "(III)I"⟩, 13), (⟨"DanceStillOwed$Reader", "next", "()V"⟩, 10), (⟨"DanceStillOwed$Reader", "nextNumber", "()V"⟩, 10), (⟨"DanceStillOwed$Reader", "nextWord", "()V"⟩, 10), (⟨"DanceStillOwed$Reader", "spells", "(Ljava/lang/String;)Z"⟩, 10), (⟨"DanceStillOwed$Reader", "pass", "(I)Z"⟩, 10), (⟨"DanceStillOwed$Reader", "either", "()Z"⟩, 10), (⟨"DanceStillOwed$Reader", "both", "()Z"⟩, 10), (⟨"DanceStillOwed$Reader", "denied", "()Z"⟩, 10), (⟨"DanceStillOwed$Reader", "compared", "()Z"⟩, 10), (⟨"DanceStillOwed$Reader", "sum", "()Z"⟩, 10), (⟨"DanceStillOwed$Reader", "term", "()Z"⟩, 10), (⟨"DanceStillOwed$Reader", "one", "()Z"⟩, 10)]
theorem lw_r1 : ∀ q ∈ lw_privs_1, lw_okq q := List.forall_mem_cons.mpr ⟨lw_p0, List.forall_mem_cons.mpr ⟨lw_p1, List.forall_mem_cons.mpr ⟨lw_p2, List.forall_mem_cons.mpr ⟨lw_p3, List.forall_mem_cons.mpr ⟨lw_p4, List.forall_mem_cons.mpr ⟨lw_p5, List.forall_mem_cons.mpr ⟨lw_p6, List.forall_mem_cons.mpr ⟨lw_p7, List.forall_mem_cons.mpr ⟨lw_p8, List.forall_mem_cons.mpr ⟨lw_p9, List.forall_mem_cons.mpr ⟨lw_p10, List.forall_mem_cons.mpr ⟨lw_p11, List.forall_mem_cons.mpr ⟨lw_p12, List.forall_mem_cons.mpr ⟨lw_p13, List.forall_mem_cons.mpr ⟨lw_p14, List.forall_mem_cons.mpr ⟨lw_p15, fun _ h => absurd h List.not_mem_nil⟩⟩⟩⟩⟩⟩⟩⟩⟩⟩⟩⟩⟩⟩⟩⟩
theorem lw_p16 : lw_okq (⟨"DanceStillOwed$Reader", "put", "(I)Z"⟩, 10) := ⟨⟨by decide +kernel, by decide +kernel⟩, List.mem_of_getElem? (i := 120) (by decide +kernel), List.mem_of_getElem? (i := 474) (by decide +kernel), List.mem_of_getElem? (i := 475) (by decide +kernel)⟩
theorem lw_p17 : lw_okq (⟨"DanceStillOwed$Reader", "opens", "()Z"⟩, 10) := ⟨⟨by decide +kernel, by decide +kernel⟩, List.mem_of_getElem? (i := 120) (by decide +kernel), List.mem_of_getElem? (i := 478) (by decide +kernel), List.mem_of_getElem? (i := 479) (by decide +kernel)⟩
theorem lw_p18 : lw_okq (⟨"DanceStillOwed$Floor", "settle", "(IIII)V"⟩, 13) := ⟨⟨by decide +kernel, by decide +kernel⟩, List.mem_of_getElem? (i := 62) (by decide +kernel), List.mem_of_getElem? (i := 512) (by decide +kernel), List.mem_of_getElem? (i := 513) (by decide +kernel)⟩
theorem lw_p19 : lw_okq (⟨"DanceStillOwed", "readRing", "(I)I"⟩, 8) := ⟨⟨by decide +kernel, by decide +kernel⟩, List.mem_of_getElem? (i := 16) (by decide +kernel), List.mem_of_getElem? (i := 545) (by decide +kernel), List.mem_of_getElem? (i := 546) (by decide +kernel)⟩
theorem lw_p20 : lw_okq (⟨"DanceStillOwed", "think", "()LDanceStillOwed$Floor;"⟩, 8) := ⟨⟨by decide +kernel, by decide +kernel⟩, List.mem_of_getElem? (i := 16) (by decide +kernel), List.mem_of_getElem? (i := 555) (by decide +kernel), List.mem_of_getElem? (i := 556) (by decide +kernel)⟩
theorem lw_p21 : lw_okq (⟨"DanceStillOwed", "sitters", "()I"⟩, 8) := ⟨⟨by decide +kernel, by decide +kernel⟩, List.mem_of_getElem? (i := 16) (by decide +kernel), List.mem_of_getElem? (i := 596) (by decide +kernel), List.mem_of_getElem? (i := 597) (by decide +kernel)⟩
theorem lw_p22 : lw_okq (⟨"DanceStillOwed", "soonest", "()I"⟩, 8) := ⟨⟨by decide +kernel, by decide +kernel⟩, List.mem_of_getElem? (i := 16) (by decide +kernel), List.mem_of_getElem? (i := 600) (by decide +kernel), List.mem_of_getElem? (i := 601) (by decide +kernel)⟩
theorem lw_p23 : lw_okq (⟨"DanceStillOwed", "clears", "(II)Z"⟩, 8) := ⟨⟨by decide +kernel, by decide +kernel⟩, List.mem_of_getElem? (i := 16) (by decide +kernel), List.mem_of_getElem? (i := 604) (by decide +kernel), List.mem_of_getElem? (i := 605) (by decide +kernel)⟩
theorem lw_p24 : lw_okq (⟨"DanceStillOwed$Floor", "longest", "(IIII)I"⟩, 13) := ⟨⟨by decide +kernel, by decide +kernel⟩, List.mem_of_getElem? (i := 62) (by decide +kernel), List.mem_of_getElem? (i := 627) (by decide +kernel), List.mem_of_getElem? (i := 628) (by decide +kernel)⟩
theorem lw_p25 : lw_okq (⟨"DanceStillOwed", "kindsTold", "(LDanceStillOwed$Sheet;I)I"⟩, 8) := ⟨⟨by decide +kernel, by decide +kernel⟩, List.mem_of_getElem? (i := 16) (by decide +kernel), List.mem_of_getElem? (i := 659) (by decide +kernel), List.mem_of_getElem? (i := 660) (by decide +kernel)⟩
theorem lw_p26 : lw_okq (⟨"DanceStillOwed", "numbersTold", "(LDanceStillOwed$Sheet;I)I"⟩, 8) := ⟨⟨by decide +kernel, by decide +kernel⟩, List.mem_of_getElem? (i := 16) (by decide +kernel), List.mem_of_getElem? (i := 668) (by decide +kernel), List.mem_of_getElem? (i := 669) (by decide +kernel)⟩
theorem lw_p27 : lw_okq (⟨"DanceStillOwed", "roundsTold", "(LDanceStillOwed$Sheet;IZ)I"⟩, 8) := ⟨⟨by decide +kernel, by decide +kernel⟩, List.mem_of_getElem? (i := 16) (by decide +kernel), List.mem_of_getElem? (i := 672) (by decide +kernel), List.mem_of_getElem? (i := 673) (by decide +kernel)⟩
theorem lw_p28 : lw_okq (⟨"DanceStillOwed", "donesTold", "(LDanceStillOwed$Sheet;IZ)I"⟩, 8) := ⟨⟨by decide +kernel, by decide +kernel⟩, List.mem_of_getElem? (i := 16) (by decide +kernel), List.mem_of_getElem? (i := 676) (by decide +kernel), List.mem_of_getElem? (i := 677) (by decide +kernel)⟩
theorem lw_p29 : lw_okq (⟨"DanceStillOwed", "textsTold", "(LDanceStillOwed$Sheet;I)I"⟩, 8) := ⟨⟨by decide +kernel, by decide +kernel⟩, List.mem_of_getElem? (i := 16) (by decide +kernel), List.mem_of_getElem? (i := 680) (by decide +kernel), List.mem_of_getElem? (i := 681) (by decide +kernel)⟩
theorem lw_p30 : lw_okq (⟨"DanceStillOwed", "dancersTold", "(LDanceStillOwed$Sheet;I)I"⟩, 8) := ⟨⟨by decide +kernel, by decide +kernel⟩, List.mem_of_getElem? (i := 16) (by decide +kernel), List.mem_of_getElem? (i := 684) (by decide +kernel), List.mem_of_getElem? (i := 685) (by decide +kernel)⟩
theorem lw_p31 : lw_okq (⟨"DanceStillOwedModel", "spell", "(IIIIIIIII)V"⟩, 45) := ⟨⟨by decide +kernel, by decide +kernel⟩, List.mem_of_getElem? (i := 756) (by decide +kernel), List.mem_of_getElem? (i := 768) (by decide +kernel), List.mem_of_getElem? (i := 769) (by decide +kernel)⟩
def lw_privs_2 : List (MethodName × Nat) := [(⟨"DanceStillOwed$Reader", "put", "(I)Z"⟩, 10), (⟨"DanceStillOwed$Reader", "opens", "()Z"⟩, 10), (⟨"DanceStillOwed$Floor", "settle", "(IIII)V"⟩, 13), (⟨"DanceStillOwed", "readRing", "(I)I"⟩, 8), (⟨"DanceStillOwed", "think", "()LDanceStillOwed$Floor;"⟩, 8), (⟨"DanceStillOwed", "sitters", "()I"⟩, 8), (⟨"DanceStillOwed", "soonest", "()I"⟩, 8), (⟨"DanceStillOwed", "clears", "(II)Z"⟩, 8), (⟨"DanceStillOwed$Floor", "longest", "(IIII)I"⟩, 13), (⟨"DanceStillOwed", "kindsTold", "(LDanceStillOwed$Sheet;I)I"⟩, 8), (⟨"DanceStillOwed", "numbersTold", "(LDanceStillOwed$Sheet;I)I"⟩, 8), (⟨"DanceStillOwed", "roundsTold", "(LDanceStillOwed$Sheet;IZ)I"⟩, 8), (⟨"DanceStillOwed", "donesTold", "(LDanceStillOwed$Sheet;IZ)I"⟩, 8), (⟨"DanceStillOwed", "textsTold", "(LDanceStillOwed$Sheet;I)I"⟩, 8), (⟨"DanceStillOwed", "dancersTold", "(LDanceStillOwed$Sheet;I)I"⟩, 8), (⟨"DanceStillOwedModel", "spell", "(IIIIIIIII)V"⟩, 45)]
theorem lw_r2 : ∀ q ∈ lw_privs_2, lw_okq q := List.forall_mem_cons.mpr ⟨lw_p16, List.forall_mem_cons.mpr ⟨lw_p17, List.forall_mem_cons.mpr ⟨lw_p18, List.forall_mem_cons.mpr ⟨lw_p19, List.forall_mem_cons.mpr ⟨lw_p20, List.forall_mem_cons.mpr ⟨lw_p21, List.forall_mem_cons.mpr ⟨lw_p22, List.forall_mem_cons.mpr ⟨lw_p23, List.forall_mem_cons.mpr ⟨lw_p24, List.forall_mem_cons.mpr ⟨lw_p25, List.forall_mem_cons.mpr ⟨lw_p26, List.forall_mem_cons.mpr ⟨lw_p27, List.forall_mem_cons.mpr ⟨lw_p28, List.forall_mem_cons.mpr ⟨lw_p29, List.forall_mem_cons.mpr ⟨lw_p30, List.forall_mem_cons.mpr ⟨lw_p31, fun _ h => absurd h List.not_mem_nil⟩⟩⟩⟩⟩⟩⟩⟩⟩⟩⟩⟩⟩⟩⟩⟩
theorem lw_p32 : lw_okq (⟨"DanceStillOwedModel", "isOf", "(II)Z"⟩, 45) := ⟨⟨by decide +kernel, by decide +kernel⟩, List.mem_of_getElem? (i := 756) (by decide +kernel), List.mem_of_getElem? (i := 916) (by decide +kernel), List.mem_of_getElem? (i := 917) (by decide +kernel)⟩
theorem lw_p33 : lw_okq (⟨"DanceStillOwedModel", "areTwo", "(II)Z"⟩, 45) := ⟨⟨by decide +kernel, by decide +kernel⟩, List.mem_of_getElem? (i := 756) (by decide +kernel), List.mem_of_getElem? (i := 920) (by decide +kernel), List.mem_of_getElem? (i := 921) (by decide +kernel)⟩
theorem lw_p34 : lw_okq (⟨"DanceStillOwedModel", "isOne", "(I)Z"⟩, 45) := ⟨⟨by decide +kernel, by decide +kernel⟩, List.mem_of_getElem? (i := 756) (by decide +kernel), List.mem_of_getElem? (i := 924) (by decide +kernel), List.mem_of_getElem? (i := 925) (by decide +kernel)⟩
theorem lw_p35 : lw_okq (⟨"DanceStillOwedModel", "breathOf", "(I)I"⟩, 45) := ⟨⟨by decide +kernel, by decide +kernel⟩, List.mem_of_getElem? (i := 756) (by decide +kernel), List.mem_of_getElem? (i := 939) (by decide +kernel), List.mem_of_getElem? (i := 940) (by decide +kernel)⟩
theorem lw_p36 : lw_okq (⟨"DanceStillOwedModel", "says", "(III)I"⟩, 45) := ⟨⟨by decide +kernel, by decide +kernel⟩, List.mem_of_getElem? (i := 756) (by decide +kernel), List.mem_of_getElem? (i := 943) (by decide +kernel), List.mem_of_getElem? (i := 944) (by decide +kernel)⟩
theorem lw_p37 : lw_okq (⟨"DanceStillOwedModel", "owedTo", "(I)I"⟩, 45) := ⟨⟨by decide +kernel, by decide +kernel⟩, List.mem_of_getElem? (i := 756) (by decide +kernel), List.mem_of_getElem? (i := 947) (by decide +kernel), List.mem_of_getElem? (i := 948) (by decide +kernel)⟩
theorem lw_p38 : lw_okq (⟨"DanceStillOwedModel", "debtOf", "(II)I"⟩, 45) := ⟨⟨by decide +kernel, by decide +kernel⟩, List.mem_of_getElem? (i := 756) (by decide +kernel), List.mem_of_getElem? (i := 951) (by decide +kernel), List.mem_of_getElem? (i := 952) (by decide +kernel)⟩
theorem lw_p39 : lw_okq (⟨"DanceStillOwedModel", "read", "(II)I"⟩, 45) := ⟨⟨by decide +kernel, by decide +kernel⟩, List.mem_of_getElem? (i := 756) (by decide +kernel), List.mem_of_getElem? (i := 955) (by decide +kernel), List.mem_of_getElem? (i := 956) (by decide +kernel)⟩
theorem lw_p40 : lw_okq (⟨"DanceStillOwedModel", "next", "()V"⟩, 45) := ⟨⟨by decide +kernel, by decide +kernel⟩, List.mem_of_getElem? (i := 756) (by decide +kernel), List.mem_of_getElem? (i := 959) (by decide +kernel), List.mem_of_getElem? (i := 960) (by decide +kernel)⟩
theorem lw_p41 : lw_okq (⟨"DanceStillOwedModel", "byteAt", "(I)I"⟩, 45) := ⟨⟨by decide +kernel, by decide +kernel⟩, List.mem_of_getElem? (i := 756) (by decide +kernel), List.mem_of_getElem? (i := 963) (by decide +kernel), List.mem_of_getElem? (i := 964) (by decide +kernel)⟩
theorem lw_p42 : lw_okq (⟨"DanceStillOwedModel", "isWord", "(IIIIIIII)Z"⟩, 45) := ⟨⟨by decide +kernel, by decide +kernel⟩, List.mem_of_getElem? (i := 756) (by decide +kernel), List.mem_of_getElem? (i := 972) (by decide +kernel), List.mem_of_getElem? (i := 973) (by decide +kernel)⟩
theorem lw_p43 : lw_okq (⟨"DanceStillOwedModel", "isLetter", "(II)Z"⟩, 45) := ⟨⟨by decide +kernel, by decide +kernel⟩, List.mem_of_getElem? (i := 756) (by decide +kernel), List.mem_of_getElem? (i := 976) (by decide +kernel), List.mem_of_getElem? (i := 977) (by decide +kernel)⟩
theorem lw_p44 : lw_okq (⟨"DanceStillOwedModel", "part", "(Z)I"⟩, 45) := ⟨⟨by decide +kernel, by decide +kernel⟩, List.mem_of_getElem? (i := 756) (by decide +kernel), List.mem_of_getElem? (i := 980) (by decide +kernel), List.mem_of_getElem? (i := 981) (by decide +kernel)⟩
theorem lw_p45 : lw_okq (⟨"DanceStillOwedModel", "fail", "()V"⟩, 45) := ⟨⟨by decide +kernel, by decide +kernel⟩, List.mem_of_getElem? (i := 756) (by decide +kernel), List.mem_of_getElem? (i := 984) (by decide +kernel), List.mem_of_getElem? (i := 985) (by decide +kernel)⟩
theorem lw_p46 : lw_okq (⟨"DanceStillOwedModel", "either", "()I"⟩, 45) := ⟨⟨by decide +kernel, by decide +kernel⟩, List.mem_of_getElem? (i := 756) (by decide +kernel), List.mem_of_getElem? (i := 988) (by decide +kernel), List.mem_of_getElem? (i := 989) (by decide +kernel)⟩
theorem lw_p47 : lw_okq (⟨"DanceStillOwedModel", "both", "()I"⟩, 45) := ⟨⟨by decide +kernel, by decide +kernel⟩, List.mem_of_getElem? (i := 756) (by decide +kernel), List.mem_of_getElem? (i := 992) (by decide +kernel), List.mem_of_getElem? (i := 993) (by decide +kernel)⟩
def lw_privs_3 : List (MethodName × Nat) := [(⟨"DanceStillOwedModel", "isOf", "(II)Z"⟩, 45), (⟨"DanceStillOwedModel", "areTwo", "(II)Z"⟩, 45), (⟨"DanceStillOwedModel", "isOne", "(I)Z"⟩, 45), (⟨"DanceStillOwedModel", "breathOf", "(I)I"⟩, 45), (⟨"DanceStillOwedModel", "says", "(III)I"⟩, 45), (⟨"DanceStillOwedModel", "owedTo", "(I)I"⟩, 45), (⟨"DanceStillOwedModel", "debtOf", "(II)I"⟩, 45), (⟨"DanceStillOwedModel", "read", "(II)I"⟩, 45), (⟨"DanceStillOwedModel", "next", "()V"⟩, 45), (⟨"DanceStillOwedModel", "byteAt", "(I)I"⟩, 45), (⟨"DanceStillOwedModel", "isWord", "(IIIIIIII)Z"⟩, 45), (⟨"DanceStillOwedModel", "isLetter", "(II)Z"⟩, 45), (⟨"DanceStillOwedModel", "part", "(Z)I"⟩, 45), (⟨"DanceStillOwedModel", "fail", "()V"⟩, 45), (⟨"DanceStillOwedModel", "either", "()I"⟩, 45), (⟨"DanceStillOwedModel", "both", "()I"⟩, 45)]
theorem lw_r3 : ∀ q ∈ lw_privs_3, lw_okq q := List.forall_mem_cons.mpr ⟨lw_p32, List.forall_mem_cons.mpr ⟨lw_p33, List.forall_mem_cons.mpr ⟨lw_p34, List.forall_mem_cons.mpr ⟨lw_p35, List.forall_mem_cons.mpr ⟨lw_p36, List.forall_mem_cons.mpr ⟨lw_p37, List.forall_mem_cons.mpr ⟨lw_p38, List.forall_mem_cons.mpr ⟨lw_p39, List.forall_mem_cons.mpr ⟨lw_p40, List.forall_mem_cons.mpr ⟨lw_p41, List.forall_mem_cons.mpr ⟨lw_p42, List.forall_mem_cons.mpr ⟨lw_p43, List.forall_mem_cons.mpr ⟨lw_p44, List.forall_mem_cons.mpr ⟨lw_p45, List.forall_mem_cons.mpr ⟨lw_p46, List.forall_mem_cons.mpr ⟨lw_p47, fun _ h => absurd h List.not_mem_nil⟩⟩⟩⟩⟩⟩⟩⟩⟩⟩⟩⟩⟩⟩⟩⟩
theorem lw_p48 : lw_okq (⟨"DanceStillOwedModel", "not", "()I"⟩, 45) := ⟨⟨by decide +kernel, by decide +kernel⟩, List.mem_of_getElem? (i := 756) (by decide +kernel), List.mem_of_getElem? (i := 996) (by decide +kernel), List.mem_of_getElem? (i := 997) (by decide +kernel)⟩
theorem lw_p49 : lw_okq (⟨"DanceStillOwedModel", "opens", "()Z"⟩, 45) := ⟨⟨by decide +kernel, by decide +kernel⟩, List.mem_of_getElem? (i := 756) (by decide +kernel), List.mem_of_getElem? (i := 1000) (by decide +kernel), List.mem_of_getElem? (i := 1001) (by decide +kernel)⟩
theorem lw_p50 : lw_okq (⟨"DanceStillOwedModel", "added", "()I"⟩, 45) := ⟨⟨by decide +kernel, by decide +kernel⟩, List.mem_of_getElem? (i := 756) (by decide +kernel), List.mem_of_getElem? (i := 1004) (by decide +kernel), List.mem_of_getElem? (i := 1005) (by decide +kernel)⟩
theorem lw_p51 : lw_okq (⟨"DanceStillOwedModel", "term", "()I"⟩, 45) := ⟨⟨by decide +kernel, by decide +kernel⟩, List.mem_of_getElem? (i := 756) (by decide +kernel), List.mem_of_getElem? (i := 1008) (by decide +kernel), List.mem_of_getElem? (i := 1009) (by decide +kernel)⟩
theorem lw_p52 : lw_okq (⟨"DanceStillOwedModel", "atom", "()I"⟩, 45) := ⟨⟨by decide +kernel, by decide +kernel⟩, List.mem_of_getElem? (i := 756) (by decide +kernel), List.mem_of_getElem? (i := 1012) (by decide +kernel), List.mem_of_getElem? (i := 1013) (by decide +kernel)⟩
theorem lw_p53 : lw_okq (⟨"DanceStillOwedModel", "isSign", "(I)Z"⟩, 45) := ⟨⟨by decide +kernel, by decide +kernel⟩, List.mem_of_getElem? (i := 756) (by decide +kernel), List.mem_of_getElem? (i := 1016) (by decide +kernel), List.mem_of_getElem? (i := 1017) (by decide +kernel)⟩
theorem lw_p54 : lw_okq (⟨"DanceStillOwedModel", "name", "()I"⟩, 45) := ⟨⟨by decide +kernel, by decide +kernel⟩, List.mem_of_getElem? (i := 756) (by decide +kernel), List.mem_of_getElem? (i := 1020) (by decide +kernel), List.mem_of_getElem? (i := 1021) (by decide +kernel)⟩
theorem lw_p55 : lw_okq (⟨"DanceStillOwedModel", "owesOf", "(I)I"⟩, 45) := ⟨⟨by decide +kernel, by decide +kernel⟩, List.mem_of_getElem? (i := 756) (by decide +kernel), List.mem_of_getElem? (i := 1029) (by decide +kernel), List.mem_of_getElem? (i := 1030) (by decide +kernel)⟩
theorem lw_p56 : lw_okq (⟨"DanceStillOwedModel", "lays", "(III)V"⟩, 45) := ⟨⟨by decide +kernel, by decide +kernel⟩, List.mem_of_getElem? (i := 756) (by decide +kernel), List.mem_of_getElem? (i := 1033) (by decide +kernel), List.mem_of_getElem? (i := 1034) (by decide +kernel)⟩
theorem lw_p57 : lw_okq (⟨"DanceStillOwedModel", "paysOf", "(II)I"⟩, 45) := ⟨⟨by decide +kernel, by decide +kernel⟩, List.mem_of_getElem? (i := 756) (by decide +kernel), List.mem_of_getElem? (i := 1062) (by decide +kernel), List.mem_of_getElem? (i := 1063) (by decide +kernel)⟩
theorem lw_p58 : lw_okq (⟨"DanceStillOwedModel", "willOf", "(II)Z"⟩, 45) := ⟨⟨by decide +kernel, by decide +kernel⟩, List.mem_of_getElem? (i := 756) (by decide +kernel), List.mem_of_getElem? (i := 1066) (by decide +kernel), List.mem_of_getElem? (i := 1067) (by decide +kernel)⟩
theorem lw_p59 : lw_okq (⟨"DanceStillOwedModel", "mayDance", "(II)Z"⟩, 45) := ⟨⟨by decide +kernel, by decide +kernel⟩, List.mem_of_getElem? (i := 756) (by decide +kernel), List.mem_of_getElem? (i := 1070) (by decide +kernel), List.mem_of_getElem? (i := 1071) (by decide +kernel)⟩
theorem lw_p60 : lw_okq (⟨"DanceStillOwedModel", "hasBreath", "(I)Z"⟩, 45) := ⟨⟨by decide +kernel, by decide +kernel⟩, List.mem_of_getElem? (i := 756) (by decide +kernel), List.mem_of_getElem? (i := 1074) (by decide +kernel), List.mem_of_getElem? (i := 1075) (by decide +kernel)⟩
theorem lw_p61 : lw_okq (⟨"DanceStillOwedModel", "danceBoth", "(II)I"⟩, 45) := ⟨⟨by decide +kernel, by decide +kernel⟩, List.mem_of_getElem? (i := 756) (by decide +kernel), List.mem_of_getElem? (i := 1082) (by decide +kernel), List.mem_of_getElem? (i := 1083) (by decide +kernel)⟩
theorem lw_p62 : lw_okq (⟨"DanceStillOwedModel", "dances", "(I)V"⟩, 45) := ⟨⟨by decide +kernel, by decide +kernel⟩, List.mem_of_getElem? (i := 756) (by decide +kernel), List.mem_of_getElem? (i := 1086) (by decide +kernel), List.mem_of_getElem? (i := 1087) (by decide +kernel)⟩
theorem lw_p63 : lw_okq (⟨"DanceStillOwedModel", "passes", "()I"⟩, 45) := ⟨⟨by decide +kernel, by decide +kernel⟩, List.mem_of_getElem? (i := 756) (by decide +kernel), List.mem_of_getElem? (i := 1094) (by decide +kernel), List.mem_of_getElem? (i := 1095) (by decide +kernel)⟩
def lw_privs_4 : List (MethodName × Nat) := [(⟨"DanceStillOwedModel", "not", "()I"⟩, 45), (⟨"DanceStillOwedModel", "opens", "()Z"⟩, 45), (⟨"DanceStillOwedModel", "added", "()I"⟩, 45), (⟨"DanceStillOwedModel", "term", "()I"⟩, 45), (⟨"DanceStillOwedModel", "atom", "()I"⟩, 45), (⟨"DanceStillOwedModel", "isSign", "(I)Z"⟩, 45), (⟨"DanceStillOwedModel", "name", "()I"⟩, 45), (⟨"DanceStillOwedModel", "owesOf", "(I)I"⟩, 45), (⟨"DanceStillOwedModel", "lays", "(III)V"⟩, 45), (⟨"DanceStillOwedModel", "paysOf", "(II)I"⟩, 45), (⟨"DanceStillOwedModel", "willOf", "(II)Z"⟩, 45), (⟨"DanceStillOwedModel", "mayDance", "(II)Z"⟩, 45), (⟨"DanceStillOwedModel", "hasBreath", "(I)Z"⟩, 45), (⟨"DanceStillOwedModel", "danceBoth", "(II)I"⟩, 45), (⟨"DanceStillOwedModel", "dances", "(I)V"⟩, 45), (⟨"DanceStillOwedModel", "passes", "()I"⟩, 45)]
theorem lw_r4 : ∀ q ∈ lw_privs_4, lw_okq q := List.forall_mem_cons.mpr ⟨lw_p48, List.forall_mem_cons.mpr ⟨lw_p49, List.forall_mem_cons.mpr ⟨lw_p50, List.forall_mem_cons.mpr ⟨lw_p51, List.forall_mem_cons.mpr ⟨lw_p52, List.forall_mem_cons.mpr ⟨lw_p53, List.forall_mem_cons.mpr ⟨lw_p54, List.forall_mem_cons.mpr ⟨lw_p55, List.forall_mem_cons.mpr ⟨lw_p56, List.forall_mem_cons.mpr ⟨lw_p57, List.forall_mem_cons.mpr ⟨lw_p58, List.forall_mem_cons.mpr ⟨lw_p59, List.forall_mem_cons.mpr ⟨lw_p60, List.forall_mem_cons.mpr ⟨lw_p61, List.forall_mem_cons.mpr ⟨lw_p62, List.forall_mem_cons.mpr ⟨lw_p63, fun _ h => absurd h List.not_mem_nil⟩⟩⟩⟩⟩⟩⟩⟩⟩⟩⟩⟩⟩⟩⟩⟩
theorem lw_p64 : lw_okq (⟨"DanceStillOwedModel", "ringOf", "(I)I"⟩, 45) := ⟨⟨by decide +kernel, by decide +kernel⟩, List.mem_of_getElem? (i := 756) (by decide +kernel), List.mem_of_getElem? (i := 1106) (by decide +kernel), List.mem_of_getElem? (i := 1107) (by decide +kernel)⟩
theorem lw_p65 : lw_okq (⟨"DanceStillOwedModel", "laysAside", "()V"⟩, 45) := ⟨⟨by decide +kernel, by decide +kernel⟩, List.mem_of_getElem? (i := 756) (by decide +kernel), List.mem_of_getElem? (i := 1116) (by decide +kernel), List.mem_of_getElem? (i := 1117) (by decide +kernel)⟩
theorem lw_p66 : lw_okq (⟨"DanceStillOwedModel", "owedAll", "()I"⟩, 45) := ⟨⟨by decide +kernel, by decide +kernel⟩, List.mem_of_getElem? (i := 756) (by decide +kernel), List.mem_of_getElem? (i := 1120) (by decide +kernel), List.mem_of_getElem? (i := 1121) (by decide +kernel)⟩
theorem lw_p67 : lw_okq (⟨"DanceStillOwedModel", "owedSet", "()I"⟩, 45) := ⟨⟨by decide +kernel, by decide +kernel⟩, List.mem_of_getElem? (i := 756) (by decide +kernel), List.mem_of_getElem? (i := 1124) (by decide +kernel), List.mem_of_getElem? (i := 1125) (by decide +kernel)⟩
theorem lw_p68 : lw_okq (⟨"DanceStillOwedModel", "laysBack", "()V"⟩, 45) := ⟨⟨by decide +kernel, by decide +kernel⟩, List.mem_of_getElem? (i := 756) (by decide +kernel), List.mem_of_getElem? (i := 1128) (by decide +kernel), List.mem_of_getElem? (i := 1129) (by decide +kernel)⟩
theorem lw_p69 : lw_okq (⟨"DanceStillOwedModel", "bestSet", "(I)I"⟩, 45) := ⟨⟨by decide +kernel, by decide +kernel⟩, List.mem_of_getElem? (i := 756) (by decide +kernel), List.mem_of_getElem? (i := 1136) (by decide +kernel), List.mem_of_getElem? (i := 1137) (by decide +kernel)⟩
theorem lw_p70 : lw_okq (⟨"DanceStillOwedModel", "isSet", "(I)Z"⟩, 45) := ⟨⟨by decide +kernel, by decide +kernel⟩, List.mem_of_getElem? (i := 756) (by decide +kernel), List.mem_of_getElem? (i := 1140) (by decide +kernel), List.mem_of_getElem? (i := 1141) (by decide +kernel)⟩
theorem lw_p71 : lw_okq (⟨"DanceStillOwedModel", "dancesOf", "(I)I"⟩, 45) := ⟨⟨by decide +kernel, by decide +kernel⟩, List.mem_of_getElem? (i := 756) (by decide +kernel), List.mem_of_getElem? (i := 1150) (by decide +kernel), List.mem_of_getElem? (i := 1151) (by decide +kernel)⟩
theorem lw_p72 : lw_okq (⟨"DanceStillOwedModel", "nextRound", "(I)I"⟩, 45) := ⟨⟨by decide +kernel, by decide +kernel⟩, List.mem_of_getElem? (i := 756) (by decide +kernel), List.mem_of_getElem? (i := 1154) (by decide +kernel), List.mem_of_getElem? (i := 1155) (by decide +kernel)⟩
theorem lw_p73 : lw_okq (⟨"DanceStillOwedModel", "soonest", "()I"⟩, 45) := ⟨⟨by decide +kernel, by decide +kernel⟩, List.mem_of_getElem? (i := 756) (by decide +kernel), List.mem_of_getElem? (i := 1158) (by decide +kernel), List.mem_of_getElem? (i := 1159) (by decide +kernel)⟩
theorem lw_p74 : lw_okq (⟨"DanceStillOwedModel", "isPaidBy", "(I)Z"⟩, 45) := ⟨⟨by decide +kernel, by decide +kernel⟩, List.mem_of_getElem? (i := 756) (by decide +kernel), List.mem_of_getElem? (i := 1162) (by decide +kernel), List.mem_of_getElem? (i := 1163) (by decide +kernel)⟩
theorem lw_p75 : lw_okq (⟨"DanceStillOwedModel", "leastOwed", "()I"⟩, 45) := ⟨⟨by decide +kernel, by decide +kernel⟩, List.mem_of_getElem? (i := 756) (by decide +kernel), List.mem_of_getElem? (i := 1166) (by decide +kernel), List.mem_of_getElem? (i := 1167) (by decide +kernel)⟩
theorem lw_p76 : lw_okq (⟨"DanceStillOwedModel", "longestRing", "()I"⟩, 45) := ⟨⟨by decide +kernel, by decide +kernel⟩, List.mem_of_getElem? (i := 756) (by decide +kernel), List.mem_of_getElem? (i := 1171) (by decide +kernel), List.mem_of_getElem? (i := 1172) (by decide +kernel)⟩
theorem lw_p77 : lw_okq (⟨"DanceStillOwedModel", "ringFrom", "(IIII)I"⟩, 45) := ⟨⟨by decide +kernel, by decide +kernel⟩, List.mem_of_getElem? (i := 756) (by decide +kernel), List.mem_of_getElem? (i := 1175) (by decide +kernel), List.mem_of_getElem? (i := 1176) (by decide +kernel)⟩
theorem lw_p78 : lw_okq (⟨"DanceStillOwedModel", "ends", "()I"⟩, 45) := ⟨⟨by decide +kernel, by decide +kernel⟩, List.mem_of_getElem? (i := 756) (by decide +kernel), List.mem_of_getElem? (i := 1179) (by decide +kernel), List.mem_of_getElem? (i := 1180) (by decide +kernel)⟩
theorem lw_p79 : lw_okq (⟨"DanceStillOwedModel", "keeper", "()I"⟩, 45) := ⟨⟨by decide +kernel, by decide +kernel⟩, List.mem_of_getElem? (i := 756) (by decide +kernel), List.mem_of_getElem? (i := 1183) (by decide +kernel), List.mem_of_getElem? (i := 1184) (by decide +kernel)⟩
def lw_privs_5 : List (MethodName × Nat) := [(⟨"DanceStillOwedModel", "ringOf", "(I)I"⟩, 45), (⟨"DanceStillOwedModel", "laysAside", "()V"⟩, 45), (⟨"DanceStillOwedModel", "owedAll", "()I"⟩, 45), (⟨"DanceStillOwedModel", "owedSet", "()I"⟩, 45), (⟨"DanceStillOwedModel", "laysBack", "()V"⟩, 45), (⟨"DanceStillOwedModel", "bestSet", "(I)I"⟩, 45), (⟨"DanceStillOwedModel", "isSet", "(I)Z"⟩, 45), (⟨"DanceStillOwedModel", "dancesOf", "(I)I"⟩, 45), (⟨"DanceStillOwedModel", "nextRound", "(I)I"⟩, 45), (⟨"DanceStillOwedModel", "soonest", "()I"⟩, 45), (⟨"DanceStillOwedModel", "isPaidBy", "(I)Z"⟩, 45), (⟨"DanceStillOwedModel", "leastOwed", "()I"⟩, 45), (⟨"DanceStillOwedModel", "longestRing", "()I"⟩, 45), (⟨"DanceStillOwedModel", "ringFrom", "(IIII)I"⟩, 45), (⟨"DanceStillOwedModel", "ends", "()I"⟩, 45), (⟨"DanceStillOwedModel", "keeper", "()I"⟩, 45)]
theorem lw_r5 : ∀ q ∈ lw_privs_5, lw_okq q := List.forall_mem_cons.mpr ⟨lw_p64, List.forall_mem_cons.mpr ⟨lw_p65, List.forall_mem_cons.mpr ⟨lw_p66, List.forall_mem_cons.mpr ⟨lw_p67, List.forall_mem_cons.mpr ⟨lw_p68, List.forall_mem_cons.mpr ⟨lw_p69, List.forall_mem_cons.mpr ⟨lw_p70, List.forall_mem_cons.mpr ⟨lw_p71, List.forall_mem_cons.mpr ⟨lw_p72, List.forall_mem_cons.mpr ⟨lw_p73, List.forall_mem_cons.mpr ⟨lw_p74, List.forall_mem_cons.mpr ⟨lw_p75, List.forall_mem_cons.mpr ⟨lw_p76, List.forall_mem_cons.mpr ⟨lw_p77, List.forall_mem_cons.mpr ⟨lw_p78, List.forall_mem_cons.mpr ⟨lw_p79, fun _ h => absurd h List.not_mem_nil⟩⟩⟩⟩⟩⟩⟩⟩⟩⟩⟩⟩⟩⟩⟩⟩
theorem lw_p80 : lw_okq (⟨"DanceStillOwedModel", "firstOther", "(II)I"⟩, 45) := ⟨⟨by decide +kernel, by decide +kernel⟩, List.mem_of_getElem? (i := 756) (by decide +kernel), List.mem_of_getElem? (i := 1203) (by decide +kernel), List.mem_of_getElem? (i := 1204) (by decide +kernel)⟩
theorem lw_p81 : lw_okq (⟨"DanceStillOwedModel", "likeSet", "(II)I"⟩, 45) := ⟨⟨by decide +kernel, by decide +kernel⟩, List.mem_of_getElem? (i := 756) (by decide +kernel), List.mem_of_getElem? (i := 1207) (by decide +kernel), List.mem_of_getElem? (i := 1208) (by decide +kernel)⟩
theorem lw_p82 : lw_okq (⟨"DanceStillOwedModel", "endsDrawn", "(I)I"⟩, 45) := ⟨⟨by decide +kernel, by decide +kernel⟩, List.mem_of_getElem? (i := 756) (by decide +kernel), List.mem_of_getElem? (i := 1225) (by decide +kernel), List.mem_of_getElem? (i := 1226) (by decide +kernel)⟩
def lw_privs_6 : List (MethodName × Nat) := [(⟨"DanceStillOwedModel", "firstOther", "(II)I"⟩, 45), (⟨"DanceStillOwedModel", "likeSet", "(II)I"⟩, 45), (⟨"DanceStillOwedModel", "endsDrawn", "(I)I"⟩, 45)]
theorem lw_r6 : ∀ q ∈ lw_privs_6, lw_okq q := List.forall_mem_cons.mpr ⟨lw_p80, List.forall_mem_cons.mpr ⟨lw_p81, List.forall_mem_cons.mpr ⟨lw_p82, fun _ h => absurd h List.not_mem_nil⟩⟩⟩
def lw_privs : List (MethodName × Nat) := lw_privs_1 ++ (lw_privs_2 ++ (lw_privs_3 ++ (lw_privs_4 ++ (lw_privs_5 ++ (lw_privs_6)))))
def lw_tbl : List Cond := k2_sels lw_privs ++ tables_1
theorem lw_privs_ok : ∀ q ∈ lw_privs, lw_okq q := by
  show ∀ q ∈ lw_privs_1 ++ (lw_privs_2 ++ (lw_privs_3 ++ (lw_privs_4 ++ (lw_privs_5 ++ (lw_privs_6))))), lw_okq q
  exact List.forall_mem_append.mpr ⟨lw_r1, List.forall_mem_append.mpr ⟨lw_r2, List.forall_mem_append.mpr ⟨lw_r3, List.forall_mem_append.mpr ⟨lw_r4, List.forall_mem_append.mpr ⟨lw_r5, lw_r6⟩⟩⟩⟩⟩
-- ===== end of PART A; then your names; then what follows =====
theorem goodIn_r {big : List Cond} (ws : List Cond) (ps : List Nat) (hp : ws = ps.filterMap (fun i => big[i]?)) (h : ws.all goodWord = true) : GoodIn big ws := by
  intro w hw
  have h1 := List.all_eq_true.mp h w hw
  rw [hp] at hw
  obtain ⟨i, -, hi⟩ := List.mem_filterMap.mp hw
  have hm : w ∈ big := by first | exact List.mem_of_getElem? hi | exact List.getElem?_mem hi
  exact ⟨hm, good_of_word h1⟩
theorem goodIn_app {big a b : List Cond} (ha : GoodIn big a) (hb : GoodIn big b) : GoodIn big (a ++ b) := fun w h => (List.mem_append.mp h).elim (ha w) (hb w)
theorem goodIn_ca {big a b : List Cond} {c : Cond} (ha : GoodIn big (c :: a)) (hb : GoodIn big b) : GoodIn big (c :: (a ++ b)) := fun w h => (List.mem_cons.mp h).elim (fun e => ha w (List.mem_cons.mpr (Or.inl e))) (fun h => (List.mem_append.mp h).elim (fun h => ha w (List.mem_cons.mpr (Or.inr h))) (hb w))
theorem goodIn_sub {big ws : List Cond} (hm : ∀ w ∈ ws, w ∈ big) (h : ws.all goodWord = true) : GoodIn big ws := fun w hw => ⟨hm w hw, good_of_word (List.all_eq_true.mp h w hw)⟩
def RX0 : String := "DanceStillOwed$Floor"
def TX0 : u_T := fun k => match k with
  | 0 => ("DanceStillOwed$Floor", "rules", "LDanceStillOwed$Rules;", true)
  | 1 => ("DanceStillOwed$Floor", "dancers", "I", false)
  | 2 => ("DanceStillOwed$Floor", "round", "I", false)
  | 3 => ("DanceStillOwed$Floor", "night", "I", false)
  | 4 => ("DanceStillOwed$Floor", "rule", "I", false)
  | 5 => ("DanceStillOwed$Floor", "kind", "[I", true)
  | 6 => ("DanceStillOwed$Floor", "number", "[I", true)
  | 7 => ("DanceStillOwed$Floor", "done", "[I", true)
  | 8 => ("DanceStillOwed$Floor", "debt", "[I", true)
  | 9 => ("DanceStillOwed$Floor", "danced", "I", false)
  | 10 => ("DanceStillOwed$Floor", "mayDance", "I", false)
  | 11 => ("DanceStillOwed$Floor", "paidByLesser", "[I", true)
  | _ => ("DanceStillOwed$Floor", "paidByGreater", "[I", true)
def tyX0 : Nat → FieldType := fun k => match k with
  | 0 => .object "DanceStillOwed$Rules"
  | 1 => .int
  | 2 => .int
  | 3 => .int
  | 4 => .int
  | 5 => .array .int
  | 6 => .array .int
  | 7 => .array .int
  | 8 => .array .int
  | 9 => .int
  | 10 => .int
  | 11 => .array .int
  | _ => .array .int
abbrev wsX00 : List Cond := u_ws RX0 TX0 13
theorem nmX0 : ∀ a, a < 13 → ∀ b, b < 13 → a ≠ b → (TX0 a).2.1 ≠ (TX0 b).2.1 := by decide +kernel
theorem tyX0_ok : ∀ k, k < 13 → parseFieldDescriptor (TX0 k).2.2.1 = some (tyX0 k) := by decide +kernel
abbrev cX0_init : ByteArray := prog_2_method_1_code
def yX0_init : MethodName := ⟨RX0, "<init>", "(LDanceStillOwed$Rules;)V"⟩
abbrev cX0_takeFrom : ByteArray := prog_2_method_2_code
def yX0_takeFrom : MethodName := ⟨RX0, "takeFrom", "(LDanceStillOwed$Floor;)V"⟩
abbrev cX0_join : ByteArray := prog_2_method_3_code
def yX0_join : MethodName := ⟨RX0, "join", "(II)I"⟩
abbrev cX0_owing : ByteArray := prog_2_method_4_code
def yX0_owing : MethodName := ⟨RX0, "owing", "(II)I"⟩
abbrev cX0_owes : ByteArray := prog_2_method_5_code
def yX0_owes : MethodName := ⟨RX0, "owes", "(I)I"⟩
abbrev cX0_owedTo : ByteArray := prog_2_method_6_code
def yX0_owedTo : MethodName := ⟨RX0, "owedTo", "(I)I"⟩
abbrev cX0_all : ByteArray := prog_2_method_7_code
def yX0_all : MethodName := ⟨RX0, "all", "()I"⟩
abbrev cX0_value : ByteArray := prog_2_method_8_code
def yX0_value : MethodName := ⟨RX0, "value", "(III)I"⟩
abbrev cX0_pays : ByteArray := prog_2_method_9_code
def yX0_pays : MethodName := ⟨RX0, "pays", "(II)I"⟩
abbrev cX0_will : ByteArray := prog_2_method_10_code
def yX0_will : MethodName := ⟨RX0, "will", "(II)Z"⟩
abbrev cX0_breath : ByteArray := prog_2_method_11_code
def yX0_breath : MethodName := ⟨RX0, "breath", "(I)I"⟩
abbrev cX0_may : ByteArray := prog_2_method_12_code
def yX0_may : MethodName := ⟨RX0, "may", "(II)Z"⟩
abbrev cX0_step : ByteArray := prog_2_method_13_code
def yX0_step : MethodName := ⟨RX0, "step", "(II)I"⟩
abbrev cX0_lessen : ByteArray := prog_2_method_14_code
def yX0_lessen : MethodName := ⟨RX0, "lessen", "(III)V"⟩
abbrev cX0_settle : ByteArray := prog_2_method_15_code
def yX0_settle : MethodName := ⟨RX0, "settle", "(IIII)V"⟩
abbrev cX0_danceRound : ByteArray := prog_2_method_16_code
def yX0_danceRound : MethodName := ⟨RX0, "danceRound", "()I"⟩
abbrev cX0_endNight : ByteArray := prog_2_method_17_code
def yX0_endNight : MethodName := ⟨RX0, "endNight", "()I"⟩
abbrev cX0_ends : ByteArray := prog_2_method_18_code
def yX0_ends : MethodName := ⟨RX0, "ends", "()I"⟩
abbrev cX0_draw : ByteArray := prog_2_method_19_code
def yX0_draw : MethodName := ⟨RX0, "draw", "(I)V"⟩
abbrev cX0_stillOwed : ByteArray := prog_2_method_20_code
def yX0_stillOwed : MethodName := ⟨RX0, "stillOwed", "()I"⟩
abbrev cX0_keeps : ByteArray := prog_2_method_21_code
def yX0_keeps : MethodName := ⟨RX0, "keeps", "()I"⟩
abbrev cX0_least : ByteArray := prog_2_method_22_code
def yX0_least : MethodName := ⟨RX0, "least", "()I"⟩
abbrev cX0_ring : ByteArray := prog_2_method_23_code
def yX0_ring : MethodName := ⟨RX0, "ring", "()I"⟩
abbrev cX0_longest : ByteArray := prog_2_method_24_code
def yX0_longest : MethodName := ⟨RX0, "longest", "(IIII)I"⟩
abbrev cX0_mostToMeet : ByteArray := prog_2_method_25_code
def yX0_mostToMeet : MethodName := ⟨RX0, "mostToMeet", "()I"⟩
abbrev cX0_weigh : ByteArray := prog_2_method_26_code
def yX0_weigh : MethodName := ⟨RX0, "weigh", "()V"⟩
abbrev cX0_mayAll : ByteArray := prog_2_method_27_code
def yX0_mayAll : MethodName := ⟨RX0, "mayAll", "(I)Z"⟩
abbrev cX0_paidBy : ByteArray := prog_2_method_28_code
def yX0_paidBy : MethodName := ⟨RX0, "paidBy", "(I)I"⟩
abbrev cX0_bestSet : ByteArray := prog_2_method_29_code
def yX0_bestSet : MethodName := ⟨RX0, "bestSet", "()I"⟩
abbrev cX0_danceSet : ByteArray := prog_2_method_30_code
def yX0_danceSet : MethodName := ⟨RX0, "danceSet", "(ILDanceStillOwed$Floor;)V"⟩
abbrev cX0_firstOtherwise : ByteArray := prog_2_method_31_code
def yX0_firstOtherwise : MethodName := ⟨RX0, "firstOtherwise", "(LDanceStillOwed$Sheet;I)I"⟩
abbrev cX0_paysAs : ByteArray := prog_2_method_32_code
def yX0_paysAs : MethodName := ⟨RX0, "paysAs", "(LDanceStillOwed$Sheet;I)Z"⟩
def RX1 : String := "DanceStillOwed$Reader"
def TX1 : u_T := fun k => match k with
  | 0 => ("DanceStillOwed$Reader", "tape", "[I", true)
  | 1 => ("DanceStillOwed$Reader", "size", "I", false)
  | 2 => ("DanceStillOwed$Reader", "code", "[I", true)
  | 3 => ("DanceStillOwed$Reader", "used", "I", false)
  | 4 => ("DanceStillOwed$Reader", "ends", "[I", true)
  | 5 => ("DanceStillOwed$Reader", "at", "I", false)
  | 6 => ("DanceStillOwed$Reader", "token", "I", false)
  | 7 => ("DanceStillOwed$Reader", "number", "I", false)
  | 8 => ("DanceStillOwed$Reader", "begin", "I", false)
  | _ => ("DanceStillOwed$Reader", "open", "I", false)
def tyX1 : Nat → FieldType := fun k => match k with
  | 0 => .array .int
  | 1 => .int
  | 2 => .array .int
  | 3 => .int
  | 4 => .array .int
  | 5 => .int
  | 6 => .int
  | 7 => .int
  | 8 => .int
  | _ => .int
abbrev wsX10 : List Cond := u_ws RX1 TX1 10
theorem nmX1 : ∀ a, a < 10 → ∀ b, b < 10 → a ≠ b → (TX1 a).2.1 ≠ (TX1 b).2.1 := by decide +kernel
theorem tyX1_ok : ∀ k, k < 10 → parseFieldDescriptor (TX1 k).2.2.1 = some (tyX1 k) := by decide +kernel
abbrev cX1_init : ByteArray := prog_3_method_1_code
def yX1_init : MethodName := ⟨RX1, "<init>", "()V"⟩
abbrev cX1_hold : ByteArray := prog_3_method_2_code
def yX1_hold : MethodName := ⟨RX1, "hold", "(I)Z"⟩
abbrev cX1_read : ByteArray := prog_3_method_3_code
def yX1_read : MethodName := ⟨RX1, "read", "()LDanceStillOwed$Text;"⟩
abbrev cX1_pass : ByteArray := prog_3_method_4_code
def yX1_pass : MethodName := ⟨RX1, "pass", "(I)Z"⟩
abbrev cX1_put : ByteArray := prog_3_method_5_code
def yX1_put : MethodName := ⟨RX1, "put", "(I)Z"⟩
abbrev cX1_either : ByteArray := prog_3_method_6_code
def yX1_either : MethodName := ⟨RX1, "either", "()Z"⟩
abbrev cX1_both : ByteArray := prog_3_method_7_code
def yX1_both : MethodName := ⟨RX1, "both", "()Z"⟩
abbrev cX1_denied : ByteArray := prog_3_method_8_code
def yX1_denied : MethodName := ⟨RX1, "denied", "()Z"⟩
abbrev cX1_compared : ByteArray := prog_3_method_9_code
def yX1_compared : MethodName := ⟨RX1, "compared", "()Z"⟩
abbrev cX1_sum : ByteArray := prog_3_method_10_code
def yX1_sum : MethodName := ⟨RX1, "sum", "()Z"⟩
abbrev cX1_term : ByteArray := prog_3_method_11_code
def yX1_term : MethodName := ⟨RX1, "term", "()Z"⟩
abbrev cX1_one : ByteArray := prog_3_method_12_code
def yX1_one : MethodName := ⟨RX1, "one", "()Z"⟩
abbrev cX1_opens : ByteArray := prog_3_method_13_code
def yX1_opens : MethodName := ⟨RX1, "opens", "()Z"⟩
abbrev cX1_next : ByteArray := prog_3_method_14_code
def yX1_next : MethodName := ⟨RX1, "next", "()V"⟩
abbrev cX1_nextNumber : ByteArray := prog_3_method_15_code
def yX1_nextNumber : MethodName := ⟨RX1, "nextNumber", "()V"⟩
abbrev cX1_nextWord : ByteArray := prog_3_method_16_code
def yX1_nextWord : MethodName := ⟨RX1, "nextWord", "()V"⟩
abbrev cX1_spells : ByteArray := prog_3_method_17_code
def yX1_spells : MethodName := ⟨RX1, "spells", "(Ljava/lang/String;)Z"⟩
abbrev cX1_isDigit : ByteArray := prog_3_method_18_code
def yX1_isDigit : MethodName := ⟨RX1, "isDigit", "(I)Z"⟩
abbrev cX1_isLetter : ByteArray := prog_3_method_19_code
def yX1_isLetter : MethodName := ⟨RX1, "isLetter", "(I)Z"⟩
def RX2 : String := "DanceStillOwed$Rules"
def TX2 : u_T := fun k => match k with
  | 0 => ("DanceStillOwed$Rules", "texts", "[LDanceStillOwed$Text;", true)
  | 1 => ("DanceStillOwed$Rules", "count", "I", false)
  | 2 => ("DanceStillOwed$Rules", "names", "[I", true)
  | _ => ("DanceStillOwed$Rules", "stack", "[I", true)
def tyX2 : Nat → FieldType := fun k => match k with
  | 0 => .array (.object "DanceStillOwed$Text")
  | 1 => .int
  | 2 => .array .int
  | _ => .array .int
abbrev wsX20 : List Cond := u_ws RX2 TX2 4
theorem nmX2 : ∀ a, a < 4 → ∀ b, b < 4 → a ≠ b → (TX2 a).2.1 ≠ (TX2 b).2.1 := by decide +kernel
theorem tyX2_ok : ∀ k, k < 4 → parseFieldDescriptor (TX2 k).2.2.1 = some (tyX2 k) := by decide +kernel
abbrev cX2_init : ByteArray := prog_4_method_1_code
def yX2_init : MethodName := ⟨RX2, "<init>", "()V"⟩
abbrev cX2_keep : ByteArray := prog_4_method_2_code
def yX2_keep : MethodName := ⟨RX2, "keep", "(LDanceStillOwed$Text;)I"⟩
abbrev cX2_value : ByteArray := prog_4_method_3_code
def yX2_value : MethodName := ⟨RX2, "value", "(II)I"⟩
def RX3 : String := "DanceStillOwed$Sheet"
def TX3 : u_T := fun k => match k with
  | 0 => ("DanceStillOwed$Sheet", "sort", "I", false)
  | 1 => ("DanceStillOwed$Sheet", "size", "I", false)
  | _ => ("DanceStillOwed$Sheet", "row", "[I", true)
def tyX3 : Nat → FieldType := fun k => match k with
  | 0 => .int
  | 1 => .int
  | _ => .array .int
abbrev wsX30 : List Cond := u_ws RX3 TX3 3
theorem nmX3 : ∀ a, a < 3 → ∀ b, b < 3 → a ≠ b → (TX3 a).2.1 ≠ (TX3 b).2.1 := by decide +kernel
theorem tyX3_ok : ∀ k, k < 3 → parseFieldDescriptor (TX3 k).2.2.1 = some (tyX3 k) := by decide +kernel
abbrev cX3_init : ByteArray := prog_5_method_1_code
def yX3_init : MethodName := ⟨RX3, "<init>", "()V"⟩
abbrev cX3_become : ByteArray := prog_5_method_2_code
def yX3_become : MethodName := ⟨RX3, "become", "(II)V"⟩
abbrev cX3_holds : ByteArray := prog_5_method_3_code
def yX3_holds : MethodName := ⟨RX3, "holds", "(II)Z"⟩
abbrev cX3_put : ByteArray := prog_5_method_4_code
def yX3_put : MethodName := ⟨RX3, "put", "(II)V"⟩
def RX4 : String := "DanceStillOwed$Text"
def TX4 : u_T := fun k => match k with
  | 0 => ("DanceStillOwed$Text", "code", "[I", true)
  | _ => ("DanceStillOwed$Text", "ends", "[I", true)
def tyX4 : Nat → FieldType := fun k => match k with
  | 0 => .array .int
  | _ => .array .int
abbrev wsX40 : List Cond := u_ws RX4 TX4 2
theorem nmX4 : ∀ a, a < 2 → ∀ b, b < 2 → a ≠ b → (TX4 a).2.1 ≠ (TX4 b).2.1 := by decide +kernel
theorem tyX4_ok : ∀ k, k < 2 → parseFieldDescriptor (TX4 k).2.2.1 = some (tyX4 k) := by decide +kernel
abbrev cX4_init : ByteArray := prog_6_method_1_code
def yX4_init : MethodName := ⟨RX4, "<init>", "([I[I)V"⟩
def RX5 : String := "DanceStillOwed"
def TX5 : u_T := fun k => match k with
  | 0 => ("DanceStillOwed", "rules", "LDanceStillOwed$Rules;", true)
  | 1 => ("DanceStillOwed", "now", "LDanceStillOwed$Floor;", true)
  | 2 => ("DanceStillOwed", "kept", "LDanceStillOwed$Floor;", true)
  | 3 => ("DanceStillOwed", "thoughts", "[LDanceStillOwed$Floor;", true)
  | 4 => ("DanceStillOwed", "reader", "LDanceStillOwed$Reader;", true)
  | 5 => ("DanceStillOwed", "sheets", "[LDanceStillOwed$Sheet;", true)
  | 6 => ("DanceStillOwed", "imageKept", "Z", false)
  | _ => ("DanceStillOwed", "ring", "[I", true)
def tyX5 : Nat → FieldType := fun k => match k with
  | 0 => .object "DanceStillOwed$Rules"
  | 1 => .object "DanceStillOwed$Floor"
  | 2 => .object "DanceStillOwed$Floor"
  | 3 => .array (.object "DanceStillOwed$Floor")
  | 4 => .object "DanceStillOwed$Reader"
  | 5 => .array (.object "DanceStillOwed$Sheet")
  | 6 => .boolean
  | _ => .array .int
abbrev wsX50 : List Cond := u_ws RX5 TX5 8
theorem nmX5 : ∀ a, a < 8 → ∀ b, b < 8 → a ≠ b → (TX5 a).2.1 ≠ (TX5 b).2.1 := by decide +kernel
theorem tyX5_ok : ∀ k, k < 8 → parseFieldDescriptor (TX5 k).2.2.1 = some (tyX5 k) := by decide +kernel
abbrev cX5_init : ByteArray := prog_1_method_1_code
def yX5_init : MethodName := ⟨RX5, "<init>", "()V"⟩
abbrev cX5_set : ByteArray := prog_1_method_2_code
def yX5_set : MethodName := ⟨RX5, "set", "(III)I"⟩
abbrev cX5_dancer : ByteArray := prog_1_method_3_code
def yX5_dancer : MethodName := ⟨RX5, "dancer", "(II)I"⟩
abbrev cX5_told : ByteArray := prog_1_method_4_code
def yX5_told : MethodName := ⟨RX5, "told", "(II)I"⟩
abbrev cX5_asks : ByteArray := prog_1_method_5_code
def yX5_asks : MethodName := ⟨RX5, "asks", "(III)I"⟩
abbrev cX5_isDancer : ByteArray := prog_1_method_6_code
def yX5_isDancer : MethodName := ⟨RX5, "isDancer", "(I)Z"⟩
abbrev cX5_isTwo : ByteArray := prog_1_method_7_code
def yX5_isTwo : MethodName := ⟨RX5, "isTwo", "(II)Z"⟩
abbrev cX5_debtPlace : ByteArray := prog_1_method_8_code
def yX5_debtPlace : MethodName := ⟨RX5, "debtPlace", "(I)I"⟩
abbrev cX5_feed : ByteArray := prog_1_method_9_code
def yX5_feed : MethodName := ⟨RX5, "feed", "(I)I"⟩
abbrev cX5_text : ByteArray := prog_1_method_10_code
def yX5_text : MethodName := ⟨RX5, "text", "()I"⟩
abbrev cX5_force : ByteArray := prog_1_method_11_code
def yX5_force : MethodName := ⟨RX5, "force", "(I)I"⟩
abbrev cX5_dance : ByteArray := prog_1_method_12_code
def yX5_dance : MethodName := ⟨RX5, "dance", "(II)I"⟩
abbrev cX5_round : ByteArray := prog_1_method_13_code
def yX5_round : MethodName := ⟨RX5, "round", "()I"⟩
abbrev cX5_night : ByteArray := prog_1_method_14_code
def yX5_night : MethodName := ⟨RX5, "night", "()I"⟩
abbrev cX5_strike : ByteArray := prog_1_method_15_code
def yX5_strike : MethodName := ⟨RX5, "strike", "(I)I"⟩
abbrev cX5_readRing : ByteArray := prog_1_method_16_code
def yX5_readRing : MethodName := ⟨RX5, "readRing", "(I)I"⟩
abbrev cX5_run : ByteArray := prog_1_method_17_code
def yX5_run : MethodName := ⟨RX5, "run", "(IIII)I"⟩
abbrev cX5_think : ByteArray := prog_1_method_18_code
def yX5_think : MethodName := ⟨RX5, "think", "()LDanceStillOwed$Floor;"⟩
abbrev cX5_best : ByteArray := prog_1_method_19_code
def yX5_best : MethodName := ⟨RX5, "best", "(I)I"⟩
abbrev cX5_share : ByteArray := prog_1_method_20_code
def yX5_share : MethodName := ⟨RX5, "share", "(II)J"⟩
abbrev cX5_sitters : ByteArray := prog_1_method_21_code
def yX5_sitters : MethodName := ⟨RX5, "sitters", "()I"⟩
abbrev cX5_soonest : ByteArray := prog_1_method_22_code
def yX5_soonest : MethodName := ⟨RX5, "soonest", "()I"⟩
abbrev cX5_clears : ByteArray := prog_1_method_23_code
def yX5_clears : MethodName := ⟨RX5, "clears", "(II)Z"⟩
abbrev cX5_lowest : ByteArray := prog_1_method_24_code
def yX5_lowest : MethodName := ⟨RX5, "lowest", "(III)J"⟩
abbrev cX5_tells : ByteArray := prog_1_method_25_code
def yX5_tells : MethodName := ⟨RX5, "tells", "(IIII)I"⟩
abbrev cX5_kindsTold : ByteArray := prog_1_method_26_code
def yX5_kindsTold : MethodName := ⟨RX5, "kindsTold", "(LDanceStillOwed$Sheet;I)I"⟩
abbrev cX5_numbersTold : ByteArray := prog_1_method_27_code
def yX5_numbersTold : MethodName := ⟨RX5, "numbersTold", "(LDanceStillOwed$Sheet;I)I"⟩
abbrev cX5_roundsTold : ByteArray := prog_1_method_28_code
def yX5_roundsTold : MethodName := ⟨RX5, "roundsTold", "(LDanceStillOwed$Sheet;IZ)I"⟩
abbrev cX5_donesTold : ByteArray := prog_1_method_29_code
def yX5_donesTold : MethodName := ⟨RX5, "donesTold", "(LDanceStillOwed$Sheet;IZ)I"⟩
abbrev cX5_textsTold : ByteArray := prog_1_method_30_code
def yX5_textsTold : MethodName := ⟨RX5, "textsTold", "(LDanceStillOwed$Sheet;I)I"⟩
abbrev cX5_dancersTold : ByteArray := prog_1_method_31_code
def yX5_dancersTold : MethodName := ⟨RX5, "dancersTold", "(LDanceStillOwed$Sheet;I)I"⟩
abbrev cX5_film : ByteArray := prog_1_method_32_code
def yX5_film : MethodName := ⟨RX5, "film", "(IIII)I"⟩
abbrev cX5_drawn : ByteArray := prog_1_method_33_code
def yX5_drawn : MethodName := ⟨RX5, "drawn", "(I)I"⟩
abbrev cX5_chance : ByteArray := prog_1_method_34_code
def yX5_chance : MethodName := ⟨RX5, "chance", "(IIII)J"⟩
abbrev cX5_image : ByteArray := prog_1_method_35_code
def yX5_image : MethodName := ⟨RX5, "image", "()I"⟩
abbrev cX5_back : ByteArray := prog_1_method_36_code
def yX5_back : MethodName := ⟨RX5, "back", "()I"⟩
abbrev cX5_count : ByteArray := prog_1_method_37_code
def yX5_count : MethodName := ⟨RX5, "count", "(I)I"⟩
abbrev cX5_sheet : ByteArray := prog_1_method_38_code
def yX5_sheet : MethodName := ⟨RX5, "sheet", "(III)I"⟩
abbrev cX5_cell : ByteArray := prog_1_method_39_code
def yX5_cell : MethodName := ⟨RX5, "cell", "(III)I"⟩
abbrev cX5_copy : ByteArray := prog_1_method_40_code
def yX5_copy : MethodName := ⟨RX5, "copy", "(IIIII)I"⟩
abbrev cX5_room : ByteArray := prog_1_method_41_code
def yX5_room : MethodName := ⟨RX5, "room", "(IIII)I"⟩
abbrev cX5_taken : ByteArray := prog_1_method_42_code
def yX5_taken : MethodName := ⟨RX5, "taken", "(II)I"⟩
abbrev cX5_isSheet : ByteArray := prog_1_method_43_code
def yX5_isSheet : MethodName := ⟨RX5, "isSheet", "(I)Z"⟩
abbrev cX5_isSort : ByteArray := prog_1_method_44_code
def yX5_isSort : MethodName := ⟨RX5, "isSort", "(I)Z"⟩
abbrev cX5_within : ByteArray := prog_1_method_45_code
def yX5_within : MethodName := ⟨RX5, "within", "(II)I"⟩
def RX6 : String := "DanceStillOwedModel"
def TX6 : u_T := fun k => match k with
  | 0 => ("DanceStillOwedModel", "thrown", "I", false)
  | 1 => ("DanceStillOwedModel", "texts", "[I", true)
  | 2 => ("DanceStillOwedModel", "textSize", "[I", true)
  | 3 => ("DanceStillOwedModel", "textCount", "I", false)
  | 4 => ("DanceStillOwedModel", "rule", "I", false)
  | 5 => ("DanceStillOwedModel", "tape", "[I", true)
  | 6 => ("DanceStillOwedModel", "taped", "I", false)
  | 7 => ("DanceStillOwedModel", "roundNow", "I", false)
  | 8 => ("DanceStillOwedModel", "nightNow", "I", false)
  | 9 => ("DanceStillOwedModel", "kinds", "[I", true)
  | 10 => ("DanceStillOwedModel", "rows", "[I", true)
  | 11 => ("DanceStillOwedModel", "debts", "[I", true)
  | 12 => ("DanceStillOwedModel", "many", "I", false)
  | 13 => ("DanceStillOwedModel", "matches", "[I", true)
  | 14 => ("DanceStillOwedModel", "ofDebt", "I", false)
  | 15 => ("DanceStillOwedModel", "ofOwed", "I", false)
  | 16 => ("DanceStillOwedModel", "ofNumber", "I", false)
  | 17 => ("DanceStillOwedModel", "ofRound", "I", false)
  | 18 => ("DanceStillOwedModel", "ofDone", "I", false)
  | 19 => ("DanceStillOwedModel", "ofNight", "I", false)
  | 20 => ("DanceStillOwedModel", "from", "I", false)
  | 21 => ("DanceStillOwedModel", "size", "I", false)
  | 22 => ("DanceStillOwedModel", "here", "I", false)
  | 23 => ("DanceStillOwedModel", "token", "I", false)
  | 24 => ("DanceStillOwedModel", "tokenAt", "I", false)
  | 25 => ("DanceStillOwedModel", "tokenWorth", "J", false)
  | 26 => ("DanceStillOwedModel", "open", "I", false)
  | 27 => ("DanceStillOwedModel", "bad", "Z", false)
  | 28 => ("DanceStillOwedModel", "fault", "I", false)
  | 29 => ("DanceStillOwedModel", "dancedSet", "I", false)
  | 30 => ("DanceStillOwedModel", "ring1", "[I", true)
  | 31 => ("DanceStillOwedModel", "was", "[I", true)
  | 32 => ("DanceStillOwedModel", "debtsThen", "[I", true)
  | 33 => ("DanceStillOwedModel", "rowsThen", "[I", true)
  | 34 => ("DanceStillOwedModel", "debtsWas", "[I", true)
  | 35 => ("DanceStillOwedModel", "debtsKept", "[I", true)
  | 36 => ("DanceStillOwedModel", "rowsKept", "[I", true)
  | 37 => ("DanceStillOwedModel", "manyKept", "I", false)
  | 38 => ("DanceStillOwedModel", "roundKept", "I", false)
  | 39 => ("DanceStillOwedModel", "nightKept", "I", false)
  | 40 => ("DanceStillOwedModel", "ruleKept", "I", false)
  | 41 => ("DanceStillOwedModel", "isThere", "[Z", true)
  | 42 => ("DanceStillOwedModel", "sorts", "[I", true)
  | 43 => ("DanceStillOwedModel", "sheetSize", "[I", true)
  | _ => ("DanceStillOwedModel", "items", "[I", true)
def tyX6 : Nat → FieldType := fun k => match k with
  | 0 => .int
  | 1 => .array .int
  | 2 => .array .int
  | 3 => .int
  | 4 => .int
  | 5 => .array .int
  | 6 => .int
  | 7 => .int
  | 8 => .int
  | 9 => .array .int
  | 10 => .array .int
  | 11 => .array .int
  | 12 => .int
  | 13 => .array .int
  | 14 => .int
  | 15 => .int
  | 16 => .int
  | 17 => .int
  | 18 => .int
  | 19 => .int
  | 20 => .int
  | 21 => .int
  | 22 => .int
  | 23 => .int
  | 24 => .int
  | 25 => .long
  | 26 => .int
  | 27 => .boolean
  | 28 => .int
  | 29 => .int
  | 30 => .array .int
  | 31 => .array .int
  | 32 => .array .int
  | 33 => .array .int
  | 34 => .array .int
  | 35 => .array .int
  | 36 => .array .int
  | 37 => .int
  | 38 => .int
  | 39 => .int
  | 40 => .int
  | 41 => .array .boolean
  | 42 => .array .int
  | 43 => .array .int
  | _ => .array .int
abbrev wsX60 : List Cond := u_ws RX6 TX6 45
theorem nmX6 : ∀ a, a < 45 → ∀ b, b < 45 → a ≠ b → (TX6 a).2.1 ≠ (TX6 b).2.1 := by decide +kernel
theorem tyX6_ok : ∀ k, k < 45 → parseFieldDescriptor (TX6 k).2.2.1 = some (tyX6 k) := by decide +kernel
abbrev cX6_in : ByteArray := prog_8_method_2_code
def yX6_in : MethodName := ⟨RX6, "in", "(JJJ)Z"⟩
abbrev cX6_within : ByteArray := prog_8_method_3_code
def yX6_within : MethodName := ⟨RX6, "within", "(III)I"⟩
abbrev cX6_init : ByteArray := prog_8_method_4_code
def yX6_init : MethodName := ⟨RX6, "<init>", "()V"⟩
abbrev cX6_spell : ByteArray := prog_8_method_5_code
def yX6_spell : MethodName := ⟨RX6, "spell", "(IIIIIIIII)V"⟩
abbrev cX6_isOne : ByteArray := prog_8_method_6_code
def yX6_isOne : MethodName := ⟨RX6, "isOne", "(I)Z"⟩
abbrev cX6_areTwo : ByteArray := prog_8_method_7_code
def yX6_areTwo : MethodName := ⟨RX6, "areTwo", "(II)Z"⟩
abbrev cX6_isOf : ByteArray := prog_8_method_8_code
def yX6_isOf : MethodName := ⟨RX6, "isOf", "(II)Z"⟩
abbrev cX6_placeOf : ByteArray := prog_8_method_9_code
def yX6_placeOf : MethodName := ⟨RX6, "placeOf", "(I)I"⟩
abbrev cX6_mostOf : ByteArray := prog_8_method_10_code
def yX6_mostOf : MethodName := ⟨RX6, "mostOf", "(I)I"⟩
abbrev cX6_set : ByteArray := prog_8_method_11_code
def yX6_set : MethodName := ⟨RX6, "set", "(III)I"⟩
abbrev cX6_lays : ByteArray := prog_8_method_12_code
def yX6_lays : MethodName := ⟨RX6, "lays", "(III)V"⟩
abbrev cX6_dancer : ByteArray := prog_8_method_13_code
def yX6_dancer : MethodName := ⟨RX6, "dancer", "(II)I"⟩
abbrev cX6_told : ByteArray := prog_8_method_14_code
def yX6_told : MethodName := ⟨RX6, "told", "(II)I"⟩
abbrev cX6_debtOf : ByteArray := prog_8_method_15_code
def yX6_debtOf : MethodName := ⟨RX6, "debtOf", "(II)I"⟩
abbrev cX6_owesOf : ByteArray := prog_8_method_16_code
def yX6_owesOf : MethodName := ⟨RX6, "owesOf", "(I)I"⟩
abbrev cX6_owedTo : ByteArray := prog_8_method_17_code
def yX6_owedTo : MethodName := ⟨RX6, "owedTo", "(I)I"⟩
abbrev cX6_owedAll : ByteArray := prog_8_method_18_code
def yX6_owedAll : MethodName := ⟨RX6, "owedAll", "()I"⟩
abbrev cX6_feed : ByteArray := prog_8_method_19_code
def yX6_feed : MethodName := ⟨RX6, "feed", "(I)I"⟩
abbrev cX6_byteAt : ByteArray := prog_8_method_20_code
def yX6_byteAt : MethodName := ⟨RX6, "byteAt", "(I)I"⟩
abbrev cX6_next : ByteArray := prog_8_method_21_code
def yX6_next : MethodName := ⟨RX6, "next", "()V"⟩
abbrev cX6_fail : ByteArray := prog_8_method_22_code
def yX6_fail : MethodName := ⟨RX6, "fail", "()V"⟩
abbrev cX6_isLetter : ByteArray := prog_8_method_23_code
def yX6_isLetter : MethodName := ⟨RX6, "isLetter", "(II)Z"⟩
abbrev cX6_isWord : ByteArray := prog_8_method_24_code
def yX6_isWord : MethodName := ⟨RX6, "isWord", "(IIIIIIII)Z"⟩
abbrev cX6_isSign : ByteArray := prog_8_method_25_code
def yX6_isSign : MethodName := ⟨RX6, "isSign", "(I)Z"⟩
abbrev cX6_opens : ByteArray := prog_8_method_26_code
def yX6_opens : MethodName := ⟨RX6, "opens", "()Z"⟩
abbrev cX6_name : ByteArray := prog_8_method_27_code
def yX6_name : MethodName := ⟨RX6, "name", "()I"⟩
abbrev cX6_atom : ByteArray := prog_8_method_28_code
def yX6_atom : MethodName := ⟨RX6, "atom", "()I"⟩
abbrev cX6_term : ByteArray := prog_8_method_29_code
def yX6_term : MethodName := ⟨RX6, "term", "()I"⟩
abbrev cX6_added : ByteArray := prog_8_method_30_code
def yX6_added : MethodName := ⟨RX6, "added", "()I"⟩
abbrev cX6_not : ByteArray := prog_8_method_31_code
def yX6_not : MethodName := ⟨RX6, "not", "()I"⟩
abbrev cX6_both : ByteArray := prog_8_method_32_code
def yX6_both : MethodName := ⟨RX6, "both", "()I"⟩
abbrev cX6_either : ByteArray := prog_8_method_33_code
def yX6_either : MethodName := ⟨RX6, "either", "()I"⟩
abbrev cX6_part : ByteArray := prog_8_method_34_code
def yX6_part : MethodName := ⟨RX6, "part", "(Z)I"⟩
abbrev cX6_read : ByteArray := prog_8_method_35_code
def yX6_read : MethodName := ⟨RX6, "read", "(II)I"⟩
abbrev cX6_text : ByteArray := prog_8_method_36_code
def yX6_text : MethodName := ⟨RX6, "text", "()I"⟩
abbrev cX6_force : ByteArray := prog_8_method_37_code
def yX6_force : MethodName := ⟨RX6, "force", "(I)I"⟩
abbrev cX6_says : ByteArray := prog_8_method_38_code
def yX6_says : MethodName := ⟨RX6, "says", "(III)I"⟩
abbrev cX6_paysOf : ByteArray := prog_8_method_39_code
def yX6_paysOf : MethodName := ⟨RX6, "paysOf", "(II)I"⟩
abbrev cX6_willOf : ByteArray := prog_8_method_40_code
def yX6_willOf : MethodName := ⟨RX6, "willOf", "(II)Z"⟩
abbrev cX6_breathOf : ByteArray := prog_8_method_41_code
def yX6_breathOf : MethodName := ⟨RX6, "breathOf", "(I)I"⟩
abbrev cX6_hasBreath : ByteArray := prog_8_method_42_code
def yX6_hasBreath : MethodName := ⟨RX6, "hasBreath", "(I)Z"⟩
abbrev cX6_mayDance : ByteArray := prog_8_method_43_code
def yX6_mayDance : MethodName := ⟨RX6, "mayDance", "(II)Z"⟩
abbrev cX6_asks : ByteArray := prog_8_method_44_code
def yX6_asks : MethodName := ⟨RX6, "asks", "(III)I"⟩
abbrev cX6_dances : ByteArray := prog_8_method_45_code
def yX6_dances : MethodName := ⟨RX6, "dances", "(I)V"⟩
abbrev cX6_danceBoth : ByteArray := prog_8_method_46_code
def yX6_danceBoth : MethodName := ⟨RX6, "danceBoth", "(II)I"⟩
abbrev cX6_dance : ByteArray := prog_8_method_47_code
def yX6_dance : MethodName := ⟨RX6, "dance", "(II)I"⟩
abbrev cX6_passes : ByteArray := prog_8_method_48_code
def yX6_passes : MethodName := ⟨RX6, "passes", "()I"⟩
abbrev cX6_round : ByteArray := prog_8_method_49_code
def yX6_round : MethodName := ⟨RX6, "round", "()I"⟩
abbrev cX6_night : ByteArray := prog_8_method_50_code
def yX6_night : MethodName := ⟨RX6, "night", "()I"⟩
abbrev cX6_ringOf : ByteArray := prog_8_method_51_code
def yX6_ringOf : MethodName := ⟨RX6, "ringOf", "(I)I"⟩
abbrev cX6_strike : ByteArray := prog_8_method_52_code
def yX6_strike : MethodName := ⟨RX6, "strike", "(I)I"⟩
abbrev cX6_laysAside : ByteArray := prog_8_method_53_code
def yX6_laysAside : MethodName := ⟨RX6, "laysAside", "()V"⟩
abbrev cX6_laysBack : ByteArray := prog_8_method_54_code
def yX6_laysBack : MethodName := ⟨RX6, "laysBack", "()V"⟩
abbrev cX6_owedSet : ByteArray := prog_8_method_55_code
def yX6_owedSet : MethodName := ⟨RX6, "owedSet", "()I"⟩
abbrev cX6_run : ByteArray := prog_8_method_56_code
def yX6_run : MethodName := ⟨RX6, "run", "(IIII)I"⟩
abbrev cX6_both_ : ByteArray := prog_8_method_57_code
def yX6_both_ : MethodName := ⟨RX6, "both", "(I)I"⟩
abbrev cX6_lesser : ByteArray := prog_8_method_58_code
def yX6_lesser : MethodName := ⟨RX6, "lesser", "(I)I"⟩
abbrev cX6_greater : ByteArray := prog_8_method_59_code
def yX6_greater : MethodName := ⟨RX6, "greater", "(I)I"⟩
abbrev cX6_isApart : ByteArray := prog_8_method_60_code
def yX6_isApart : MethodName := ⟨RX6, "isApart", "(I)Z"⟩
abbrev cX6_isSet : ByteArray := prog_8_method_61_code
def yX6_isSet : MethodName := ⟨RX6, "isSet", "(I)Z"⟩
abbrev cX6_dancesOf : ByteArray := prog_8_method_62_code
def yX6_dancesOf : MethodName := ⟨RX6, "dancesOf", "(I)I"⟩
abbrev cX6_bestSet : ByteArray := prog_8_method_63_code
def yX6_bestSet : MethodName := ⟨RX6, "bestSet", "(I)I"⟩
abbrev cX6_nextRound : ByteArray := prog_8_method_64_code
def yX6_nextRound : MethodName := ⟨RX6, "nextRound", "(I)I"⟩
abbrev cX6_isPaidBy : ByteArray := prog_8_method_65_code
def yX6_isPaidBy : MethodName := ⟨RX6, "isPaidBy", "(I)Z"⟩
abbrev cX6_soonest : ByteArray := prog_8_method_66_code
def yX6_soonest : MethodName := ⟨RX6, "soonest", "()I"⟩
abbrev cX6_leastOwed : ByteArray := prog_8_method_67_code
def yX6_leastOwed : MethodName := ⟨RX6, "leastOwed", "()I"⟩
abbrev cX6_ringFrom : ByteArray := prog_8_method_68_code
def yX6_ringFrom : MethodName := ⟨RX6, "ringFrom", "(IIII)I"⟩
abbrev cX6_longestRing : ByteArray := prog_8_method_69_code
def yX6_longestRing : MethodName := ⟨RX6, "longestRing", "()I"⟩
abbrev cX6_ends : ByteArray := prog_8_method_70_code
def yX6_ends : MethodName := ⟨RX6, "ends", "()I"⟩
abbrev cX6_keeper : ByteArray := prog_8_method_71_code
def yX6_keeper : MethodName := ⟨RX6, "keeper", "()I"⟩
abbrev cX6_best : ByteArray := prog_8_method_72_code
def yX6_best : MethodName := ⟨RX6, "best", "(I)I"⟩
abbrev cX6_lowest : ByteArray := prog_8_method_73_code
def yX6_lowest : MethodName := ⟨RX6, "lowest", "(JJI)J"⟩
abbrev cX6_share : ByteArray := prog_8_method_74_code
def yX6_share : MethodName := ⟨RX6, "share", "(II)J"⟩
abbrev cX6_firstOther : ByteArray := prog_8_method_75_code
def yX6_firstOther : MethodName := ⟨RX6, "firstOther", "(II)I"⟩
abbrev cX6_likeSet : ByteArray := prog_8_method_76_code
def yX6_likeSet : MethodName := ⟨RX6, "likeSet", "(II)I"⟩
abbrev cX6_tells : ByteArray := prog_8_method_77_code
def yX6_tells : MethodName := ⟨RX6, "tells", "(IIII)I"⟩
abbrev cX6_film : ByteArray := prog_8_method_78_code
def yX6_film : MethodName := ⟨RX6, "film", "(IIII)I"⟩
abbrev cX6_endsDrawn : ByteArray := prog_8_method_79_code
def yX6_endsDrawn : MethodName := ⟨RX6, "endsDrawn", "(I)I"⟩
abbrev cX6_drawn : ByteArray := prog_8_method_80_code
def yX6_drawn : MethodName := ⟨RX6, "drawn", "(I)I"⟩
abbrev cX6_chance : ByteArray := prog_8_method_81_code
def yX6_chance : MethodName := ⟨RX6, "chance", "(IIII)J"⟩
abbrev cX6_image : ByteArray := prog_8_method_82_code
def yX6_image : MethodName := ⟨RX6, "image", "()I"⟩
abbrev cX6_back : ByteArray := prog_8_method_83_code
def yX6_back : MethodName := ⟨RX6, "back", "()I"⟩
abbrev cX6_count : ByteArray := prog_8_method_84_code
def yX6_count : MethodName := ⟨RX6, "count", "(I)I"⟩
abbrev cX6_isSheet : ByteArray := prog_8_method_85_code
def yX6_isSheet : MethodName := ⟨RX6, "isSheet", "(I)Z"⟩
abbrev cX6_sheet : ByteArray := prog_8_method_86_code
def yX6_sheet : MethodName := ⟨RX6, "sheet", "(III)I"⟩
abbrev cX6_cell : ByteArray := prog_8_method_87_code
def yX6_cell : MethodName := ⟨RX6, "cell", "(III)I"⟩
abbrev cX6_copy : ByteArray := prog_8_method_88_code
def yX6_copy : MethodName := ⟨RX6, "copy", "(IIIII)I"⟩
abbrev cX6_room : ByteArray := prog_8_method_89_code
def yX6_room : MethodName := ⟨RX6, "room", "(IIII)I"⟩
abbrev cX6_over : ByteArray := prog_8_method_90_code
def yX6_over : MethodName := ⟨RX6, "over", "(I)I"⟩
abbrev cX6_taken : ByteArray := prog_8_method_91_code
def yX6_taken : MethodName := ⟨RX6, "taken", "(II)I"⟩
def RJ11 : String := "java/lang/Character"
def TJ11 : u_T := fun k => match k with
  | _ => ("", "", "", false)
def tyJ11 : Nat → FieldType := fun k => match k with
  | _ => .int
theorem nmJ11 : ∀ a, a < 0 → ∀ b, b < 0 → a ≠ b → (TJ11 a).2.1 ≠ (TJ11 b).2.1 := by decide +kernel
theorem tyJ11_ok : ∀ k, k < 0 → parseFieldDescriptor (TJ11 k).2.2.1 = some (tyJ11 k) := by decide +kernel
abbrev cJ11_isValidCodePoint_9a6ad : ByteArray := prog_9_method_11_code
def yJ11_isValidCodePoint_9a6ad : MethodName := ⟨RJ11, "isValidCodePoint", "(I)Z"⟩
abbrev cJ11_highSurrogate_5068e : ByteArray := prog_9_method_28_code
def yJ11_highSurrogate_5068e : MethodName := ⟨RJ11, "highSurrogate", "(I)C"⟩
abbrev cJ11_lowSurrogate_5068e : ByteArray := prog_9_method_29_code
def yJ11_lowSurrogate_5068e : MethodName := ⟨RJ11, "lowSurrogate", "(I)C"⟩
def RJx8e188 : String := "java/lang/Cloneable"
def TJx8e188 : u_T := fun k => match k with
  | _ => ("", "", "", false)
def tyJx8e188 : Nat → FieldType := fun k => match k with
  | _ => .int
theorem nmJx8e188 : ∀ a, a < 0 → ∀ b, b < 0 → a ≠ b → (TJx8e188 a).2.1 ≠ (TJx8e188 b).2.1 := by decide +kernel
theorem tyJx8e188_ok : ∀ k, k < 0 → parseFieldDescriptor (TJx8e188 k).2.2.1 = some (tyJx8e188 k) := by decide +kernel
def RJ9 : String := "java/lang/Math"
def TJ9 : u_T := fun k => match k with
  | _ => ("", "", "", false)
def tyJ9 : Nat → FieldType := fun k => match k with
  | _ => .int
theorem nmJ9 : ∀ a, a < 0 → ∀ b, b < 0 → a ≠ b → (TJ9 a).2.1 ≠ (TJ9 b).2.1 := by decide +kernel
theorem tyJ9_ok : ∀ k, k < 0 → parseFieldDescriptor (TJ9 k).2.2.1 = some (tyJ9 k) := by decide +kernel
abbrev cJ9_max_7cf53 : ByteArray := prog_11_method_65_code
def yJ9_max_7cf53 : MethodName := ⟨RJ9, "max", "(II)I"⟩
abbrev cJ9_min_7cf53 : ByteArray := prog_11_method_69_code
def yJ9_min_7cf53 : MethodName := ⟨RJ9, "min", "(II)I"⟩
def RJ0 : String := "java/lang/String"
def TJ0 : u_T := fun k => match k with
  | _ => ("", "", "", false)
def tyJ0 : Nat → FieldType := fun k => match k with
  | _ => .int
theorem nmJ0 : ∀ a, a < 0 → ∀ b, b < 0 → a ≠ b → (TJ0 a).2.1 ≠ (TJ0 b).2.1 := by decide +kernel
theorem tyJ0_ok : ∀ k, k < 0 → parseFieldDescriptor (TJ0 k).2.2.1 = some (tyJ0 k) := by decide +kernel
abbrev cJ0_length_8abf5 : ByteArray := prog_12_method_54_code
def yJ0_length_8abf5 : MethodName := ⟨RJ0, "length", "()I"⟩
abbrev cJ0_charAt_5068e : ByteArray := prog_12_method_56_code
def yJ0_charAt_5068e : MethodName := ⟨RJ0, "charAt", "(I)C"⟩
abbrev cJ0_indexOf_0f7a4 : ByteArray := prog_12_method_79_code
def yJ0_indexOf_0f7a4 : MethodName := ⟨RJ0, "indexOf", "(I)I"⟩
abbrev cJ0_indexOf_7cf53 : ByteArray := prog_12_method_80_code
def yJ0_indexOf_7cf53 : MethodName := ⟨RJ0, "indexOf", "(II)I"⟩
abbrev cJ0_coder_7d493 : ByteArray := prog_12_method_152_code
def yJ0_coder_7d493 : MethodName := ⟨RJ0, "coder", "()B"⟩
abbrev cJ0_isLatin1_aae02 : ByteArray := prog_12_method_154_code
def yJ0_isLatin1_aae02 : MethodName := ⟨RJ0, "isLatin1", "()Z"⟩
abbrev cJ0_checkIndex_df160 : ByteArray := prog_12_method_155_code
def yJ0_checkIndex_df160 : MethodName := ⟨RJ0, "checkIndex", "(II)V"⟩
abbrev cJ0_checkBoundsBeginEnd_23922 : ByteArray := prog_12_method_158_code
def yJ0_checkBoundsBeginEnd_23922 : MethodName := ⟨RJ0, "checkBoundsBeginEnd", "(III)V"⟩
def RJ1 : String := "java/lang/StringLatin1"
def TJ1 : u_T := fun k => match k with
  | _ => ("", "", "", false)
def tyJ1 : Nat → FieldType := fun k => match k with
  | _ => .int
theorem nmJ1 : ∀ a, a < 0 → ∀ b, b < 0 → a ≠ b → (TJ1 a).2.1 ≠ (TJ1 b).2.1 := by decide +kernel
theorem tyJ1_ok : ∀ k, k < 0 → parseFieldDescriptor (TJ1 k).2.2.1 = some (tyJ1 k) := by decide +kernel
abbrev cJ1_charAt_3b067 : ByteArray := prog_13_method_2_code
def yJ1_charAt_3b067 : MethodName := ⟨RJ1, "charAt", "([BI)C"⟩
abbrev cJ1_canEncode_9a6ad : ByteArray := prog_13_method_4_code
def yJ1_canEncode_9a6ad : MethodName := ⟨RJ1, "canEncode", "(I)Z"⟩
abbrev cJ1_indexOf_4cfef : ByteArray := prog_13_method_22_code
def yJ1_indexOf_4cfef : MethodName := ⟨RJ1, "indexOf", "([BIII)I"⟩
abbrev cJ1_indexOfChar_4cfef : ByteArray := prog_13_method_23_code
def yJ1_indexOfChar_4cfef : MethodName := ⟨RJ1, "indexOfChar", "([BIII)I"⟩
def RJ2 : String := "java/lang/StringUTF16"
def TJ2 : u_T := fun k => match k with
  | _ => ("", "", "", false)
def tyJ2 : Nat → FieldType := fun k => match k with
  | _ => .int
theorem nmJ2 : ∀ a, a < 0 → ∀ b, b < 0 → a ≠ b → (TJ2 a).2.1 ≠ (TJ2 b).2.1 := by decide +kernel
theorem tyJ2_ok : ∀ k, k < 0 → parseFieldDescriptor (TJ2 k).2.2.1 = some (tyJ2 k) := by decide +kernel
abbrev cJ2_getChar_3b067 : ByteArray := prog_14_method_5_code
def yJ2_getChar_3b067 : MethodName := ⟨RJ2, "getChar", "([BI)C"⟩
abbrev cJ2_length_9d52b : ByteArray := prog_14_method_6_code
def yJ2_length_9d52b : MethodName := ⟨RJ2, "length", "([B)I"⟩
abbrev cJ2_indexOf_4cfef : ByteArray := prog_14_method_40_code
def yJ2_indexOf_4cfef : MethodName := ⟨RJ2, "indexOf", "([BIII)I"⟩
abbrev cJ2_indexOfChar_4cfef : ByteArray := prog_14_method_47_code
def yJ2_indexOfChar_4cfef : MethodName := ⟨RJ2, "indexOfChar", "([BIII)I"⟩
abbrev cJ2_indexOfCharUnsafe_4cfef : ByteArray := prog_14_method_48_code
def yJ2_indexOfCharUnsafe_4cfef : MethodName := ⟨RJ2, "indexOfCharUnsafe", "([BIII)I"⟩
abbrev cJ2_indexOfSupplementary_4cfef : ByteArray := prog_14_method_49_code
def yJ2_indexOfSupplementary_4cfef : MethodName := ⟨RJ2, "indexOfSupplementary", "([BIII)I"⟩
abbrev cJ2_charAt_3b067 : ByteArray := prog_14_method_83_code
def yJ2_charAt_3b067 : MethodName := ⟨RJ2, "charAt", "([BI)C"⟩
abbrev cJ2_checkIndex_2214a : ByteArray := prog_14_method_91_code
def yJ2_checkIndex_2214a : MethodName := ⟨RJ2, "checkIndex", "(I[B)V"⟩
abbrev cJ2_checkBoundsBeginEnd_d044e : ByteArray := prog_14_method_93_code
def yJ2_checkBoundsBeginEnd_d044e : MethodName := ⟨RJ2, "checkBoundsBeginEnd", "(II[B)V"⟩
def RJ10 : String := "java/lang/System"
def TJ10 : u_T := fun k => match k with
  | _ => ("", "", "", false)
def tyJ10 : Nat → FieldType := fun k => match k with
  | _ => .int
theorem nmJ10 : ∀ a, a < 0 → ∀ b, b < 0 → a ≠ b → (TJ10 a).2.1 ≠ (TJ10 b).2.1 := by decide +kernel
theorem tyJ10_ok : ∀ k, k < 0 → parseFieldDescriptor (TJ10 k).2.2.1 = some (tyJ10 k) := by decide +kernel
def RJ3 : String := "jdk/internal/util/Preconditions"
def TJ3 : u_T := fun k => match k with
  | _ => ("", "", "", false)
def tyJ3 : Nat → FieldType := fun k => match k with
  | _ => .int
theorem nmJ3 : ∀ a, a < 0 → ∀ b, b < 0 → a ≠ b → (TJ3 a).2.1 ≠ (TJ3 b).2.1 := by decide +kernel
theorem tyJ3_ok : ∀ k, k < 0 → parseFieldDescriptor (TJ3 k).2.2.1 = some (tyJ3 k) := by decide +kernel
abbrev cJ3_checkIndex_8e157 : ByteArray := prog_16_method_11_code
def yJ3_checkIndex_8e157 : MethodName := ⟨RJ3, "checkIndex", "(IILjava/util/function/BiFunction;)I"⟩
abbrev cJ3_checkFromToIndex_8c36e : ByteArray := prog_16_method_12_code
def yJ3_checkFromToIndex_8c36e : MethodName := ⟨RJ3, "checkFromToIndex", "(IIILjava/util/function/BiFunction;)I"⟩
def RL : String := "DanceStillOwedLaw"
abbrev cL_law : ByteArray := code
def yL_law : MethodName := ⟨RL, "law", "([I)Z"⟩
def wsL_law_r1 : List Cond := [Cond.classLink RL 7 RX5, Cond.instantiable RX5 8, Cond.initialized RX5, Cond.classLink RL 10 RX6, Cond.instantiable RX6 45, Cond.initialized RX6, Cond.methodLink RL 9 yX5_init, Cond.instanceMethod yX5_init, Cond.code yX5_init cX5_init 1 none, Cond.methodLink RX5 1 objectInit, Cond.instanceMethod objectInit, Cond.code objectInit ⟨#[0xb1]⟩ 1 none, Cond.classLink RX5 7 RX2, Cond.instantiable RX2 4, Cond.initialized RX2, Cond.fieldLink RX5 10 "DanceStillOwed" "rules" "LDanceStillOwed$Rules;", Cond.classLink RX5 16 RX0, Cond.instantiable RX0 13, Cond.initialized RX0, Cond.fieldLink RX5 21 "DanceStillOwed" "now" "LDanceStillOwed$Floor;", Cond.fieldLink RX5 25 "DanceStillOwed" "kept" "LDanceStillOwed$Floor;", Cond.fieldLink RX5 28 "DanceStillOwed" "thoughts" "[LDanceStillOwed$Floor;", Cond.classLink RX5 32 RX1, Cond.instantiable RX1 10]
def wsL_law_r2 : List Cond := [Cond.initialized RX1, Cond.fieldLink RX5 35 "DanceStillOwed" "reader" "LDanceStillOwed$Reader;", Cond.classLink RX5 39 RX3, Cond.instantiable RX3 3, Cond.initialized RX3, Cond.fieldLink RX5 42 "DanceStillOwed" "sheets" "[LDanceStillOwed$Sheet;", Cond.arrayClass .int, Cond.fieldLink RX5 46 "DanceStillOwed" "ring" "[I", Cond.methodLink RX5 9 yX2_init, Cond.instanceMethod yX2_init, Cond.code yX2_init cX2_init 3 none, Cond.methodLink RX2 3 objectInit, Cond.classLink RX2 9 RX4, Cond.fieldLink RX2 11 "DanceStillOwed$Rules" "texts" "[LDanceStillOwed$Text;", Cond.fieldLink RX2 17 "DanceStillOwed$Rules" "names" "[I", Cond.fieldLink RX2 21 "DanceStillOwed$Rules" "stack" "[I", Cond.instantiable RX4 2, Cond.initialized RX4, Cond.fieldLink RX2 27 "DanceStillOwed$Rules" "count" "I", Cond.methodLink RX2 24 yX4_init, Cond.instanceMethod yX4_init, Cond.code yX4_init cX4_init 3 none, Cond.methodLink RX4 1 objectInit, Cond.fieldLink RX4 7 "DanceStillOwed$Text" "code" "[I"]
def wsL_law_r3 : List Cond := [Cond.fieldLink RX4 13 "DanceStillOwed$Text" "ends" "[I", Cond.methodLink RX5 18 yX0_init, Cond.instanceMethod yX0_init, Cond.code yX0_init cX0_init 2 none, Cond.methodLink RX0 3 objectInit, Cond.fieldLink RX0 9 "DanceStillOwed$Floor" "kind" "[I", Cond.fieldLink RX0 15 "DanceStillOwed$Floor" "number" "[I", Cond.fieldLink RX0 18 "DanceStillOwed$Floor" "done" "[I", Cond.fieldLink RX0 21 "DanceStillOwed$Floor" "debt" "[I", Cond.fieldLink RX0 27 "DanceStillOwed$Floor" "paidByLesser" "[I", Cond.fieldLink RX0 30 "DanceStillOwed$Floor" "paidByGreater" "[I", Cond.fieldLink RX0 33 "DanceStillOwed$Floor" "rules" "LDanceStillOwed$Rules;", Cond.instanceMethod yX1_init, Cond.code yX1_init cX1_init 1 none, Cond.methodLink RX1 3 objectInit, Cond.fieldLink RX1 9 "DanceStillOwed$Reader" "tape" "[I", Cond.fieldLink RX1 15 "DanceStillOwed$Reader" "code" "[I", Cond.fieldLink RX1 18 "DanceStillOwed$Reader" "ends" "[I", Cond.instanceMethod yX3_init, Cond.code yX3_init cX3_init 1 none, Cond.methodLink RX3 3 objectInit, Cond.fieldLink RX3 9 "DanceStillOwed$Sheet" "sort" "I", Cond.fieldLink RX3 15 "DanceStillOwed$Sheet" "row" "[I", Cond.methodLink RL 12 yX6_init]
def wsL_law_r4 : List Cond := [Cond.instanceMethod yX6_init, Cond.code yX6_init cX6_init 3 none, Cond.methodLink RX6 7 objectInit, Cond.fieldLink RX6 13 "DanceStillOwedModel" "texts" "[I", Cond.fieldLink RX6 17 "DanceStillOwedModel" "textSize" "[I", Cond.fieldLink RX6 20 "DanceStillOwedModel" "tape" "[I", Cond.fieldLink RX6 23 "DanceStillOwedModel" "kinds" "[I", Cond.fieldLink RX6 26 "DanceStillOwedModel" "rows" "[I", Cond.fieldLink RX6 29 "DanceStillOwedModel" "debts" "[I", Cond.fieldLink RX6 32 "DanceStillOwedModel" "matches" "[I", Cond.fieldLink RX6 35 "DanceStillOwedModel" "ring1" "[I", Cond.fieldLink RX6 38 "DanceStillOwedModel" "was" "[I", Cond.fieldLink RX6 41 "DanceStillOwedModel" "debtsThen" "[I", Cond.fieldLink RX6 44 "DanceStillOwedModel" "rowsThen" "[I", Cond.fieldLink RX6 47 "DanceStillOwedModel" "debtsWas" "[I", Cond.fieldLink RX6 50 "DanceStillOwedModel" "debtsKept" "[I", Cond.fieldLink RX6 53 "DanceStillOwedModel" "rowsKept" "[I", Cond.fieldLink RX6 56 "DanceStillOwedModel" "manyKept" "I", Cond.arrayClass .boolean, Cond.fieldLink RX6 59 "DanceStillOwedModel" "isThere" "[Z", Cond.fieldLink RX6 63 "DanceStillOwedModel" "sorts" "[I", Cond.fieldLink RX6 66 "DanceStillOwedModel" "sheetSize" "[I", Cond.fieldLink RX6 69 "DanceStillOwedModel" "items" "[I", Cond.fieldLink RX6 80 "DanceStillOwedModel" "textCount" "I"]
def wsL_law_r5 : List Cond := [Cond.methodLink RX6 72 yX6_isApart, Cond.static yX6_isApart, Cond.code yX6_isApart cX6_isApart 4 (some .boolean), Cond.methodLink RX6 314 yX6_both_, Cond.static yX6_both_, Cond.code yX6_both_ cX6_both_ 3 (some .int), Cond.methodLink RX6 76 yX6_spell, Cond.instanceMethod yX6_spell, Cond.selects RX6 yX6_spell yX6_spell, Cond.code yX6_spell cX6_spell 10 none, Cond.methodLink RL 13 yX5_set, Cond.instanceMethod yX5_set, Cond.selects RX5 yX5_set yX5_set, Cond.code yX5_set cX5_set 5 (some .int), Cond.fieldLink RX5 50 "DanceStillOwed" "GREATEST" "[I", Cond.fieldLink RX5 57 "DanceStillOwed$Floor" "round" "I", Cond.fieldLink RX5 61 "DanceStillOwed$Floor" "night" "I", Cond.fieldLink RX5 64 "DanceStillOwed$Floor" "number" "[I", Cond.fieldLink RX5 67 "DanceStillOwed$Floor" "done" "[I", Cond.fieldLink RX5 70 "DanceStillOwed$Floor" "debt" "[I", Cond.methodLink RX5 53 yX5_told, Cond.instanceMethod yX5_told, Cond.selects RX5 yX5_told yX5_told, Cond.code yX5_told cX5_told 4 (some .int)]
def wsL_law_r6 : List Cond := [Cond.fieldLink RX5 87 "DanceStillOwed$Floor" "kind" "[I", Cond.methodLink RX5 73 yX5_debtPlace, Cond.instanceMethod yX5_debtPlace, Cond.selects RX5 yX5_debtPlace yX5_debtPlace, Cond.code yX5_debtPlace cX5_debtPlace 4 (some .int), Cond.methodLink RX5 99 yX5_isTwo, Cond.instanceMethod yX5_isTwo, Cond.selects RX5 yX5_isTwo yX5_isTwo, Cond.code yX5_isTwo cX5_isTwo 3 (some .boolean), Cond.methodLink RX5 83 yX5_isDancer, Cond.instanceMethod yX5_isDancer, Cond.selects RX5 yX5_isDancer yX5_isDancer, Cond.code yX5_isDancer cX5_isDancer 2 (some .boolean), Cond.fieldLink RX5 77 "DanceStillOwed$Floor" "dancers" "I", Cond.methodLink RX5 90 yX0_breath, Cond.instanceMethod yX0_breath, Cond.selects RX0 yX0_breath yX0_breath, Cond.code yX0_breath cX0_breath 3 (some .int), Cond.methodLink RX0 75 yX0_value, Cond.instanceMethod yX0_value, Cond.selects RX0 yX0_value yX0_value, Cond.code yX0_value cX0_value 6 (some .int), Cond.fieldLink RX0 60 "DanceStillOwed$Rules" "names" "[I", Cond.fieldLink RX0 41 "DanceStillOwed$Floor" "round" "I"]
def wsL_law_r7 : List Cond := [Cond.fieldLink RX0 44 "DanceStillOwed$Floor" "night" "I", Cond.fieldLink RX0 47 "DanceStillOwed$Floor" "rule" "I", Cond.methodLink RX0 65 yX0_owedTo, Cond.instanceMethod yX0_owedTo, Cond.selects RX0 yX0_owedTo yX0_owedTo, Cond.code yX0_owedTo cX0_owedTo 4 (some .int), Cond.fieldLink RX0 37 "DanceStillOwed$Floor" "dancers" "I", Cond.methodLink RX0 68 yX2_value, Cond.instanceMethod yX2_value, Cond.selects RX2 yX2_value yX2_value, Cond.code yX2_value cX2_value 8 (some .int), Cond.fieldLink RX2 31 "DanceStillOwed$Text" "ends" "[I", Cond.fieldLink RX2 34 "DanceStillOwed$Text" "code" "[I", Cond.static yX5_within, Cond.code yX5_within cX5_within 2 (some .int), Cond.methodLink RX5 93 yX0_owes, Cond.instanceMethod yX0_owes, Cond.selects RX0 yX0_owes yX0_owes, Cond.code yX0_owes cX0_owes 4 (some .int), Cond.methodLink RX5 96 yX0_owedTo, Cond.methodLink RL 17 yX6_set, Cond.instanceMethod yX6_set, Cond.selects RX6 yX6_set yX6_set, Cond.code yX6_set cX6_set 5 (some .int)]
def wsL_law_r8 : List Cond := [Cond.constantLong RX6 97 (4), Cond.methodLink RX6 86 yX6_in, Cond.static yX6_in, Cond.code yX6_in cX6_in 6 (some .boolean), Cond.methodLink RX6 99 yX6_isOf, Cond.instanceMethod yX6_isOf, Cond.selects RX6 yX6_isOf yX6_isOf, Cond.code yX6_isOf cX6_isOf 3 (some .boolean), Cond.methodLink RX6 93 yX6_areTwo, Cond.instanceMethod yX6_areTwo, Cond.selects RX6 yX6_areTwo yX6_areTwo, Cond.code yX6_areTwo cX6_areTwo 3 (some .boolean), Cond.methodLink RX6 90 yX6_isOne, Cond.instanceMethod yX6_isOne, Cond.selects RX6 yX6_isOne yX6_isOne, Cond.code yX6_isOne cX6_isOne 2 (some .boolean), Cond.fieldLink RX6 83 "DanceStillOwedModel" "many" "I", Cond.methodLink RX6 102 yX6_mostOf, Cond.static yX6_mostOf, Cond.code yX6_mostOf cX6_mostOf 1 (some .int), Cond.methodLink RX6 106 yX6_told, Cond.instanceMethod yX6_told, Cond.selects RX6 yX6_told yX6_told, Cond.code yX6_told cX6_told 3 (some .int)]
def wsL_law_r9 : List Cond := [Cond.constantLong RX6 130 (8), Cond.fieldLink RX6 114 "DanceStillOwedModel" "roundNow" "I", Cond.fieldLink RX6 117 "DanceStillOwedModel" "nightNow" "I", Cond.methodLink RX6 120 yX6_placeOf, Cond.static yX6_placeOf, Cond.code yX6_placeOf cX6_placeOf 1 (some .int), Cond.methodLink RX6 132 yX6_breathOf, Cond.instanceMethod yX6_breathOf, Cond.selects RX6 yX6_breathOf yX6_breathOf, Cond.code yX6_breathOf cX6_breathOf 4 (some .int), Cond.methodLink RX6 266 yX6_says, Cond.instanceMethod yX6_says, Cond.selects RX6 yX6_says yX6_says, Cond.code yX6_says cX6_says 5 (some .int), Cond.fieldLink RX6 204 "DanceStillOwedModel" "ofDebt" "I", Cond.fieldLink RX6 207 "DanceStillOwedModel" "ofOwed" "I", Cond.fieldLink RX6 210 "DanceStillOwedModel" "ofNumber" "I", Cond.fieldLink RX6 213 "DanceStillOwedModel" "ofRound" "I", Cond.fieldLink RX6 216 "DanceStillOwedModel" "ofDone" "I", Cond.fieldLink RX6 219 "DanceStillOwedModel" "ofNight" "I", Cond.fieldLink RX6 123 "DanceStillOwedModel" "rule" "I", Cond.methodLink RX6 138 yX6_owedTo, Cond.instanceMethod yX6_owedTo, Cond.selects RX6 yX6_owedTo yX6_owedTo]
def wsL_law_r10 : List Cond := [Cond.code yX6_owedTo cX6_owedTo 4 (some .int), Cond.methodLink RX6 141 yX6_debtOf, Cond.instanceMethod yX6_debtOf, Cond.selects RX6 yX6_debtOf yX6_debtOf, Cond.code yX6_debtOf cX6_debtOf 3 (some .int), Cond.methodLink RX6 259 yX6_read, Cond.instanceMethod yX6_read, Cond.selects RX6 yX6_read yX6_read, Cond.code yX6_read cX6_read 6 (some .int), Cond.fieldLink RX6 152 "DanceStillOwedModel" "from" "I", Cond.fieldLink RX6 149 "DanceStillOwedModel" "size" "I", Cond.fieldLink RX6 155 "DanceStillOwedModel" "here" "I", Cond.fieldLink RX6 191 "DanceStillOwedModel" "open" "I", Cond.fieldLink RX6 181 "DanceStillOwedModel" "bad" "Z", Cond.fieldLink RX6 164 "DanceStillOwedModel" "token" "I", Cond.methodLink RX6 197 yX6_next, Cond.instanceMethod yX6_next, Cond.selects RX6 yX6_next yX6_next, Cond.code yX6_next cX6_next 3 none, Cond.fieldLink RX6 161 "DanceStillOwedModel" "tokenAt" "I", Cond.constantLong RX6 167 (97), Cond.constantLong RX6 169 (122), Cond.constantLong RX6 171 (48), Cond.constantLong RX6 173 (57)]
def wsL_law_r11 : List Cond := [Cond.fieldLink RX6 175 "DanceStillOwedModel" "tokenWorth" "J", Cond.constantLong RX6 179 (10), Cond.methodLink RX6 158 yX6_byteAt, Cond.instanceMethod yX6_byteAt, Cond.selects RX6 yX6_byteAt yX6_byteAt, Cond.code yX6_byteAt cX6_byteAt 2 (some .int), Cond.methodLink RX6 200 yX6_isWord, Cond.instanceMethod yX6_isWord, Cond.selects RX6 yX6_isWord yX6_isWord, Cond.code yX6_isWord cX6_isWord 9 (some .boolean), Cond.methodLink RX6 188 yX6_isLetter, Cond.instanceMethod yX6_isLetter, Cond.selects RX6 yX6_isLetter yX6_isLetter, Cond.code yX6_isLetter cX6_isLetter 3 (some .boolean), Cond.methodLink RX6 255 yX6_part, Cond.instanceMethod yX6_part, Cond.selects RX6 yX6_part yX6_part, Cond.code yX6_part cX6_part 3 (some .int), Cond.methodLink RX6 194 yX6_fail, Cond.instanceMethod yX6_fail, Cond.selects RX6 yX6_fail yX6_fail, Cond.code yX6_fail cX6_fail 1 none, Cond.fieldLink RX6 185 "DanceStillOwedModel" "fault" "I", Cond.methodLink RX6 233 yX6_either]
def wsL_law_r12 : List Cond := [Cond.instanceMethod yX6_either, Cond.selects RX6 yX6_either yX6_either, Cond.code yX6_either cX6_either 3 (some .int), Cond.methodLink RX6 252 yX6_both, Cond.instanceMethod yX6_both, Cond.selects RX6 yX6_both yX6_both, Cond.code yX6_added cX6_added 4 (some .int), Cond.constantLong RX6 242 (43), Cond.methodLink RX6 239 yX6_term, Cond.instanceMethod yX6_term, Cond.selects RX6 yX6_term yX6_term, Cond.methodLink RX6 222 yX6_isSign, Cond.instanceMethod yX6_isSign, Cond.selects RX6 yX6_isSign yX6_isSign, Cond.code yX6_isSign cX6_isSign 2 (some .boolean), Cond.code yX6_atom cX6_atom 2 (some .int), Cond.methodLink RX6 225 yX6_opens, Cond.instanceMethod yX6_opens, Cond.selects RX6 yX6_opens yX6_opens, Cond.code yX6_opens cX6_opens 1 (some .boolean), Cond.methodLink RX6 229 yX6_atom, Cond.instanceMethod yX6_atom, Cond.selects RX6 yX6_atom yX6_atom, Cond.methodLink RX6 236 yX6_name]
def wsL_law_r13 : List Cond := [Cond.instanceMethod yX6_name, Cond.selects RX6 yX6_name yX6_name, Cond.code yX6_name cX6_name 1 (some .int), Cond.code yX6_both cX6_both 3 (some .int), Cond.methodLink RX6 244 yX6_not, Cond.instanceMethod yX6_not, Cond.selects RX6 yX6_not yX6_not, Cond.code yX6_not cX6_not 4 (some .int), Cond.constantLong RX6 250 (60), Cond.methodLink RX6 247 yX6_added, Cond.instanceMethod yX6_added, Cond.selects RX6 yX6_added yX6_added, Cond.code yX6_term cX6_term 2 (some .int), Cond.methodLink RX6 262 yX6_within, Cond.static yX6_within, Cond.code yX6_within cX6_within 3 (some .int), Cond.methodLink RX6 135 yX6_owesOf, Cond.instanceMethod yX6_owesOf, Cond.selects RX6 yX6_owesOf yX6_owesOf, Cond.code yX6_owesOf cX6_owesOf 4 (some .int), Cond.methodLink RX6 110 yX6_lays, Cond.instanceMethod yX6_lays, Cond.selects RX6 yX6_lays yX6_lays, Cond.code yX6_lays cX6_lays 4 none]
def wsL_law_r14 : List Cond := [Cond.methodLink RL 18 yX5_dancer, Cond.instanceMethod yX5_dancer, Cond.selects RX5 yX5_dancer yX5_dancer, Cond.code yX5_dancer cX5_dancer 3 (some .int), Cond.methodLink RX5 80 yX0_join, Cond.instanceMethod yX0_join, Cond.selects RX0 yX0_join yX0_join, Cond.code yX0_join cX0_join 3 (some .int), Cond.methodLink RL 22 yX6_dancer, Cond.instanceMethod yX6_dancer, Cond.selects RX6 yX6_dancer yX6_dancer, Cond.code yX6_dancer cX6_dancer 4 (some .int), Cond.constantLong RX6 126 (5), Cond.constantLong RX6 128 (9), Cond.methodLink RL 23 yX5_told, Cond.methodLink RL 26 yX6_told, Cond.methodLink RL 27 yX5_asks, Cond.instanceMethod yX5_asks, Cond.selects RX5 yX5_asks yX5_asks, Cond.code yX5_asks cX5_asks 4 (some .int), Cond.methodLink RX5 103 yX0_owing, Cond.instanceMethod yX0_owing, Cond.selects RX0 yX0_owing yX0_owing, Cond.code yX0_owing cX0_owing 3 (some .int)]
def wsL_law_r15 : List Cond := [Cond.methodLink RX5 106 yX0_pays, Cond.instanceMethod yX0_pays, Cond.selects RX0 yX0_pays yX0_pays, Cond.code yX0_pays cX0_pays 4 (some .int), Cond.methodLink RX5 109 yX0_will, Cond.instanceMethod yX0_will, Cond.selects RX0 yX0_will yX0_will, Cond.code yX0_will cX0_will 5 (some .boolean), Cond.methodLink RX0 78 yX0_owing, Cond.methodLink RX5 112 yX0_may, Cond.instanceMethod yX0_may, Cond.selects RX0 yX0_may yX0_may, Cond.code yX0_may cX0_may 3 (some .boolean), Cond.methodLink RX0 81 yX0_will, Cond.methodLink RX0 85 yX0_breath, Cond.methodLink RL 30 yX6_asks, Cond.instanceMethod yX6_asks, Cond.selects RX6 yX6_asks yX6_asks, Cond.code yX6_asks cX6_asks 4 (some .int), Cond.constantLong RX6 275 (2), Cond.methodLink RX6 277 yX6_paysOf, Cond.instanceMethod yX6_paysOf, Cond.selects RX6 yX6_paysOf yX6_paysOf, Cond.code yX6_paysOf cX6_paysOf 5 (some .int)]
def wsL_law_r16 : List Cond := [Cond.methodLink RX6 269 yX6_willOf, Cond.instanceMethod yX6_willOf, Cond.selects RX6 yX6_willOf yX6_willOf, Cond.code yX6_willOf cX6_willOf 5 (some .boolean), Cond.methodLink RX6 280 yX6_mayDance, Cond.instanceMethod yX6_mayDance, Cond.selects RX6 yX6_mayDance yX6_mayDance, Cond.code yX6_mayDance cX6_mayDance 3 (some .boolean), Cond.methodLink RX6 272 yX6_hasBreath, Cond.instanceMethod yX6_hasBreath, Cond.selects RX6 yX6_hasBreath yX6_hasBreath, Cond.code yX6_hasBreath cX6_hasBreath 2 (some .boolean), Cond.methodLink RL 31 yX5_feed, Cond.instanceMethod yX5_feed, Cond.selects RX5 yX5_feed yX5_feed, Cond.code yX5_feed cX5_feed 2 (some .int), Cond.fieldLink RX5 118 "DanceStillOwed$Reader" "size" "I", Cond.methodLink RX5 115 yX1_hold, Cond.instanceMethod yX1_hold, Cond.selects RX1 yX1_hold yX1_hold, Cond.code yX1_hold cX1_hold 2 (some .boolean), Cond.fieldLink RX1 21 "DanceStillOwed$Reader" "size" "I", Cond.methodLink RL 35 yX6_feed, Cond.instanceMethod yX6_feed]
def wsL_law_r17 : List Cond := [Cond.selects RX6 yX6_feed yX6_feed, Cond.code yX6_feed cX6_feed 2 (some .int), Cond.constantLong RX6 144 (255), Cond.fieldLink RX6 146 "DanceStillOwedModel" "taped" "I", Cond.methodLink RL 36 yX5_text, Cond.instanceMethod yX5_text, Cond.selects RX5 yX5_text yX5_text, Cond.code yX5_text cX5_text 2 (some .int), Cond.fieldLink RX5 121 "DanceStillOwed$Rules" "count" "I", Cond.fieldLink RX5 128 "DanceStillOwed$Reader" "begin" "I", Cond.methodLink RX5 124 yX1_read, Cond.instanceMethod yX1_read, Cond.selects RX1 yX1_read yX1_read, Cond.code yX1_read cX1_read 3 (some (.object "DanceStillOwed$Text")), Cond.fieldLink RX1 25 "DanceStillOwed$Reader" "used" "I", Cond.fieldLink RX1 28 "DanceStillOwed$Reader" "at" "I", Cond.fieldLink RX1 31 "DanceStillOwed$Reader" "open" "I", Cond.fieldLink RX1 45 "DanceStillOwed$Reader" "token" "I", Cond.methodLink RX1 48 arraycopyName, Cond.native arraycopyName, Cond.static arraycopyName, Cond.initialized "java/lang/System", Cond.classLink RX1 54 RX4, Cond.methodLink RX1 56 ⟨"[I", "clone", "()Ljava/lang/Object;"⟩]
def wsL_law_r18 : List Cond := [Cond.sameMethod "[I" "java/lang/Object" "clone" "()Ljava/lang/Object;", Cond.native ⟨"java/lang/Object", "clone", "()Ljava/lang/Object;"⟩, Cond.instanceMethod ⟨"java/lang/Object", "clone", "()Ljava/lang/Object;"⟩, Cond.selects "[I" ⟨"[I", "clone", "()Ljava/lang/Object;"⟩ ⟨"java/lang/Object", "clone", "()Ljava/lang/Object;"⟩, Cond.classLink RX1 57 "[I", Cond.methodLink RX1 34 yX1_next, Cond.instanceMethod yX1_next, Cond.selects RX1 yX1_next yX1_next, Cond.code yX1_next cX1_next 1 none, Cond.fieldLink RX1 91 "DanceStillOwed$Reader" "begin" "I", Cond.methodLink RX1 94 yX1_isDigit, Cond.static yX1_isDigit, Cond.code yX1_isDigit cX1_isDigit 1 (some .boolean), Cond.methodLink RX1 97 yX1_nextNumber, Cond.instanceMethod yX1_nextNumber, Cond.selects RX1 yX1_nextNumber yX1_nextNumber, Cond.code yX1_nextNumber cX1_nextNumber 1 none, Cond.fieldLink RX1 88 "DanceStillOwed$Reader" "number" "I", Cond.methodLink RX1 100 yX1_isLetter, Cond.static yX1_isLetter, Cond.code yX1_isLetter cX1_isLetter 1 (some .boolean), Cond.methodLink RX1 103 yX1_nextWord, Cond.instanceMethod yX1_nextWord, Cond.selects RX1 yX1_nextWord yX1_nextWord]
def wsL_law_r19 : List Cond := [Cond.code yX1_nextWord cX1_nextWord 1 none, Cond.methodLink RX1 116 yX1_spells, Cond.instanceMethod yX1_spells, Cond.selects RX1 yX1_spells yX1_spells, Cond.code yX1_spells cX1_spells 3 (some .boolean), Cond.methodLink RX1 141 yJ0_length_8abf5, Cond.instanceMethod yJ0_length_8abf5, Cond.selects RJ0 yJ0_length_8abf5 yJ0_length_8abf5, Cond.initialized RJ0, Cond.code yJ0_length_8abf5 cJ0_length_8abf5 1 (some .int), Cond.fieldLink RJ0 9 "java/lang/String" "value" "[B", Cond.methodLink RJ0 335 yJ0_coder_7d493, Cond.instanceMethod yJ0_coder_7d493, Cond.selects RJ0 yJ0_coder_7d493 yJ0_coder_7d493, Cond.code yJ0_coder_7d493 cJ0_coder_7d493 1 (some .byte), Cond.fieldLink RJ0 38 "java/lang/String" "COMPACT_STRINGS" "Z", Cond.fieldLink RJ0 15 "java/lang/String" "coder" "B", Cond.methodLink RX1 145 yJ0_charAt_5068e, Cond.instanceMethod yJ0_charAt_5068e, Cond.selects RJ0 yJ0_charAt_5068e yJ0_charAt_5068e, Cond.code yJ0_charAt_5068e cJ0_charAt_5068e 2 (some .char), Cond.methodLink RJ0 492 yJ0_isLatin1_aae02, Cond.instanceMethod yJ0_isLatin1_aae02, Cond.selects RJ0 yJ0_isLatin1_aae02 yJ0_isLatin1_aae02]
def wsL_law_r20 : List Cond := [Cond.code yJ0_isLatin1_aae02 cJ0_isLatin1_aae02 1 (some .boolean), Cond.methodLink RJ0 495 yJ1_charAt_3b067, Cond.static yJ1_charAt_3b067, Cond.initialized RJ1, Cond.code yJ1_charAt_3b067 cJ1_charAt_3b067 2 (some .char), Cond.methodLink RJ1 9 yJ0_checkIndex_df160, Cond.static yJ0_checkIndex_df160, Cond.code yJ0_checkIndex_df160 cJ0_checkIndex_df160 2 none, Cond.fieldLink RJ0 1053 "jdk/internal/util/Preconditions" "SIOOBE_FORMATTER" "Ljava/util/function/BiFunction;", Cond.methodLink RJ0 1059 yJ3_checkIndex_8e157, Cond.static yJ3_checkIndex_8e157, Cond.initialized RJ3, Cond.code yJ3_checkIndex_8e157 cJ3_checkIndex_8e157 3 (some .int), Cond.methodLink RJ0 498 yJ2_charAt_3b067, Cond.static yJ2_charAt_3b067, Cond.initialized RJ2, Cond.code yJ2_charAt_3b067 cJ2_charAt_3b067 2 (some .char), Cond.methodLink RJ2 67 yJ2_checkIndex_2214a, Cond.static yJ2_checkIndex_2214a, Cond.code yJ2_checkIndex_2214a cJ2_checkIndex_2214a 2 none, Cond.methodLink RJ2 48 yJ2_length_9d52b, Cond.static yJ2_length_9d52b, Cond.code yJ2_length_9d52b cJ2_length_9d52b 1 (some .int), Cond.methodLink RJ2 414 yJ0_checkIndex_df160]
def wsL_law_r21 : List Cond := [Cond.methodLink RJ2 71 yJ2_getChar_3b067, Cond.static yJ2_getChar_3b067, Cond.code yJ2_getChar_3b067 cJ2_getChar_3b067 2 (some .char), Cond.fieldLink RJ2 44 "java/lang/StringUTF16" "$assertionsDisabled" "Z", Cond.fieldLink RJ2 59 "java/lang/StringUTF16" "HI_BYTE_SHIFT" "I", Cond.fieldLink RJ2 63 "java/lang/StringUTF16" "LO_BYTE_SHIFT" "I", Cond.methodLink RX1 108 yJ0_indexOf_0f7a4, Cond.instanceMethod yJ0_indexOf_0f7a4, Cond.selects RJ0 yJ0_indexOf_0f7a4 yJ0_indexOf_0f7a4, Cond.code yJ0_indexOf_0f7a4 cJ0_indexOf_0f7a4 2 (some .int), Cond.methodLink RJ0 633 yJ0_indexOf_7cf53, Cond.instanceMethod yJ0_indexOf_7cf53, Cond.selects RJ0 yJ0_indexOf_7cf53 yJ0_indexOf_7cf53, Cond.code yJ0_indexOf_7cf53 cJ0_indexOf_7cf53 3 (some .int), Cond.methodLink RJ0 505 yJ0_length_8abf5, Cond.methodLink RJ0 637 yJ1_indexOf_4cfef, Cond.static yJ1_indexOf_4cfef, Cond.code yJ1_indexOf_4cfef cJ1_indexOf_4cfef 4 (some .int), Cond.methodLink RJ1 92 Lib.Math.max.name, Cond.static Lib.Math.max.name, Cond.initialized "java/lang/Math", Cond.code Lib.Math.max.name Lib.Math.max.code 2 (some .int), Cond.methodLink RJ1 38 Lib.Math.min.name, Cond.static Lib.Math.min.name]
def wsL_law_r22 : List Cond := [Cond.code Lib.Math.min.name Lib.Math.min.code 2 (some .int), Cond.methodLink RJ1 88 yJ1_canEncode_9a6ad, Cond.static yJ1_canEncode_9a6ad, Cond.code yJ1_canEncode_9a6ad cJ1_canEncode_9a6ad 1 (some .boolean), Cond.methodLink RJ1 95 yJ1_indexOfChar_4cfef, Cond.static yJ1_indexOfChar_4cfef, Cond.code yJ1_indexOfChar_4cfef cJ1_indexOfChar_4cfef 6 (some .int), Cond.methodLink RJ0 640 yJ2_indexOf_4cfef, Cond.static yJ2_indexOf_4cfef, Cond.code yJ2_indexOf_4cfef cJ2_indexOf_4cfef 4 (some .int), Cond.methodLink RJ2 224 Lib.Math.max.name, Cond.methodLink RJ2 183 Lib.Math.min.name, Cond.constant RJ2 227 (65536), Cond.methodLink RJ2 228 yJ2_indexOfChar_4cfef, Cond.static yJ2_indexOfChar_4cfef, Cond.code yJ2_indexOfChar_4cfef cJ2_indexOfChar_4cfef 4 (some .int), Cond.methodLink RJ2 96 yJ2_checkBoundsBeginEnd_d044e, Cond.static yJ2_checkBoundsBeginEnd_d044e, Cond.code yJ2_checkBoundsBeginEnd_d044e cJ2_checkBoundsBeginEnd_d044e 3 none, Cond.methodLink RJ2 241 yJ0_checkBoundsBeginEnd_23922, Cond.static yJ0_checkBoundsBeginEnd_23922, Cond.code yJ0_checkBoundsBeginEnd_23922 cJ0_checkBoundsBeginEnd_23922 3 none, Cond.methodLink RJ0 1062 yJ3_checkFromToIndex_8c36e, Cond.static yJ3_checkFromToIndex_8c36e]
def wsL_law_r23 : List Cond := [Cond.code yJ3_checkFromToIndex_8c36e cJ3_checkFromToIndex_8c36e 4 (some .int), Cond.methodLink RJ2 244 yJ2_indexOfCharUnsafe_4cfef, Cond.static yJ2_indexOfCharUnsafe_4cfef, Cond.code yJ2_indexOfCharUnsafe_4cfef cJ2_indexOfCharUnsafe_4cfef 5 (some .int), Cond.methodLink RJ2 232 yJ2_indexOfSupplementary_4cfef, Cond.static yJ2_indexOfSupplementary_4cfef, Cond.code yJ2_indexOfSupplementary_4cfef cJ2_indexOfSupplementary_4cfef 7 (some .int), Cond.methodLink RJ2 164 yJ11_isValidCodePoint_9a6ad, Cond.static yJ11_isValidCodePoint_9a6ad, Cond.initialized RJ11, Cond.code yJ11_isValidCodePoint_9a6ad cJ11_isValidCodePoint_9a6ad 2 (some .boolean), Cond.methodLink RJ2 157 yJ11_highSurrogate_5068e, Cond.static yJ11_highSurrogate_5068e, Cond.code yJ11_highSurrogate_5068e cJ11_highSurrogate_5068e 1 (some .char), Cond.constant RJ11 110 (55232), Cond.methodLink RJ2 161 yJ11_lowSurrogate_5068e, Cond.static yJ11_lowSurrogate_5068e, Cond.code yJ11_lowSurrogate_5068e cJ11_lowSurrogate_5068e 1 (some .char), Cond.constant RJ11 76 (56320), Cond.methodLink RX1 37 yX1_pass, Cond.instanceMethod yX1_pass, Cond.selects RX1 yX1_pass yX1_pass, Cond.code yX1_pass cX1_pass 2 (some .boolean), Cond.methodLink RX1 41 yX1_either]
def wsL_law_r24 : List Cond := [Cond.instanceMethod yX1_either, Cond.selects RX1 yX1_either yX1_either, Cond.code yX1_either cX1_either 3 (some .boolean), Cond.methodLink RX1 64 yX1_both, Cond.instanceMethod yX1_both, Cond.selects RX1 yX1_both yX1_both, Cond.methodLink RX1 67 yX1_put, Cond.instanceMethod yX1_put, Cond.selects RX1 yX1_put yX1_put, Cond.code yX1_put cX1_put 2 (some .boolean), Cond.code yX1_both cX1_both 3 (some .boolean), Cond.methodLink RX1 70 yX1_denied, Cond.instanceMethod yX1_denied, Cond.selects RX1 yX1_denied yX1_denied, Cond.code yX1_compared cX1_compared 2 (some .boolean), Cond.methodLink RX1 79 yX1_sum, Cond.instanceMethod yX1_sum, Cond.selects RX1 yX1_sum yX1_sum, Cond.code yX1_denied cX1_denied 2 (some .boolean), Cond.methodLink RX1 73 yX1_compared, Cond.instanceMethod yX1_compared, Cond.selects RX1 yX1_compared yX1_compared, Cond.methodLink RX1 76 yX1_opens, Cond.instanceMethod yX1_opens]
def wsL_law_r25 : List Cond := [Cond.selects RX1 yX1_opens yX1_opens, Cond.code yX1_opens cX1_opens 1 (some .boolean), Cond.code yX1_one cX1_one 3 (some .boolean), Cond.methodLink RX1 85 yX1_one, Cond.instanceMethod yX1_one, Cond.selects RX1 yX1_one yX1_one, Cond.code yX1_sum cX1_sum 4 (some .boolean), Cond.methodLink RX1 82 yX1_term, Cond.instanceMethod yX1_term, Cond.selects RX1 yX1_term yX1_term, Cond.code yX1_term cX1_term 3 (some .boolean), Cond.methodLink RX1 61 yX4_init, Cond.methodLink RX5 131 yX2_keep, Cond.instanceMethod yX2_keep, Cond.selects RX2 yX2_keep yX2_keep, Cond.code yX2_keep cX2_keep 2 (some .int), Cond.methodLink RL 40 yX6_text, Cond.instanceMethod yX6_text, Cond.selects RX6 yX6_text yX6_text, Cond.code yX6_text cX6_text 2 (some .int), Cond.methodLink RL 41 yX5_force, Cond.instanceMethod yX5_force, Cond.selects RX5 yX5_force yX5_force, Cond.code yX5_force cX5_force 3 (some .int)]
def wsL_law_r26 : List Cond := [Cond.fieldLink RX5 135 "DanceStillOwed$Floor" "rule" "I", Cond.methodLink RL 44 yX6_force, Cond.instanceMethod yX6_force, Cond.selects RX6 yX6_force yX6_force, Cond.code yX6_force cX6_force 3 (some .int), Cond.methodLink RL 45 yX5_dance, Cond.instanceMethod yX5_dance, Cond.selects RX5 yX5_dance yX5_dance, Cond.code yX5_dance cX5_dance 3 (some .int), Cond.methodLink RX5 138 yX0_step, Cond.instanceMethod yX0_step, Cond.selects RX0 yX0_step yX0_step, Cond.code yX0_step cX0_step 5 (some .int), Cond.methodLink RX0 88 yX0_pays, Cond.methodLink RX0 91 yX0_settle, Cond.instanceMethod yX0_settle, Cond.selects RX0 yX0_settle yX0_settle, Cond.code yX0_settle cX0_settle 5 none, Cond.methodLink RX0 99 Lib.Math.min.name, Cond.methodLink RX0 95 yX0_lessen, Cond.instanceMethod yX0_lessen, Cond.selects RX0 yX0_lessen yX0_lessen, Cond.code yX0_lessen cX0_lessen 4 none, Cond.methodLink RL 48 yX6_dance]
def wsL_law_r27 : List Cond := [Cond.instanceMethod yX6_dance, Cond.selects RX6 yX6_dance yX6_dance, Cond.code yX6_dance cX6_dance 3 (some .int), Cond.methodLink RX6 287 yX6_danceBoth, Cond.instanceMethod yX6_danceBoth, Cond.selects RX6 yX6_danceBoth yX6_danceBoth, Cond.code yX6_danceBoth cX6_danceBoth 5 (some .int), Cond.methodLink RX6 283 yX6_dances, Cond.instanceMethod yX6_dances, Cond.selects RX6 yX6_dances yX6_dances, Cond.code yX6_dances cX6_dances 2 none, Cond.methodLink RL 49 yX5_round, Cond.instanceMethod yX5_round, Cond.selects RX5 yX5_round yX5_round, Cond.code yX5_round cX5_round 1 (some .int), Cond.methodLink RX5 141 yX0_danceRound, Cond.instanceMethod yX0_danceRound, Cond.selects RX0 yX0_danceRound yX0_danceRound, Cond.code yX0_danceRound cX0_danceRound 6 (some .int), Cond.fieldLink RX0 104 "DanceStillOwed$Floor" "danced" "I", Cond.methodLink RX0 110 yX0_may, Cond.methodLink RX0 113 yX0_step, Cond.methodLink RL 52 yX6_round, Cond.instanceMethod yX6_round]
def wsL_law_r28 : List Cond := [Cond.selects RX6 yX6_round yX6_round, Cond.code yX6_round cX6_round 1 (some .int), Cond.methodLink RX6 293 yX6_passes, Cond.instanceMethod yX6_passes, Cond.selects RX6 yX6_passes yX6_passes, Cond.code yX6_passes cX6_passes 5 (some .int), Cond.fieldLink RX6 290 "DanceStillOwedModel" "dancedSet" "I", Cond.methodLink RL 53 yX5_night, Cond.instanceMethod yX5_night, Cond.selects RX5 yX5_night yX5_night, Cond.code yX5_night cX5_night 1 (some .int), Cond.methodLink RX5 145 yX0_endNight, Cond.instanceMethod yX0_endNight, Cond.selects RX0 yX0_endNight yX0_endNight, Cond.code yX0_endNight cX0_endNight 3 (some .int), Cond.methodLink RL 56 yX6_night, Cond.instanceMethod yX6_night, Cond.selects RX6 yX6_night yX6_night, Cond.code yX6_night cX6_night 3 (some .int), Cond.methodLink RL 57 yX5_strike, Cond.instanceMethod yX5_strike, Cond.selects RX5 yX5_strike yX5_strike, Cond.code yX5_strike cX5_strike 5 (some .int), Cond.methodLink RX5 151 Lib.Math.min.name]
def wsL_law_r29 : List Cond := [Cond.methodLink RX5 148 yX5_readRing, Cond.instanceMethod yX5_readRing, Cond.selects RX5 yX5_readRing yX5_readRing, Cond.code yX5_readRing cX5_readRing 6 (some .int), Cond.methodLink RX5 156 yX0_lessen, Cond.methodLink RL 60 yX6_strike, Cond.instanceMethod yX6_strike, Cond.selects RX6 yX6_strike yX6_strike, Cond.code yX6_strike cX6_strike 5 (some .int), Cond.methodLink RX6 297 yX6_ringOf, Cond.instanceMethod yX6_ringOf, Cond.selects RX6 yX6_ringOf yX6_ringOf, Cond.code yX6_ringOf cX6_ringOf 6 (some .int), Cond.constant RX6 296 (54321), Cond.methodLink RL 61 yX5_run, Cond.instanceMethod yX5_run, Cond.selects RX5 yX5_run yX5_run, Cond.code yX5_run cX5_run 7 (some .int), Cond.methodLink RX5 160 yX5_think, Cond.instanceMethod yX5_think, Cond.selects RX5 yX5_think yX5_think, Cond.code yX5_think cX5_think 1 (some (.object "DanceStillOwed$Floor")), Cond.methodLink RX5 170 yX0_takeFrom, Cond.instanceMethod yX0_takeFrom]
def wsL_law_r30 : List Cond := [Cond.selects RX0 yX0_takeFrom yX0_takeFrom, Cond.code yX0_takeFrom cX0_takeFrom 2 none, Cond.methodLink RX0 50 arraycopyName, Cond.methodLink RX5 164 yX0_all, Cond.instanceMethod yX0_all, Cond.selects RX0 yX0_all yX0_all, Cond.code yX0_all cX0_all 3 (some .int), Cond.methodLink RX0 56 yX0_owes, Cond.methodLink RX5 167 yX0_stillOwed, Cond.instanceMethod yX0_stillOwed, Cond.selects RX0 yX0_stillOwed yX0_stillOwed, Cond.code yX0_stillOwed cX0_stillOwed 3 (some .int), Cond.methodLink RL 65 yX6_run, Cond.instanceMethod yX6_run, Cond.selects RX6 yX6_run yX6_run, Cond.code yX6_run cX6_run 6 (some .int), Cond.constantLong RX6 300 (40), Cond.methodLink RX6 302 yX6_laysAside, Cond.instanceMethod yX6_laysAside, Cond.selects RX6 yX6_laysAside yX6_laysAside, Cond.code yX6_laysAside cX6_laysAside 2 none, Cond.methodLink RX6 305 yX6_owedAll, Cond.instanceMethod yX6_owedAll, Cond.selects RX6 yX6_owedAll yX6_owedAll]
def wsL_law_r31 : List Cond := [Cond.code yX6_owedAll cX6_owedAll 3 (some .int), Cond.methodLink RX6 308 yX6_owedSet, Cond.instanceMethod yX6_owedSet, Cond.selects RX6 yX6_owedSet yX6_owedSet, Cond.code yX6_owedSet cX6_owedSet 3 (some .int), Cond.methodLink RX6 311 yX6_laysBack, Cond.instanceMethod yX6_laysBack, Cond.selects RX6 yX6_laysBack yX6_laysBack, Cond.code yX6_laysBack cX6_laysBack 2 none, Cond.methodLink RL 66 yX5_best, Cond.instanceMethod yX5_best, Cond.selects RX5 yX5_best yX5_best, Cond.code yX5_best cX5_best 2 (some .int), Cond.methodLink RX5 174 yX0_weigh, Cond.instanceMethod yX0_weigh, Cond.selects RX0 yX0_weigh yX0_weigh, Cond.code yX0_weigh cX0_weigh 4 none, Cond.fieldLink RX0 128 "DanceStillOwed$Floor" "mayDance" "I", Cond.methodLink RX5 177 yX0_bestSet, Cond.instanceMethod yX0_bestSet, Cond.selects RX0 yX0_bestSet yX0_bestSet, Cond.code yX0_bestSet cX0_bestSet 5 (some .int), Cond.methodLink RX0 134 yX0_mayAll, Cond.instanceMethod yX0_mayAll]
def wsL_law_r32 : List Cond := [Cond.selects RX0 yX0_mayAll yX0_mayAll, Cond.code yX0_mayAll cX0_mayAll 2 (some .boolean), Cond.methodLink RX0 138 yX0_paidBy, Cond.instanceMethod yX0_paidBy, Cond.selects RX0 yX0_paidBy yX0_paidBy, Cond.code yX0_paidBy cX0_paidBy 4 (some .int), Cond.methodLink RX5 180 yX0_paidBy, Cond.methodLink RX5 183 yX5_sitters, Cond.instanceMethod yX5_sitters, Cond.selects RX5 yX5_sitters yX5_sitters, Cond.code yX5_sitters cX5_sitters 2 (some .int), Cond.fieldLink RX5 206 "DanceStillOwed$Floor" "danced" "I", Cond.methodLink RX5 186 yX5_soonest, Cond.instanceMethod yX5_soonest, Cond.selects RX5 yX5_soonest yX5_soonest, Cond.code yX5_soonest cX5_soonest 2 (some .int), Cond.methodLink RX5 209 yX5_clears, Cond.instanceMethod yX5_clears, Cond.selects RX5 yX5_clears yX5_clears, Cond.code yX5_clears cX5_clears 7 (some .boolean), Cond.fieldLink RX5 215 "DanceStillOwed" "SETS" "[I", Cond.methodLink RX5 212 yX0_mostToMeet, Cond.instanceMethod yX0_mostToMeet, Cond.selects RX0 yX0_mostToMeet yX0_mostToMeet]
def wsL_law_r33 : List Cond := [Cond.code yX0_mostToMeet cX0_mostToMeet 5 (some .int), Cond.methodLink RX0 121 Lib.Math.max.name, Cond.methodLink RX5 218 yX0_mayAll, Cond.methodLink RX5 221 yX0_danceSet, Cond.instanceMethod yX0_danceSet, Cond.selects RX0 yX0_danceSet yX0_danceSet, Cond.code yX0_danceSet cX0_danceSet 4 none, Cond.methodLink RX5 189 yX0_least, Cond.instanceMethod yX0_least, Cond.selects RX0 yX0_least yX0_least, Cond.code yX0_least cX0_least 3 (some .int), Cond.methodLink RX5 192 yX0_ring, Cond.instanceMethod yX0_ring, Cond.selects RX0 yX0_ring yX0_ring, Cond.code yX0_ring cX0_ring 3 (some .int), Cond.methodLink RX0 124 yX0_longest, Cond.instanceMethod yX0_longest, Cond.selects RX0 yX0_longest yX0_longest, Cond.code yX0_longest cX0_longest 7 (some .int), Cond.methodLink RX5 194 yX0_ends, Cond.instanceMethod yX0_ends, Cond.selects RX0 yX0_ends yX0_ends, Cond.code yX0_ends cX0_ends 2 (some .int), Cond.methodLink RX0 116 yX0_danceRound]
def wsL_law_r34 : List Cond := [Cond.methodLink RX5 197 yX0_keeps, Cond.instanceMethod yX0_keeps, Cond.selects RX0 yX0_keeps yX0_keeps, Cond.code yX0_keeps cX0_keeps 5 (some .int), Cond.methodLink RL 69 yX6_best, Cond.instanceMethod yX6_best, Cond.selects RX6 yX6_best yX6_best, Cond.code yX6_best cX6_best 2 (some .int), Cond.methodLink RX6 336 yX6_bestSet, Cond.instanceMethod yX6_bestSet, Cond.selects RX6 yX6_bestSet yX6_bestSet, Cond.code yX6_bestSet cX6_bestSet 7 (some .int), Cond.methodLink RX6 322 yX6_isSet, Cond.instanceMethod yX6_isSet, Cond.selects RX6 yX6_isSet yX6_isSet, Cond.code yX6_isSet cX6_isSet 4 (some .boolean), Cond.methodLink RX6 316 yX6_greater, Cond.static yX6_greater, Cond.code yX6_greater cX6_greater 1 (some .int), Cond.methodLink RX6 319 yX6_lesser, Cond.static yX6_lesser, Cond.code yX6_lesser cX6_lesser 1 (some .int), Cond.methodLink RX6 325 yX6_dancesOf, Cond.instanceMethod yX6_dancesOf]
def wsL_law_r35 : List Cond := [Cond.selects RX6 yX6_dancesOf yX6_dancesOf, Cond.code yX6_dancesOf cX6_dancesOf 4 (some .int), Cond.methodLink RX6 339 yX6_nextRound, Cond.instanceMethod yX6_nextRound, Cond.selects RX6 yX6_nextRound yX6_nextRound, Cond.code yX6_nextRound cX6_nextRound 4 (some .int), Cond.methodLink RX6 342 yX6_soonest, Cond.instanceMethod yX6_soonest, Cond.selects RX6 yX6_soonest yX6_soonest, Cond.code yX6_soonest cX6_soonest 2 (some .int), Cond.methodLink RX6 328 yX6_isPaidBy, Cond.instanceMethod yX6_isPaidBy, Cond.selects RX6 yX6_isPaidBy yX6_isPaidBy, Cond.code yX6_isPaidBy cX6_isPaidBy 5 (some .boolean), Cond.methodLink RX6 345 yX6_leastOwed, Cond.instanceMethod yX6_leastOwed, Cond.selects RX6 yX6_leastOwed yX6_leastOwed, Cond.code yX6_leastOwed cX6_leastOwed 3 (some .int), Cond.constant RX6 331 (99999), Cond.methodLink RX6 348 yX6_longestRing, Cond.instanceMethod yX6_longestRing, Cond.selects RX6 yX6_longestRing yX6_longestRing, Cond.code yX6_longestRing cX6_longestRing 4 (some .int), Cond.methodLink RX6 332 yX6_ringFrom]
def wsL_law_r36 : List Cond := [Cond.instanceMethod yX6_ringFrom, Cond.selects RX6 yX6_ringFrom yX6_ringFrom, Cond.code yX6_ringFrom cX6_ringFrom 8 (some .int), Cond.methodLink RX6 351 yX6_ends, Cond.instanceMethod yX6_ends, Cond.selects RX6 yX6_ends yX6_ends, Cond.code yX6_ends cX6_ends 2 (some .int), Cond.methodLink RX6 354 yX6_keeper, Cond.instanceMethod yX6_keeper, Cond.selects RX6 yX6_keeper yX6_keeper, Cond.code yX6_keeper cX6_keeper 4 (some .int), Cond.methodLink RL 70 yX5_share, Cond.instanceMethod yX5_share, Cond.selects RX5 yX5_share yX5_share, Cond.code yX5_share cX5_share 4 (some .long), Cond.constantLong RX5 200 (-4611686018427387904), Cond.methodLink RX5 202 yX5_lowest, Cond.static yX5_lowest, Cond.code yX5_lowest cX5_lowest 7 (some .long), Cond.methodLink RL 74 yX6_share, Cond.instanceMethod yX6_share, Cond.selects RX6 yX6_share yX6_share, Cond.code yX6_share cX6_share 3 (some .long), Cond.constantLong RX6 361 (-4611686018427387904)]
def wsL_law_r37 : List Cond := [Cond.methodLink RX6 357 yX6_lowest, Cond.static yX6_lowest, Cond.code yX6_lowest cX6_lowest 11 (some .long), Cond.methodLink RL 75 yX5_tells, Cond.instanceMethod yX5_tells, Cond.selects RX5 yX5_tells yX5_tells, Cond.code yX5_tells cX5_tells 6 (some .int), Cond.fieldLink RX5 228 "DanceStillOwed$Sheet" "sort" "I", Cond.fieldLink RX5 231 "DanceStillOwed$Sheet" "size" "I", Cond.methodLink RX5 225 yX5_isSheet, Cond.static yX5_isSheet, Cond.code yX5_isSheet cX5_isSheet 1 (some .boolean), Cond.methodLink RX5 232 yX0_firstOtherwise, Cond.instanceMethod yX0_firstOtherwise, Cond.selects RX0 yX0_firstOtherwise yX0_firstOtherwise, Cond.code yX0_firstOtherwise cX0_firstOtherwise 4 (some .int), Cond.fieldLink RX0 141 "DanceStillOwed$Sheet" "size" "I", Cond.fieldLink RX0 146 "DanceStillOwed$Sheet" "row" "[I", Cond.methodLink RX5 236 yX5_kindsTold, Cond.instanceMethod yX5_kindsTold, Cond.selects RX5 yX5_kindsTold yX5_kindsTold, Cond.code yX5_kindsTold cX5_kindsTold 6 (some .int), Cond.methodLink RX5 255 yX0_paysAs, Cond.instanceMethod yX0_paysAs]
def wsL_law_r38 : List Cond := [Cond.selects RX0 yX0_paysAs yX0_paysAs, Cond.code yX0_paysAs cX0_paysAs 3 (some .boolean), Cond.methodLink RX0 149 yX0_firstOtherwise, Cond.methodLink RX5 239 yX5_numbersTold, Cond.instanceMethod yX5_numbersTold, Cond.selects RX5 yX5_numbersTold yX5_numbersTold, Cond.code yX5_numbersTold cX5_numbersTold 6 (some .int), Cond.methodLink RX5 242 yX5_roundsTold, Cond.instanceMethod yX5_roundsTold, Cond.selects RX5 yX5_roundsTold yX5_roundsTold, Cond.code yX5_roundsTold cX5_roundsTold 7 (some .int), Cond.methodLink RX5 246 yX5_donesTold, Cond.instanceMethod yX5_donesTold, Cond.selects RX5 yX5_donesTold yX5_donesTold, Cond.code yX5_donesTold cX5_donesTold 7 (some .int), Cond.methodLink RX5 249 yX5_textsTold, Cond.instanceMethod yX5_textsTold, Cond.selects RX5 yX5_textsTold yX5_textsTold, Cond.code yX5_textsTold cX5_textsTold 6 (some .int), Cond.methodLink RX5 252 yX5_dancersTold, Cond.instanceMethod yX5_dancersTold, Cond.selects RX5 yX5_dancersTold yX5_dancersTold, Cond.code yX5_dancersTold cX5_dancersTold 5 (some .int), Cond.methodLink RL 78 yX6_tells]
def wsL_law_r39 : List Cond := [Cond.instanceMethod yX6_tells, Cond.selects RX6 yX6_tells yX6_tells, Cond.code yX6_tells cX6_tells 12 (some .int), Cond.methodLink RX6 366 yX6_isSheet, Cond.static yX6_isSheet, Cond.code yX6_isSheet cX6_isSheet 1 (some .boolean), Cond.constantLong RX6 392 (3), Cond.methodLink RX6 363 yX6_firstOther, Cond.instanceMethod yX6_firstOther, Cond.selects RX6 yX6_firstOther yX6_firstOther, Cond.code yX6_firstOther cX6_firstOther 4 (some .int), Cond.methodLink RX6 369 yX6_likeSet, Cond.instanceMethod yX6_likeSet, Cond.selects RX6 yX6_likeSet yX6_likeSet, Cond.code yX6_likeSet cX6_likeSet 5 (some .int), Cond.methodLink RL 79 yX5_film, Cond.instanceMethod yX5_film, Cond.selects RX5 yX5_film yX5_film, Cond.code yX5_film cX5_film 9 (some .int), Cond.methodLink RX5 259 yX3_become, Cond.instanceMethod yX3_become, Cond.selects RX3 yX3_become yX3_become, Cond.code yX3_become cX3_become 4 none, Cond.fieldLink RX3 19 "DanceStillOwed$Sheet" "size" "I"]
def wsL_law_r40 : List Cond := [Cond.methodLink RX5 263 yX3_put, Cond.instanceMethod yX3_put, Cond.selects RX3 yX3_put yX3_put, Cond.code yX3_put cX3_put 3 none, Cond.methodLink RL 82 yX6_film, Cond.instanceMethod yX6_film, Cond.selects RX6 yX6_film yX6_film, Cond.code yX6_film cX6_film 7 (some .int), Cond.constantLong RX6 372 (30), Cond.methodLink RX6 374 yX6_sheet, Cond.instanceMethod yX6_sheet, Cond.selects RX6 yX6_sheet yX6_sheet, Cond.code yX6_sheet cX6_sheet 5 (some .int), Cond.constantLong RX6 394 (-1), Cond.methodLink RL 83 yX5_drawn, Cond.instanceMethod yX5_drawn, Cond.selects RX5 yX5_drawn yX5_drawn, Cond.code yX5_drawn cX5_drawn 3 (some .int), Cond.methodLink RX5 266 yX0_draw, Cond.instanceMethod yX0_draw, Cond.selects RX0 yX0_draw yX0_draw, Cond.code yX0_draw cX0_draw 5 none, Cond.constant RX0 120 (1103515245), Cond.methodLink RL 86 yX6_drawn]
def wsL_law_r41 : List Cond := [Cond.instanceMethod yX6_drawn, Cond.selects RX6 yX6_drawn yX6_drawn, Cond.code yX6_drawn cX6_drawn 2 (some .int), Cond.methodLink RX6 378 yX6_endsDrawn, Cond.instanceMethod yX6_endsDrawn, Cond.selects RX6 yX6_endsDrawn yX6_endsDrawn, Cond.code yX6_endsDrawn cX6_endsDrawn 5 (some .int), Cond.constant RX6 377 (1103515245), Cond.methodLink RL 87 yX5_chance, Cond.instanceMethod yX5_chance, Cond.selects RX5 yX5_chance yX5_chance, Cond.code yX5_chance cX5_chance 9 (some .long), Cond.methodLink RL 91 yX6_chance, Cond.instanceMethod yX6_chance, Cond.selects RX6 yX6_chance yX6_chance, Cond.code yX6_chance cX6_chance 9 (some .long), Cond.constantLong RX6 381 (61), Cond.methodLink RL 92 yX5_image, Cond.instanceMethod yX5_image, Cond.selects RX5 yX5_image yX5_image, Cond.code yX5_image cX5_image 1 (some .int), Cond.fieldLink RX5 270 "DanceStillOwed" "imageKept" "Z", Cond.methodLink RL 95 yX6_image, Cond.instanceMethod yX6_image]
def wsL_law_r42 : List Cond := [Cond.selects RX6 yX6_image yX6_image, Cond.code yX6_image cX6_image 2 (some .int), Cond.fieldLink RX6 383 "DanceStillOwedModel" "roundKept" "I", Cond.fieldLink RX6 386 "DanceStillOwedModel" "nightKept" "I", Cond.fieldLink RX6 389 "DanceStillOwedModel" "ruleKept" "I", Cond.methodLink RL 96 yX5_back, Cond.instanceMethod yX5_back, Cond.selects RX5 yX5_back yX5_back, Cond.code yX5_back cX5_back 1 (some .int), Cond.methodLink RL 99 yX6_back, Cond.instanceMethod yX6_back, Cond.selects RX6 yX6_back yX6_back, Cond.code yX6_back cX6_back 2 (some .int), Cond.methodLink RL 100 yX5_count, Cond.instanceMethod yX5_count, Cond.selects RX5 yX5_count yX5_count, Cond.code yX5_count cX5_count 2 (some .int), Cond.methodLink RL 103 yX6_count, Cond.instanceMethod yX6_count, Cond.selects RX6 yX6_count yX6_count, Cond.code yX6_count cX6_count 2 (some .int), Cond.methodLink RL 104 yX5_sheet, Cond.instanceMethod yX5_sheet, Cond.selects RX5 yX5_sheet yX5_sheet]
def wsL_law_r43 : List Cond := [Cond.code yX5_sheet cX5_sheet 4 (some .int), Cond.methodLink RX5 274 yX5_isSort, Cond.static yX5_isSort, Cond.code yX5_isSort cX5_isSort 1 (some .boolean), Cond.methodLink RL 107 yX6_sheet, Cond.methodLink RL 108 yX5_cell, Cond.instanceMethod yX5_cell, Cond.selects RX5 yX5_cell yX5_cell, Cond.code yX5_cell cX5_cell 5 (some .int), Cond.methodLink RX5 277 yX3_holds, Cond.instanceMethod yX3_holds, Cond.selects RX3 yX3_holds yX3_holds, Cond.code yX3_holds cX3_holds 3 (some .boolean), Cond.methodLink RL 111 yX6_cell, Cond.instanceMethod yX6_cell, Cond.selects RX6 yX6_cell yX6_cell, Cond.code yX6_cell cX6_cell 4 (some .int), Cond.methodLink RL 112 yX5_copy, Cond.instanceMethod yX5_copy, Cond.selects RX5 yX5_copy yX5_copy, Cond.code yX5_copy cX5_copy 8 (some .int), Cond.fieldLink RX5 280 "DanceStillOwed$Sheet" "row" "[I", Cond.methodLink RX5 283 arraycopyName, Cond.methodLink RL 116 yX6_copy]
def wsL_law_r44 : List Cond := [Cond.instanceMethod yX6_copy, Cond.selects RX6 yX6_copy yX6_copy, Cond.code yX6_copy cX6_copy 9 (some .int), Cond.methodLink RL 117 yX5_room, Cond.instanceMethod yX5_room, Cond.selects RX5 yX5_room yX5_room, Cond.code yX5_room cX5_room 9 (some .int), Cond.methodLink RX5 289 yX5_dancer, Cond.methodLink RL 120 yX6_room, Cond.instanceMethod yX6_room, Cond.selects RX6 yX6_room yX6_room, Cond.code yX6_room cX6_room 8 (some .int), Cond.methodLink RX6 396 yX6_dancer, Cond.methodLink RL 121 yX5_taken, Cond.instanceMethod yX5_taken, Cond.selects RX5 yX5_taken yX5_taken, Cond.code yX5_taken cX5_taken 5 (some .int), Cond.fieldLink RX5 292 "DanceStillOwed" "UNDER" "[I", Cond.methodLink RL 124 yX6_taken, Cond.instanceMethod yX6_taken, Cond.selects RX6 yX6_taken yX6_taken, Cond.code yX6_taken cX6_taken 4 (some .int), Cond.methodLink RX6 399 yX6_over, Cond.static yX6_over]
def wsL_law_r45 : List Cond := [Cond.code yX6_over cX6_over 1 (some .int)]
def wsL_law : List Cond := (wsL_law_r1 ++ (wsL_law_r2 ++ (wsL_law_r3 ++ (wsL_law_r4 ++ (wsL_law_r5 ++ (wsL_law_r6 ++ (wsL_law_r7 ++ (wsL_law_r8 ++ (wsL_law_r9 ++ (wsL_law_r10 ++ (wsL_law_r11 ++ (wsL_law_r12 ++ (wsL_law_r13 ++ (wsL_law_r14 ++ (wsL_law_r15 ++ (wsL_law_r16 ++ (wsL_law_r17 ++ (wsL_law_r18 ++ (wsL_law_r19 ++ (wsL_law_r20 ++ (wsL_law_r21 ++ (wsL_law_r22 ++ (wsL_law_r23 ++ (wsL_law_r24 ++ (wsL_law_r25 ++ (wsL_law_r26 ++ (wsL_law_r27 ++ (wsL_law_r28 ++ (wsL_law_r29 ++ (wsL_law_r30 ++ (wsL_law_r31 ++ (wsL_law_r32 ++ (wsL_law_r33 ++ (wsL_law_r34 ++ (wsL_law_r35 ++ (wsL_law_r36 ++ (wsL_law_r37 ++ (wsL_law_r38 ++ (wsL_law_r39 ++ (wsL_law_r40 ++ (wsL_law_r41 ++ (wsL_law_r42 ++ (wsL_law_r43 ++ (wsL_law_r44 ++ wsL_law_r45)))))))))))))))))))))))))))))))))))))))))))) ++ wsX50 ++ wsX60 ++ wsX20 ++ wsX00 ++ wsX10 ++ wsX30 ++ wsX40 ++ ([] : List Cond)
set_option maxRecDepth 20000 in
theorem wsL_law_in : ∀ w ∈ wsL_law, w ∈ lw_tbl := fun w h => (goodIn_p wsL_law [102, 105, 110, 117, 148, 206, 246, 842, 846, 849, 853, 291, 297, 301, 305, 309, 313, 317, 321, 325, 328, 332, 993, 997, 1001, 1005, 1009, 1012, 1016, 1020, 1024, 1028, 1032, 1036, 1040, 1044, 1048, 1057, 1061, 1065, 1069, 1073, 1089, 1101, 1097, 1085, 1105, 1077, 1081, 1093, 1110, 1114, 1118, 337, 341, 1122, 346, 350, 354, 358, 363, 1142, 1147, 1151, 1155, 1159, 369, 373, 1129, 377, 381, 385, 388, 392, 395, 399, 404, 408, 412, 418, 422, 425, 428, 433, 436, 439, 442, 446, 468, 472, 476, 482, 485, 479, 488, 491, 497, 500, 503, 506, 509, 512, 515, 518, 522, 527, 531, 559, 535, 543, 539, 563, 555, 547, 551, 579, 1134, 584, 1138, 588, 592, 597, 601, 1163, 1167, 1171, 606, 610, 1175, 1179, 618, 622, 1183, 626, 630, 1187, 1191, 636, 640, 644, 649, 654, 1196, 1201, 1205, 1209, 1213, 658, 662, 666, 672, 676, 681, 685, 689, 693, 700, 704, 708, 712, 716, 721, 1217, 1221, 1225, 1228, 1231, 1235, 1239, 1243, 1247, 1251, 1256, 1260, 1264, 1268, 725, 729, 1272, 1275, 733, 736, 740, 744, 748, 753, 757, 761, 765, 769, 1280, 1283, 1288, 1292, 773, 777, 781, 1296, 1301, 785, 789, 1306, 1310, 794, 1315, 798, 1320, 802, 1324, 806, 1328, 810, 813, 817, 821, 1333, 825, 1337, 830, 1341, 835, 1346, 1349] (by decide +kernel) (by decide +kernel) w h).1
theorem inlX0 : ∀ w ∈ wsX00, w ∈ wsL_law := fun _ h => List.mem_append_left _ (List.mem_append_left _ (List.mem_append_left _ (List.mem_append_left _ (List.mem_append_right _ h))))
theorem inX0 : ∀ w ∈ wsX00, w ∈ lw_tbl := fun w h => wsL_law_in w (inlX0 w h)
theorem inlX1 : ∀ w ∈ wsX10, w ∈ wsL_law := fun _ h => List.mem_append_left _ (List.mem_append_left _ (List.mem_append_left _ (List.mem_append_right _ h)))
theorem inX1 : ∀ w ∈ wsX10, w ∈ lw_tbl := fun w h => wsL_law_in w (inlX1 w h)
theorem inlX2 : ∀ w ∈ wsX20, w ∈ wsL_law := fun _ h => List.mem_append_left _ (List.mem_append_left _ (List.mem_append_left _ (List.mem_append_left _ (List.mem_append_left _ (List.mem_append_right _ h)))))
theorem inX2 : ∀ w ∈ wsX20, w ∈ lw_tbl := fun w h => wsL_law_in w (inlX2 w h)
theorem inlX3 : ∀ w ∈ wsX30, w ∈ wsL_law := fun _ h => List.mem_append_left _ (List.mem_append_left _ (List.mem_append_right _ h))
theorem inX3 : ∀ w ∈ wsX30, w ∈ lw_tbl := fun w h => wsL_law_in w (inlX3 w h)
theorem inlX4 : ∀ w ∈ wsX40, w ∈ wsL_law := fun _ h => List.mem_append_left _ (List.mem_append_right _ h)
theorem inX4 : ∀ w ∈ wsX40, w ∈ lw_tbl := fun w h => wsL_law_in w (inlX4 w h)
theorem inlX5 : ∀ w ∈ wsX50, w ∈ wsL_law := fun _ h => List.mem_append_left _ (List.mem_append_left _ (List.mem_append_left _ (List.mem_append_left _ (List.mem_append_left _ (List.mem_append_left _ (List.mem_append_left _ (List.mem_append_right _ h)))))))
theorem inX5 : ∀ w ∈ wsX50, w ∈ lw_tbl := fun w h => wsL_law_in w (inlX5 w h)
theorem inlX6 : ∀ w ∈ wsX60, w ∈ wsL_law := fun _ h => List.mem_append_left _ (List.mem_append_left _ (List.mem_append_left _ (List.mem_append_left _ (List.mem_append_left _ (List.mem_append_left _ (List.mem_append_right _ h))))))
theorem inX6 : ∀ w ∈ wsX60, w ∈ lw_tbl := fun w h => wsL_law_in w (inlX6 w h)
abbrev vwCl : List vw_C := [(RX0, TX0, 13), (RX1, TX1, 10), (RX2, TX2, 4), (RX3, TX3, 3), (RX4, TX4, 2), (RX5, TX5, 8), (RX6, TX6, 45)]
