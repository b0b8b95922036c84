/-! THE JDK: length(), charAt, indexOf of a text, by contract -/
theorem jw_c_coder : (.code yJ0_coder_7d493 cJ0_coder_7d493 1 (some .byte) : Cond) ∈ ALLW := List.mem_filter.mpr ⟨List.mem_of_getElem? (i := 412) (by decide +kernel), rfl⟩
theorem jw_c_isL : (.code yJ0_isLatin1_aae02 cJ0_isLatin1_aae02 1 (some .boolean) : Cond) ∈ ALLW := List.mem_filter.mpr ⟨List.mem_of_getElem? (i := 422) (by decide +kernel), rfl⟩
theorem jw_c_len : (.code yJ0_length_8abf5 cJ0_length_8abf5 1 (some .int) : Cond) ∈ ALLW := List.mem_filter.mpr ⟨List.mem_of_getElem? (i := 408) (by decide +kernel), rfl⟩
theorem jw_c_cat : (.code yJ0_charAt_5068e cJ0_charAt_5068e 2 (some .char) : Cond) ∈ ALLW := List.mem_filter.mpr ⟨List.mem_of_getElem? (i := 418) (by decide +kernel), rfl⟩
theorem jw_c_cki : (.code yJ0_checkIndex_df160 cJ0_checkIndex_df160 2 none : Cond) ∈ ALLW := List.mem_filter.mpr ⟨List.mem_of_getElem? (i := 428) (by decide +kernel), rfl⟩
theorem jw_c_ix1 : (.code yJ0_indexOf_0f7a4 cJ0_indexOf_0f7a4 2 (some .int) : Cond) ∈ ALLW := List.mem_filter.mpr ⟨List.mem_of_getElem? (i := 468) (by decide +kernel), rfl⟩
theorem jw_c_ix2 : (.code yJ0_indexOf_7cf53 cJ0_indexOf_7cf53 3 (some .int) : Cond) ∈ ALLW := List.mem_filter.mpr ⟨List.mem_of_getElem? (i := 472) (by decide +kernel), rfl⟩
theorem jw_c_lcat : (.code yJ1_charAt_3b067 cJ1_charAt_3b067 2 (some .char) : Cond) ∈ ALLW := List.mem_filter.mpr ⟨List.mem_of_getElem? (i := 425) (by decide +kernel), rfl⟩
theorem jw_c_enc : (.code yJ1_canEncode_9a6ad cJ1_canEncode_9a6ad 1 (some .boolean) : Cond) ∈ ALLW := List.mem_filter.mpr ⟨List.mem_of_getElem? (i := 479) (by decide +kernel), rfl⟩
theorem jw_c_lix : (.code yJ1_indexOf_4cfef cJ1_indexOf_4cfef 4 (some .int) : Cond) ∈ ALLW := List.mem_filter.mpr ⟨List.mem_of_getElem? (i := 476) (by decide +kernel), rfl⟩
theorem jw_c_lic : (.code yJ1_indexOfChar_4cfef cJ1_indexOfChar_4cfef 6 (some .int) : Cond) ∈ ALLW := List.mem_filter.mpr ⟨List.mem_of_getElem? (i := 488) (by decide +kernel), rfl⟩
theorem jw_c_pck : (.code yJ3_checkIndex_8e157 cJ3_checkIndex_8e157 3 (some .int) : Cond) ∈ ALLW := List.mem_filter.mpr ⟨List.mem_of_getElem? (i := 433) (by decide +kernel), rfl⟩
theorem jw_i_coder : (.instanceMethod yJ0_coder_7d493 : Cond) ∈ ALLW := List.mem_filter.mpr ⟨List.mem_of_getElem? (i := 410) (by decide +kernel), rfl⟩
theorem jw_s_coder : (.selects RJ0 yJ0_coder_7d493 yJ0_coder_7d493 : Cond) ∈ ALLW := List.mem_filter.mpr ⟨List.mem_of_getElem? (i := 411) (by decide +kernel), rfl⟩
theorem jw_i_isL : (.instanceMethod yJ0_isLatin1_aae02 : Cond) ∈ ALLW := List.mem_filter.mpr ⟨List.mem_of_getElem? (i := 420) (by decide +kernel), rfl⟩
theorem jw_s_isL : (.selects RJ0 yJ0_isLatin1_aae02 yJ0_isLatin1_aae02 : Cond) ∈ ALLW := List.mem_filter.mpr ⟨List.mem_of_getElem? (i := 421) (by decide +kernel), rfl⟩
theorem jw_i_len : (.instanceMethod yJ0_length_8abf5 : Cond) ∈ ALLW := List.mem_filter.mpr ⟨List.mem_of_getElem? (i := 406) (by decide +kernel), rfl⟩
theorem jw_s_len : (.selects RJ0 yJ0_length_8abf5 yJ0_length_8abf5 : Cond) ∈ ALLW := List.mem_filter.mpr ⟨List.mem_of_getElem? (i := 407) (by decide +kernel), rfl⟩
theorem jw_i_cat : (.instanceMethod yJ0_charAt_5068e : Cond) ∈ ALLW := List.mem_filter.mpr ⟨List.mem_of_getElem? (i := 416) (by decide +kernel), rfl⟩
theorem jw_s_cat : (.selects RJ0 yJ0_charAt_5068e yJ0_charAt_5068e : Cond) ∈ ALLW := List.mem_filter.mpr ⟨List.mem_of_getElem? (i := 417) (by decide +kernel), rfl⟩
theorem jw_i_ix1 : (.instanceMethod yJ0_indexOf_0f7a4 : Cond) ∈ ALLW := List.mem_filter.mpr ⟨List.mem_of_getElem? (i := 466) (by decide +kernel), rfl⟩
theorem jw_s_ix1 : (.selects RJ0 yJ0_indexOf_0f7a4 yJ0_indexOf_0f7a4 : Cond) ∈ ALLW := List.mem_filter.mpr ⟨List.mem_of_getElem? (i := 467) (by decide +kernel), rfl⟩
theorem jw_i_ix2 : (.instanceMethod yJ0_indexOf_7cf53 : Cond) ∈ ALLW := List.mem_filter.mpr ⟨List.mem_of_getElem? (i := 470) (by decide +kernel), rfl⟩
theorem jw_s_ix2 : (.selects RJ0 yJ0_indexOf_7cf53 yJ0_indexOf_7cf53 : Cond) ∈ ALLW := List.mem_filter.mpr ⟨List.mem_of_getElem? (i := 471) (by decide +kernel), rfl⟩
theorem jw_t_cki : (.static yJ0_checkIndex_df160 : Cond) ∈ ALLW := List.mem_filter.mpr ⟨List.mem_of_getElem? (i := 427) (by decide +kernel), rfl⟩
theorem jw_t_lcat : (.static yJ1_charAt_3b067 : Cond) ∈ ALLW := List.mem_filter.mpr ⟨List.mem_of_getElem? (i := 424) (by decide +kernel), rfl⟩
theorem jw_t_enc : (.static yJ1_canEncode_9a6ad : Cond) ∈ ALLW := List.mem_filter.mpr ⟨List.mem_of_getElem? (i := 478) (by decide +kernel), rfl⟩
theorem jw_t_lix : (.static yJ1_indexOf_4cfef : Cond) ∈ ALLW := List.mem_filter.mpr ⟨List.mem_of_getElem? (i := 475) (by decide +kernel), rfl⟩
theorem jw_t_lic : (.static yJ1_indexOfChar_4cfef : Cond) ∈ ALLW := List.mem_filter.mpr ⟨List.mem_of_getElem? (i := 487) (by decide +kernel), rfl⟩
theorem jw_t_pck : (.static yJ3_checkIndex_8e157 : Cond) ∈ ALLW := List.mem_filter.mpr ⟨List.mem_of_getElem? (i := 432) (by decide +kernel), rfl⟩
theorem jw_n_J0 : (.initialized RJ0 : Cond) ∈ ALLW := List.mem_filter.mpr ⟨List.mem_of_getElem? (i := 91) (by decide +kernel), rfl⟩
theorem jw_n_J1 : (.initialized RJ1 : Cond) ∈ ALLW := List.mem_filter.mpr ⟨List.mem_of_getElem? (i := 92) (by decide +kernel), rfl⟩
theorem jw_n_J3 : (.initialized RJ3 : Cond) ∈ ALLW := List.mem_filter.mpr ⟨List.mem_of_getElem? (i := 93) (by decide +kernel), rfl⟩
theorem jw_m_coder : (.methodLink RJ0 335 yJ0_coder_7d493 : Cond) ∈ ALLW := List.mem_filter.mpr ⟨List.mem_of_getElem? (i := 409) (by decide +kernel), rfl⟩
theorem jw_m_isL : (.methodLink RJ0 492 yJ0_isLatin1_aae02 : Cond) ∈ ALLW := List.mem_filter.mpr ⟨List.mem_of_getElem? (i := 419) (by decide +kernel), rfl⟩
theorem jw_m_len : (.methodLink RJ0 505 yJ0_length_8abf5 : Cond) ∈ ALLW := List.mem_filter.mpr ⟨List.mem_of_getElem? (i := 473) (by decide +kernel), rfl⟩
theorem jw_m_lcat : (.methodLink RJ0 495 yJ1_charAt_3b067 : Cond) ∈ ALLW := List.mem_filter.mpr ⟨List.mem_of_getElem? (i := 423) (by decide +kernel), rfl⟩
theorem jw_m_cki : (.methodLink RJ1 9 yJ0_checkIndex_df160 : Cond) ∈ ALLW := List.mem_filter.mpr ⟨List.mem_of_getElem? (i := 426) (by decide +kernel), rfl⟩
theorem jw_m_pck : (.methodLink RJ0 1059 yJ3_checkIndex_8e157 : Cond) ∈ ALLW := List.mem_filter.mpr ⟨List.mem_of_getElem? (i := 431) (by decide +kernel), rfl⟩
theorem jw_m_lix : (.methodLink RJ0 637 yJ1_indexOf_4cfef : Cond) ∈ ALLW := List.mem_filter.mpr ⟨List.mem_of_getElem? (i := 474) (by decide +kernel), rfl⟩
theorem jw_m_ix2 : (.methodLink RJ0 633 yJ0_indexOf_7cf53 : Cond) ∈ ALLW := List.mem_filter.mpr ⟨List.mem_of_getElem? (i := 469) (by decide +kernel), rfl⟩
theorem jw_m_enc : (.methodLink RJ1 88 yJ1_canEncode_9a6ad : Cond) ∈ ALLW := List.mem_filter.mpr ⟨List.mem_of_getElem? (i := 477) (by decide +kernel), rfl⟩
theorem jw_m_lic : (.methodLink RJ1 95 yJ1_indexOfChar_4cfef : Cond) ∈ ALLW := List.mem_filter.mpr ⟨List.mem_of_getElem? (i := 486) (by decide +kernel), rfl⟩
theorem jw_m_xlen : (.methodLink RX1 141 yJ0_length_8abf5 : Cond) ∈ ALLW := List.mem_filter.mpr ⟨List.mem_of_getElem? (i := 405) (by decide +kernel), rfl⟩
theorem jw_m_xcat : (.methodLink RX1 145 yJ0_charAt_5068e : Cond) ∈ ALLW := List.mem_filter.mpr ⟨List.mem_of_getElem? (i := 415) (by decide +kernel), rfl⟩
theorem jw_m_xix : (.methodLink RX1 108 yJ0_indexOf_0f7a4 : Cond) ∈ ALLW := List.mem_filter.mpr ⟨List.mem_of_getElem? (i := 465) (by decide +kernel), rfl⟩
theorem jw_f_cs : (.fieldLink RJ0 38 "java/lang/String" "COMPACT_STRINGS" "Z" : Cond) ∈ ALLW := List.mem_filter.mpr ⟨List.mem_of_getElem? (i := 413) (by decide +kernel), rfl⟩
theorem jw_f_co : (.fieldLink RJ0 15 "java/lang/String" "coder" "B" : Cond) ∈ ALLW := List.mem_filter.mpr ⟨List.mem_of_getElem? (i := 1351) (by decide +kernel), rfl⟩
theorem jw_f_va : (.fieldLink RJ0 9 "java/lang/String" "value" "[B" : Cond) ∈ ALLW := List.mem_filter.mpr ⟨List.mem_of_getElem? (i := 1350) (by decide +kernel), rfl⟩
theorem jw_f_si : (.fieldLink RJ0 1053 "jdk/internal/util/Preconditions" "SIOOBE_FORMATTER" "Ljava/util/function/BiFunction;" : Cond) ∈ ALLW := List.mem_filter.mpr ⟨List.mem_of_getElem? (i := 429) (by decide +kernel), rfl⟩
theorem jw_m_max : (.methodLink RJ1 92 Lib.Math.max.name : Cond) ∈ ALLW := List.mem_filter.mpr ⟨List.mem_of_getElem? (i := 480) (by decide +kernel), rfl⟩
theorem jw_t_max : (.static Lib.Math.max.name : Cond) ∈ ALLW := List.mem_filter.mpr ⟨List.mem_of_getElem? (i := 481) (by decide +kernel), rfl⟩
theorem jw_c_max : (.code Lib.Math.max.name Lib.Math.max.code 2 (some .int) : Cond) ∈ ALLW := List.mem_filter.mpr ⟨List.mem_of_getElem? (i := 482) (by decide +kernel), rfl⟩
theorem jw_m_min : (.methodLink RJ1 38 Lib.Math.min.name : Cond) ∈ ALLW := List.mem_filter.mpr ⟨List.mem_of_getElem? (i := 483) (by decide +kernel), rfl⟩
theorem jw_t_min : (.static Lib.Math.min.name : Cond) ∈ ALLW := List.mem_filter.mpr ⟨List.mem_of_getElem? (i := 484) (by decide +kernel), rfl⟩
theorem jw_c_min : (.code Lib.Math.min.name Lib.Math.min.code 2 (some .int) : Cond) ∈ ALLW := List.mem_filter.mpr ⟨List.mem_of_getElem? (i := 485) (by decide +kernel), rfl⟩
theorem jw_n_M : (.initialized "java/lang/Math" : Cond) ∈ ALLW := List.mem_filter.mpr ⟨List.mem_of_getElem? (i := 95) (by decide +kernel), rfl⟩
theorem dJ0_coder_7d493_0 : decode cJ0_coder_7d493 0 = .ok (.getstatic 38, 3) := by decide +kernel
theorem dJ0_coder_7d493_3 : decode cJ0_coder_7d493 3 = .ok (.ifCond .eq 10, 3) := by decide +kernel
theorem dJ0_coder_7d493_6 : decode cJ0_coder_7d493 6 = .ok (.aload_n 0, 1) := by decide +kernel
theorem dJ0_coder_7d493_7 : decode cJ0_coder_7d493 7 = .ok (.getfield 15, 3) := by decide +kernel
theorem dJ0_coder_7d493_10 : decode cJ0_coder_7d493 10 = .ok (.goto 4, 3) := by decide +kernel
theorem dJ0_coder_7d493_13 : decode cJ0_coder_7d493 13 = .ok (.iconst 1, 1) := by decide +kernel
theorem dJ0_coder_7d493_14 : decode cJ0_coder_7d493 14 = .ok (.ireturn, 1) := by decide +kernel
theorem dJ0_isLatin1_aae02_0 : decode cJ0_isLatin1_aae02 0 = .ok (.getstatic 38, 3) := by decide +kernel
theorem dJ0_isLatin1_aae02_3 : decode cJ0_isLatin1_aae02 3 = .ok (.ifCond .eq 14, 3) := by decide +kernel
theorem dJ0_isLatin1_aae02_6 : decode cJ0_isLatin1_aae02 6 = .ok (.aload_n 0, 1) := by decide +kernel
theorem dJ0_isLatin1_aae02_7 : decode cJ0_isLatin1_aae02 7 = .ok (.getfield 15, 3) := by decide +kernel
theorem dJ0_isLatin1_aae02_10 : decode cJ0_isLatin1_aae02 10 = .ok (.ifCond .ne 7, 3) := by decide +kernel
theorem dJ0_isLatin1_aae02_13 : decode cJ0_isLatin1_aae02 13 = .ok (.iconst 1, 1) := by decide +kernel
theorem dJ0_isLatin1_aae02_14 : decode cJ0_isLatin1_aae02 14 = .ok (.goto 4, 3) := by decide +kernel
theorem dJ0_isLatin1_aae02_17 : decode cJ0_isLatin1_aae02 17 = .ok (.iconst 0, 1) := by decide +kernel
theorem dJ0_isLatin1_aae02_18 : decode cJ0_isLatin1_aae02 18 = .ok (.ireturn, 1) := by decide +kernel
theorem dJ0_length_8abf5_0 : decode cJ0_length_8abf5 0 = .ok (.aload_n 0, 1) := by decide +kernel
theorem dJ0_length_8abf5_1 : decode cJ0_length_8abf5 1 = .ok (.getfield 9, 3) := by decide +kernel
theorem dJ0_length_8abf5_4 : decode cJ0_length_8abf5 4 = .ok (.arraylength, 1) := by decide +kernel
theorem dJ0_length_8abf5_5 : decode cJ0_length_8abf5 5 = .ok (.aload_n 0, 1) := by decide +kernel
theorem dJ0_length_8abf5_6 : decode cJ0_length_8abf5 6 = .ok (.invokevirtual 335, 3) := by decide +kernel
theorem dJ0_length_8abf5_9 : decode cJ0_length_8abf5 9 = .ok (.ishr, 1) := by decide +kernel
theorem dJ0_length_8abf5_10 : decode cJ0_length_8abf5 10 = .ok (.ireturn, 1) := by decide +kernel
theorem dJ0_charAt_5068e_0 : decode cJ0_charAt_5068e 0 = .ok (.aload_n 0, 1) := by decide +kernel
theorem dJ0_charAt_5068e_1 : decode cJ0_charAt_5068e 1 = .ok (.invokevirtual 492, 3) := by decide +kernel
theorem dJ0_charAt_5068e_4 : decode cJ0_charAt_5068e 4 = .ok (.ifCond .eq 12, 3) := by decide +kernel
theorem dJ0_charAt_5068e_7 : decode cJ0_charAt_5068e 7 = .ok (.aload_n 0, 1) := by decide +kernel
theorem dJ0_charAt_5068e_8 : decode cJ0_charAt_5068e 8 = .ok (.getfield 9, 3) := by decide +kernel
theorem dJ0_charAt_5068e_11 : decode cJ0_charAt_5068e 11 = .ok (.iload_n 1, 1) := by decide +kernel
theorem dJ0_charAt_5068e_12 : decode cJ0_charAt_5068e 12 = .ok (.invokestatic 495, 3) := by decide +kernel
theorem dJ0_charAt_5068e_15 : decode cJ0_charAt_5068e 15 = .ok (.ireturn, 1) := by decide +kernel
theorem dJ0_charAt_5068e_16 : decode cJ0_charAt_5068e 16 = .ok (.aload_n 0, 1) := by decide +kernel
theorem dJ0_charAt_5068e_17 : decode cJ0_charAt_5068e 17 = .ok (.getfield 9, 3) := by decide +kernel
theorem dJ0_charAt_5068e_20 : decode cJ0_charAt_5068e 20 = .ok (.iload_n 1, 1) := by decide +kernel
theorem dJ0_charAt_5068e_21 : decode cJ0_charAt_5068e 21 = .ok (.invokestatic 498, 3) := by decide +kernel
theorem dJ0_charAt_5068e_24 : decode cJ0_charAt_5068e 24 = .ok (.ireturn, 1) := by decide +kernel
theorem dJ0_checkIndex_df160_0 : decode cJ0_checkIndex_df160 0 = .ok (.iload_n 0, 1) := by decide +kernel
theorem dJ0_checkIndex_df160_1 : decode cJ0_checkIndex_df160 1 = .ok (.iload_n 1, 1) := by decide +kernel
theorem dJ0_checkIndex_df160_2 : decode cJ0_checkIndex_df160 2 = .ok (.getstatic 1053, 3) := by decide +kernel
theorem dJ0_checkIndex_df160_5 : decode cJ0_checkIndex_df160 5 = .ok (.invokestatic 1059, 3) := by decide +kernel
theorem dJ0_checkIndex_df160_8 : decode cJ0_checkIndex_df160 8 = .ok (.pop, 1) := by decide +kernel
theorem dJ0_checkIndex_df160_9 : decode cJ0_checkIndex_df160 9 = .ok (.return_, 1) := by decide +kernel
theorem dJ0_indexOf_0f7a4_0 : decode cJ0_indexOf_0f7a4 0 = .ok (.aload_n 0, 1) := by decide +kernel
theorem dJ0_indexOf_0f7a4_1 : decode cJ0_indexOf_0f7a4 1 = .ok (.iload_n 1, 1) := by decide +kernel
theorem dJ0_indexOf_0f7a4_2 : decode cJ0_indexOf_0f7a4 2 = .ok (.iconst 0, 1) := by decide +kernel
theorem dJ0_indexOf_0f7a4_3 : decode cJ0_indexOf_0f7a4 3 = .ok (.invokevirtual 633, 3) := by decide +kernel
theorem dJ0_indexOf_0f7a4_6 : decode cJ0_indexOf_0f7a4 6 = .ok (.ireturn, 1) := by decide +kernel
theorem dJ0_indexOf_7cf53_0 : decode cJ0_indexOf_7cf53 0 = .ok (.aload_n 0, 1) := by decide +kernel
theorem dJ0_indexOf_7cf53_1 : decode cJ0_indexOf_7cf53 1 = .ok (.invokevirtual 492, 3) := by decide +kernel
theorem dJ0_indexOf_7cf53_4 : decode cJ0_indexOf_7cf53 4 = .ok (.ifCond .eq 19, 3) := by decide +kernel
theorem dJ0_indexOf_7cf53_7 : decode cJ0_indexOf_7cf53 7 = .ok (.aload_n 0, 1) := by decide +kernel
theorem dJ0_indexOf_7cf53_8 : decode cJ0_indexOf_7cf53 8 = .ok (.getfield 9, 3) := by decide +kernel
theorem dJ0_indexOf_7cf53_11 : decode cJ0_indexOf_7cf53 11 = .ok (.iload_n 1, 1) := by decide +kernel
theorem dJ0_indexOf_7cf53_12 : decode cJ0_indexOf_7cf53 12 = .ok (.iload_n 2, 1) := by decide +kernel
theorem dJ0_indexOf_7cf53_13 : decode cJ0_indexOf_7cf53 13 = .ok (.aload_n 0, 1) := by decide +kernel
theorem dJ0_indexOf_7cf53_14 : decode cJ0_indexOf_7cf53 14 = .ok (.invokevirtual 505, 3) := by decide +kernel
theorem dJ0_indexOf_7cf53_17 : decode cJ0_indexOf_7cf53 17 = .ok (.invokestatic 637, 3) := by decide +kernel
theorem dJ0_indexOf_7cf53_20 : decode cJ0_indexOf_7cf53 20 = .ok (.goto 16, 3) := by decide +kernel
theorem dJ0_indexOf_7cf53_23 : decode cJ0_indexOf_7cf53 23 = .ok (.aload_n 0, 1) := by decide +kernel
theorem dJ0_indexOf_7cf53_24 : decode cJ0_indexOf_7cf53 24 = .ok (.getfield 9, 3) := by decide +kernel
theorem dJ0_indexOf_7cf53_27 : decode cJ0_indexOf_7cf53 27 = .ok (.iload_n 1, 1) := by decide +kernel
theorem dJ0_indexOf_7cf53_28 : decode cJ0_indexOf_7cf53 28 = .ok (.iload_n 2, 1) := by decide +kernel
theorem dJ0_indexOf_7cf53_29 : decode cJ0_indexOf_7cf53 29 = .ok (.aload_n 0, 1) := by decide +kernel
theorem dJ0_indexOf_7cf53_30 : decode cJ0_indexOf_7cf53 30 = .ok (.invokevirtual 505, 3) := by decide +kernel
theorem dJ0_indexOf_7cf53_33 : decode cJ0_indexOf_7cf53 33 = .ok (.invokestatic 640, 3) := by decide +kernel
theorem dJ0_indexOf_7cf53_36 : decode cJ0_indexOf_7cf53 36 = .ok (.ireturn, 1) := by decide +kernel
theorem dJ1_charAt_3b067_0 : decode cJ1_charAt_3b067 0 = .ok (.iload_n 1, 1) := by decide +kernel
theorem dJ1_charAt_3b067_1 : decode cJ1_charAt_3b067 1 = .ok (.aload_n 0, 1) := by decide +kernel
theorem dJ1_charAt_3b067_2 : decode cJ1_charAt_3b067 2 = .ok (.arraylength, 1) := by decide +kernel
theorem dJ1_charAt_3b067_3 : decode cJ1_charAt_3b067 3 = .ok (.invokestatic 9, 3) := by decide +kernel
theorem dJ1_charAt_3b067_6 : decode cJ1_charAt_3b067 6 = .ok (.aload_n 0, 1) := by decide +kernel
theorem dJ1_charAt_3b067_7 : decode cJ1_charAt_3b067 7 = .ok (.iload_n 1, 1) := by decide +kernel
theorem dJ1_charAt_3b067_8 : decode cJ1_charAt_3b067 8 = .ok (.baload, 1) := by decide +kernel
theorem dJ1_charAt_3b067_9 : decode cJ1_charAt_3b067 9 = .ok (.sipush 255, 3) := by decide +kernel
theorem dJ1_charAt_3b067_12 : decode cJ1_charAt_3b067 12 = .ok (.iand, 1) := by decide +kernel
theorem dJ1_charAt_3b067_13 : decode cJ1_charAt_3b067 13 = .ok (.i2c, 1) := by decide +kernel
theorem dJ1_charAt_3b067_14 : decode cJ1_charAt_3b067 14 = .ok (.ireturn, 1) := by decide +kernel
theorem dJ1_canEncode_9a6ad_0 : decode cJ1_canEncode_9a6ad 0 = .ok (.iload_n 0, 1) := by decide +kernel
theorem dJ1_canEncode_9a6ad_1 : decode cJ1_canEncode_9a6ad 1 = .ok (.ifCond .lt 14, 3) := by decide +kernel
theorem dJ1_canEncode_9a6ad_4 : decode cJ1_canEncode_9a6ad 4 = .ok (.iload_n 0, 1) := by decide +kernel
theorem dJ1_canEncode_9a6ad_5 : decode cJ1_canEncode_9a6ad 5 = .ok (.sipush 255, 3) := by decide +kernel
theorem dJ1_canEncode_9a6ad_8 : decode cJ1_canEncode_9a6ad 8 = .ok (.if_icmp .gt 7, 3) := by decide +kernel
theorem dJ1_canEncode_9a6ad_11 : decode cJ1_canEncode_9a6ad 11 = .ok (.iconst 1, 1) := by decide +kernel
theorem dJ1_canEncode_9a6ad_12 : decode cJ1_canEncode_9a6ad 12 = .ok (.goto 4, 3) := by decide +kernel
theorem dJ1_canEncode_9a6ad_15 : decode cJ1_canEncode_9a6ad 15 = .ok (.iconst 0, 1) := by decide +kernel
theorem dJ1_canEncode_9a6ad_16 : decode cJ1_canEncode_9a6ad 16 = .ok (.ireturn, 1) := by decide +kernel
theorem dJ1_indexOf_4cfef_0 : decode cJ1_indexOf_4cfef 0 = .ok (.iload_n 1, 1) := by decide +kernel
theorem dJ1_indexOf_4cfef_1 : decode cJ1_indexOf_4cfef 1 = .ok (.invokestatic 88, 3) := by decide +kernel
theorem dJ1_indexOf_4cfef_4 : decode cJ1_indexOf_4cfef 4 = .ok (.ifCond .ne 5, 3) := by decide +kernel
theorem dJ1_indexOf_4cfef_7 : decode cJ1_indexOf_4cfef 7 = .ok (.iconst (-1), 1) := by decide +kernel
theorem dJ1_indexOf_4cfef_8 : decode cJ1_indexOf_4cfef 8 = .ok (.ireturn, 1) := by decide +kernel
theorem dJ1_indexOf_4cfef_9 : decode cJ1_indexOf_4cfef 9 = .ok (.iload_n 2, 1) := by decide +kernel
theorem dJ1_indexOf_4cfef_10 : decode cJ1_indexOf_4cfef 10 = .ok (.iconst 0, 1) := by decide +kernel
theorem dJ1_indexOf_4cfef_11 : decode cJ1_indexOf_4cfef 11 = .ok (.invokestatic 92, 3) := by decide +kernel
theorem dJ1_indexOf_4cfef_14 : decode cJ1_indexOf_4cfef 14 = .ok (.istore_n 2, 1) := by decide +kernel
theorem dJ1_indexOf_4cfef_15 : decode cJ1_indexOf_4cfef 15 = .ok (.iload_n 3, 1) := by decide +kernel
theorem dJ1_indexOf_4cfef_16 : decode cJ1_indexOf_4cfef 16 = .ok (.aload_n 0, 1) := by decide +kernel
theorem dJ1_indexOf_4cfef_17 : decode cJ1_indexOf_4cfef 17 = .ok (.arraylength, 1) := by decide +kernel
theorem dJ1_indexOf_4cfef_18 : decode cJ1_indexOf_4cfef 18 = .ok (.invokestatic 38, 3) := by decide +kernel
theorem dJ1_indexOf_4cfef_21 : decode cJ1_indexOf_4cfef 21 = .ok (.istore_n 3, 1) := by decide +kernel
theorem dJ1_indexOf_4cfef_22 : decode cJ1_indexOf_4cfef 22 = .ok (.iload_n 2, 1) := by decide +kernel
theorem dJ1_indexOf_4cfef_23 : decode cJ1_indexOf_4cfef 23 = .ok (.iload_n 3, 1) := by decide +kernel
theorem dJ1_indexOf_4cfef_24 : decode cJ1_indexOf_4cfef 24 = .ok (.if_icmp .lt 5, 3) := by decide +kernel
theorem dJ1_indexOf_4cfef_27 : decode cJ1_indexOf_4cfef 27 = .ok (.iconst (-1), 1) := by decide +kernel
theorem dJ1_indexOf_4cfef_28 : decode cJ1_indexOf_4cfef 28 = .ok (.ireturn, 1) := by decide +kernel
theorem dJ1_indexOf_4cfef_29 : decode cJ1_indexOf_4cfef 29 = .ok (.aload_n 0, 1) := by decide +kernel
theorem dJ1_indexOf_4cfef_30 : decode cJ1_indexOf_4cfef 30 = .ok (.iload_n 1, 1) := by decide +kernel
theorem dJ1_indexOf_4cfef_31 : decode cJ1_indexOf_4cfef 31 = .ok (.iload_n 2, 1) := by decide +kernel
theorem dJ1_indexOf_4cfef_32 : decode cJ1_indexOf_4cfef 32 = .ok (.iload_n 3, 1) := by decide +kernel
theorem dJ1_indexOf_4cfef_33 : decode cJ1_indexOf_4cfef 33 = .ok (.invokestatic 95, 3) := by decide +kernel
theorem dJ1_indexOf_4cfef_36 : decode cJ1_indexOf_4cfef 36 = .ok (.ireturn, 1) := by decide +kernel
theorem dJ1_indexOfChar_4cfef_0 : decode cJ1_indexOfChar_4cfef 0 = .ok (.iload_n 1, 1) := by decide +kernel
theorem dJ1_indexOfChar_4cfef_1 : decode cJ1_indexOfChar_4cfef 1 = .ok (.i2b, 1) := by decide +kernel
theorem dJ1_indexOfChar_4cfef_2 : decode cJ1_indexOfChar_4cfef 2 = .ok (.istore 4, 2) := by decide +kernel
theorem dJ1_indexOfChar_4cfef_4 : decode cJ1_indexOfChar_4cfef 4 = .ok (.iload_n 2, 1) := by decide +kernel
theorem dJ1_indexOfChar_4cfef_5 : decode cJ1_indexOfChar_4cfef 5 = .ok (.istore 5, 2) := by decide +kernel
theorem dJ1_indexOfChar_4cfef_7 : decode cJ1_indexOfChar_4cfef 7 = .ok (.iload 5, 2) := by decide +kernel
theorem dJ1_indexOfChar_4cfef_9 : decode cJ1_indexOfChar_4cfef 9 = .ok (.iload_n 3, 1) := by decide +kernel
theorem dJ1_indexOfChar_4cfef_10 : decode cJ1_indexOfChar_4cfef 10 = .ok (.if_icmp .ge 21, 3) := by decide +kernel
theorem dJ1_indexOfChar_4cfef_13 : decode cJ1_indexOfChar_4cfef 13 = .ok (.aload_n 0, 1) := by decide +kernel
theorem dJ1_indexOfChar_4cfef_14 : decode cJ1_indexOfChar_4cfef 14 = .ok (.iload 5, 2) := by decide +kernel
theorem dJ1_indexOfChar_4cfef_16 : decode cJ1_indexOfChar_4cfef 16 = .ok (.baload, 1) := by decide +kernel
theorem dJ1_indexOfChar_4cfef_17 : decode cJ1_indexOfChar_4cfef 17 = .ok (.iload 4, 2) := by decide +kernel
theorem dJ1_indexOfChar_4cfef_19 : decode cJ1_indexOfChar_4cfef 19 = .ok (.if_icmp .ne 6, 3) := by decide +kernel
theorem dJ1_indexOfChar_4cfef_22 : decode cJ1_indexOfChar_4cfef 22 = .ok (.iload 5, 2) := by decide +kernel
theorem dJ1_indexOfChar_4cfef_24 : decode cJ1_indexOfChar_4cfef 24 = .ok (.ireturn, 1) := by decide +kernel
theorem dJ1_indexOfChar_4cfef_25 : decode cJ1_indexOfChar_4cfef 25 = .ok (.iinc 5 1, 3) := by decide +kernel
theorem dJ1_indexOfChar_4cfef_28 : decode cJ1_indexOfChar_4cfef 28 = .ok (.goto (-21), 3) := by decide +kernel
theorem dJ1_indexOfChar_4cfef_31 : decode cJ1_indexOfChar_4cfef 31 = .ok (.iconst (-1), 1) := by decide +kernel
theorem dJ1_indexOfChar_4cfef_32 : decode cJ1_indexOfChar_4cfef 32 = .ok (.ireturn, 1) := by decide +kernel
theorem dJ3_checkIndex_8e157_0 : decode cJ3_checkIndex_8e157 0 = .ok (.iload_n 0, 1) := by decide +kernel
theorem dJ3_checkIndex_8e157_1 : decode cJ3_checkIndex_8e157 1 = .ok (.ifCond .lt 8, 3) := by decide +kernel
theorem dJ3_checkIndex_8e157_4 : decode cJ3_checkIndex_8e157 4 = .ok (.iload_n 0, 1) := by decide +kernel
theorem dJ3_checkIndex_8e157_5 : decode cJ3_checkIndex_8e157 5 = .ok (.iload_n 1, 1) := by decide +kernel
theorem dJ3_checkIndex_8e157_6 : decode cJ3_checkIndex_8e157 6 = .ok (.if_icmp .lt 10, 3) := by decide +kernel
theorem dJ3_checkIndex_8e157_9 : decode cJ3_checkIndex_8e157 9 = .ok (.aload_n 2, 1) := by decide +kernel
theorem dJ3_checkIndex_8e157_10 : decode cJ3_checkIndex_8e157 10 = .ok (.iload_n 0, 1) := by decide +kernel
theorem dJ3_checkIndex_8e157_11 : decode cJ3_checkIndex_8e157 11 = .ok (.iload_n 1, 1) := by decide +kernel
theorem dJ3_checkIndex_8e157_12 : decode cJ3_checkIndex_8e157 12 = .ok (.invokestatic 95, 3) := by decide +kernel
theorem dJ3_checkIndex_8e157_15 : decode cJ3_checkIndex_8e157 15 = .ok (.athrow, 1) := by decide +kernel
theorem dJ3_checkIndex_8e157_16 : decode cJ3_checkIndex_8e157 16 = .ok (.iload_n 0, 1) := by decide +kernel
theorem dJ3_checkIndex_8e157_17 : decode cJ3_checkIndex_8e157 17 = .ok (.ireturn, 1) := by decide +kernel
def lenJ : List Nat := (List.range 13).map fun g => (strG g).length
def bytJ : List (List Int32) := (List.range 13).map strG
theorem strJ_ok : ∀ g, g < 13 → lenJ.getD g 0 = (strG g).length ∧ bytJ.getD g [] = strG g ∧ (strG g).length < 100 ∧ ∀ b ∈ strG g, b.toInt8.toInt32 = b ∧ b &&& 255 = b := by decide +kernel
/-- what the text methods stand on -/
def JX (E : Env0) (adV : Nat → Nat) (U : State) : Prop := vk_S 13 lenJ bytJ (fun g => E.2.2.2.1 70 g) adV (baseA E) U U.heap ∧ va_Z RJ0 "COMPACT_STRINGS" "Z" (.int 1) (baseA E) U U.heap ∧ va_Zq RJ3 "SIOOBE_FORMATTER" "Ljava/util/function/BiFunction;" (baseA E) U U.heap
theorem JX.moved {E : Env0} {adV : Nat → Nat} {s U : State} (hW : s.WarmedH U.vm) (hq : ∀ q : Nat, q < s.heap.size → ¬ baseA E q → U.heap[q]? = s.heap[q]?) (h : JX E adV s) : JX E adV U := ⟨(h.1.kept hq).moved hW.alike, (h.2.1.kept hq).moved hW.alike, (h.2.2.kept hq).moved hW.alike⟩
def JPc (E : Env0) (adV : Nat → Nat) (As : List Value) : Array Value → State → Prop := va_Pc As (JX E adV)
def JQ (v : Option Value) : Array Value → State → Outcome → State → Prop := fun _ st o t => o = .returned v ∧ t.heap = st.heap
def jrm (k : Nat) : Room := { frames := k, cells := 0, slots := 0, locals := 30 * k }
theorem JPc.blind {E : Env0} {adV : Nat → Nat} {As : List Value} : FrameBlind (JPc E adV As) := by
  intro a U g mk h
  obtain ⟨h1, h2⟩ := h
  exact ⟨h1, JX.moved (U := U.calling g mk a) (State.WarmedH.refl U) (fun _ _ _ => rfl) h2⟩
theorem strV {E : Env0} {adV : Nat → Nat} {U : State} {g : Nat} (h : JX E adV U) (hg : g < 13) : va_T .byte (adV g) (strG g).length (fun j => .int ((strG g).getD j 0)) (baseA E) U U.heap := by
  have := (h.1.1 g hg).2.2.2
  rw [(strJ_ok g hg).1, (strJ_ok g hg).2.1] at this
  exact this
section JDK
variable {E : Env0} {adV : Nat → Nat} {p : Program} {l : Launch} {e : Env} {R : Room} {s : State} {m : MethodId} {args : Array Value} {below : List Frame} {meth : Method} {c : Code} {H : Heap} {locs : List Loc} {cells slots : Nat} {Q : State → Prop}
variable {pc : Nat} {ls : Array Slot} {rest : List Value}
theorem W_runJ {st0 : List Value} {v : Option Value} {a : Array Value} (hr : va_Run p l e R s m args below meth c H locs cells slots 0 0 (F0 m pc ls st0) rest (JQ v a) (fun _ => False)) (k : W p l e R s m args below meth c H locs cells slots Q (F0 m (pc + 3) ls (v.toList ++ rest))) : W p l e R s m args below meth c H locs cells slots Q (F0 m pc ls st0) := by
  intro T hT X
  obtain ⟨v', st₀, t, T', L, h0, X', hL, e1, e2, ⟨ho, hh⟩, stp⟩ := hr T hT X
  have hLn : L = [] := by
    cases L with
    | nil => rfl
    | cons q r => exact (hL q List.mem_cons_self).elim
  subst hLn
  cases ho
  rw [List.append_nil] at X'
  obtain ⟨t2, a1, b1⟩ := k T' (by rw [e1, hh, h0]) X'
  exact ⟨t2, stp t2 a1, b1⟩
theorem jr_V {cc : ByteArray} {nL k q maxL n index : Nat} {own C : String} {y : MethodName} {bytes : ByteArray} {ret : Option FieldType} {As : List Value} {v : Option Value} (S : CallFix p m c cc nL s args ALLW own) (hM : Met l y (.code y bytes maxL ret :: ALLW) (jrm k) (JPc E adV (.ref q :: As)) (JQ v) 0 0 (fun _ => False))
    (hlink : Cond.methodLink own index y ∈ ALLW) (hin : Cond.instanceMethod y ∈ ALLW) (hsel : Cond.selects C y y ∈ ALLW) (hini : Cond.initialized C ∈ ALLW) (hcode : Cond.code y bytes maxL ret ∈ ALLW) (hd : y.cls = C ∧ y.cls ≠ "java/lang/invoke/MethodHandle" ∧ y.cls ≠ "java/lang/invoke/VarHandle" ∧ (parseMethodDescriptor y.desc).map (fun d => d.parameters.length) = some n) (hR : k + 1 ≤ R.frames ∧ 8 + (maxL + 11) + 30 * k ≤ R.locals)
    (hJ : JX E adV s) (hS : va_S (baseA E) s.heap H locs) (hq : ∃ cell : Cell, H[q]? = some cell ∧ cell.vm.isStatics = false ∧ s.vm.findClass C = some cell.cls) (hn : As.length = n) (hsz : ls.size = nL) (hcat : (rest.map fun v => v.category).sum ≤ 8) (hdg : decode cc pc = .ok (.invokevirtual index, 3)) (hf : cells ≤ R.cells ∧ slots ≤ R.slots)
    (kk : W p l e R s m args below meth c H locs cells slots Q (F0 m (pc + 3) ls (v.toList ++ rest))) : W p l e R s m args below meth c H locs cells slots Q (F0 m pc ls (As.reverse ++ .ref q :: rest)) := by
  have hG : GoodIn ALLW (wsV own index C y (.code y bytes maxL ret :: ALLW)) := by
    intro w hw'
    rcases List.mem_append.mp hw' with z | z
    · simp only [List.mem_cons, List.not_mem_nil, or_false] at z
      rcases z with rfl | rfl | rfl | rfl
      · exact ⟨hlink, Or.inl rfl⟩
      · exact ⟨hin, Or.inl rfl⟩
      · exact ⟨hsel, Or.inl rfl⟩
      · exact ⟨hini, Or.inl rfl⟩
    · rcases List.mem_cons.mp z with rfl | z
      · exact ⟨hcode, Or.inl rfl⟩
      · exact ⟨z, good_of_word (List.mem_filter.mp z).2⟩
  exact W_runJ (va_runV (H := H) (locs := locs) (cells := cells) (slots := slots) (below := below) (meth := meth) (p := p) (l := l) (e := e) (R := R) (b := q) (As := As) (rest := rest) (g := F0 m pc ls (As.reverse ++ .ref q :: rest)) S hM
    (cwV (C := C) n S.2.2.2.2 hG rfl rfl rfl hd hR) ⟨JPc.blind, hq, fun U hU hW => ⟨rfl, hJ.moved hW (fun a h1 h2 => by rw [hU]; exact hS.2.1 a h1 h2)⟩⟩ rfl hn hsz rfl (by show 2 * 0 + _ ≤ 8; omega) hdg hf) kk
theorem jr_S {cc : ByteArray} {nL k maxL n index : Nat} {own : String} {y : MethodName} {bytes : ByteArray} {ret : Option FieldType} {As : List Value} {v : Option Value} (S : CallFix p m c cc nL s args ALLW own) (hM : Met l y (.code y bytes maxL ret :: ALLW) (jrm k) (JPc E adV As) (JQ v) 0 0 (fun _ => False))
    (hlink : Cond.methodLink own index y ∈ ALLW) (hst : Cond.static y ∈ ALLW) (hini : Cond.initialized y.cls ∈ ALLW) (hcode : Cond.code y bytes maxL ret ∈ ALLW) (hd : y.cls ≠ "java/lang/invoke/MethodHandle" ∧ y.cls ≠ "java/lang/invoke/VarHandle" ∧ (parseMethodDescriptor y.desc).map (fun d => d.parameters.length) = some n) (hR : k + 1 ≤ R.frames ∧ 8 + (maxL + 11) + 30 * k ≤ R.locals)
    (hJ : JX E adV s) (hS : va_S (baseA E) s.heap H locs) (hn : As.length = n) (hsz : ls.size = nL) (hcat : (rest.map fun v => v.category).sum ≤ 8) (hdg : decode cc pc = .ok (.invokestatic index, 3)) (hf : cells ≤ R.cells ∧ slots ≤ R.slots)
    (kk : W p l e R s m args below meth c H locs cells slots Q (F0 m (pc + 3) ls (v.toList ++ rest))) : W p l e R s m args below meth c H locs cells slots Q (F0 m pc ls (As.reverse ++ rest)) := by
  have hG : GoodIn ALLW (va_wsS own index y (.code y bytes maxL ret :: ALLW)) := by
    intro w hw'
    rcases List.mem_append.mp hw' with z | z
    · simp only [List.mem_cons, List.not_mem_nil, or_false] at z
      rcases z with rfl | rfl | rfl
      · exact ⟨hlink, Or.inl rfl⟩
      · exact ⟨hst, Or.inl rfl⟩
      · exact ⟨hini, Or.inl rfl⟩
    · rcases List.mem_cons.mp z with rfl | z
      · exact ⟨hcode, Or.inl rfl⟩
      · exact ⟨z, good_of_word (List.mem_filter.mp z).2⟩
  exact W_runJ (va_runS (H := H) (locs := locs) (cells := cells) (slots := slots) (below := below) (meth := meth) (p := p) (l := l) (e := e) (R := R) (As := As) (rest := rest) (g := F0 m pc ls (As.reverse ++ rest)) S hM
    (va_cwS n S.2.2.2.2 hG rfl rfl rfl hd hR) ⟨JPc.blind, fun U hU hW => ⟨rfl, hJ.moved hW (fun a h1 h2 => by rw [hU]; exact hS.2.1 a h1 h2)⟩⟩ rfl hn hsz rfl (by show 2 * 0 + _ ≤ 8; omega) hdg hf) kk
end JDK
theorem j_coder (l : Launch) {E : Env0} {adV : Nat → Nat} {g : Nat} (hg : g < 13) : Met l yJ0_coder_7d493 (.code yJ0_coder_7d493 cJ0_coder_7d493 1 (some .byte) :: ALLW) (jrm 0) (JPc E adV [.ref (E.2.2.2.1 70 g)]) (JQ (some (.int 0))) 0 0 (fun _ => False) := by
  refine Met.ofW (cc := cJ0_coder_7d493) (maxL := 1) (ret := (some .byte)) (by decide) rfl ?_
  intro p e s m args below meth c s₁ B hml hv
  obtain ⟨rfl, hJ⟩ := hv
  have hx := B.exec
  have hb := B.bytes
  have hr := B.returns
  have hts := atoms_spec (ws := .code yJ0_coder_7d493 cJ0_coder_7d493 1 (some .byte) :: ALLW) B.pre
  have hw : ∀ w ∈ ALLW, w.before ([.ref (E.2.2.2.1 70 g)] : List Value).toArray s = true := fun w h => hts w (List.mem_cons_of_mem _ h)
  have hown : s.vm.findClass RJ0 = some m.cls := findClass_of_methodNamed B.named
  have hlocks := B.notSynchronized
  have hS : va_S (baseA E) s.heap s.heap [] := va_S.rf
  have hl := lv_entry ([.ref (E.2.2.2.1 70 g)]) (n := 1) (Nat.le_of_ble_eq_true rfl)
  rw [lg_entry_eq]
  generalize (lg_sl ([.ref (E.2.2.2.1 70 g)]) ++ List.replicate (1 - (lg_sl ([.ref (E.2.2.2.1 70 g)])).length) Slot.unset).toArray = ls at hl ⊢
  refine va_gets hx hb hJ.2.1 hS hown (hw _ jw_f_cs) (fun _ h => h) dJ0_coder_7d493_0 ?_
  refine lv_if_eq (tgt := 13) hx hb dJ0_coder_7d493_3 (by decide) (fun z => absurd z (by decide)) (fun _ => ?_)
  refine lv_aload_n hx hb dJ0_coder_7d493_6 rfl (lv_at hl 0 rfl) ?_
  refine vk_getf hx hb (hJ.1.1 g hg).2.1 hS hown (hw _ jw_f_co) (fun _ h => h) dJ0_coder_7d493_7 ?_
  refine lv_goto (tgt := 14) hx hb dJ0_coder_7d493_10 (by decide) ?_
  exact W.zret (v := 0) (ty := .byte) hx hb hr (by decide) (fun t ht _ => ⟨rfl, ht⟩) (fun q h => by cases h) dJ0_coder_7d493_14
theorem j_isL (l : Launch) {E : Env0} {adV : Nat → Nat} {g : Nat} (hg : g < 13) : Met l yJ0_isLatin1_aae02 (.code yJ0_isLatin1_aae02 cJ0_isLatin1_aae02 1 (some .boolean) :: ALLW) (jrm 0) (JPc E adV [.ref (E.2.2.2.1 70 g)]) (JQ (some (.int 1))) 0 0 (fun _ => False) := by
  refine Met.ofW (cc := cJ0_isLatin1_aae02) (maxL := 1) (ret := (some .boolean)) (by decide) rfl ?_
  intro p e s m args below meth c s₁ B hml hv
  obtain ⟨rfl, hJ⟩ := hv
  have hx := B.exec
  have hb := B.bytes
  have hr := B.returns
  have hts := atoms_spec (ws := .code yJ0_isLatin1_aae02 cJ0_isLatin1_aae02 1 (some .boolean) :: ALLW) B.pre
  have hw : ∀ w ∈ ALLW, w.before ([.ref (E.2.2.2.1 70 g)] : List Value).toArray s = true := fun w h => hts w (List.mem_cons_of_mem _ h)
  have hown : s.vm.findClass RJ0 = some m.cls := findClass_of_methodNamed B.named
  have hlocks := B.notSynchronized
  have hS : va_S (baseA E) s.heap s.heap [] := va_S.rf
  have hl := lv_entry ([.ref (E.2.2.2.1 70 g)]) (n := 1) (Nat.le_of_ble_eq_true rfl)
  rw [lg_entry_eq]
  generalize (lg_sl ([.ref (E.2.2.2.1 70 g)]) ++ List.replicate (1 - (lg_sl ([.ref (E.2.2.2.1 70 g)])).length) Slot.unset).toArray = ls at hl ⊢
  refine va_gets hx hb hJ.2.1 hS hown (hw _ jw_f_cs) (fun _ h => h) dJ0_isLatin1_aae02_0 ?_
  refine lv_if_eq (tgt := 17) hx hb dJ0_isLatin1_aae02_3 (by decide) (fun z => absurd z (by decide)) (fun _ => ?_)
  refine lv_aload_n hx hb dJ0_isLatin1_aae02_6 rfl (lv_at hl 0 rfl) ?_
  refine vk_getf hx hb (hJ.1.1 g hg).2.1 hS hown (hw _ jw_f_co) (fun _ h => h) dJ0_isLatin1_aae02_7 ?_
  refine lv_if_ne (tgt := 17) hx hb dJ0_isLatin1_aae02_10 (by decide) (fun z => absurd rfl z) (fun _ => ?_)
  refine lv_iconst (v := 1) hx hb dJ0_isLatin1_aae02_13 (by decide) ?_
  refine lv_goto (tgt := 18) hx hb dJ0_isLatin1_aae02_14 (by decide) ?_
  exact W.zret (v := 1) (ty := .boolean) hx hb hr (by decide) (fun t ht _ => ⟨rfl, ht⟩) (fun q h => by cases h) dJ0_isLatin1_aae02_18
theorem j_len (l : Launch) {E : Env0} {adV : Nat → Nat} {g : Nat} (hg : g < 13) : Met l yJ0_length_8abf5 (.code yJ0_length_8abf5 cJ0_length_8abf5 1 (some .int) :: ALLW) (jrm 1) (JPc E adV [.ref (E.2.2.2.1 70 g)]) (JQ (some (.int (nI (strG g).length)))) 0 0 (fun _ => False) := by
  refine Met.ofW (cc := cJ0_length_8abf5) (maxL := 1) (ret := (some .int)) (by decide) rfl ?_
  intro p e s m args below meth c s₁ B hml hv
  obtain ⟨rfl, hJ⟩ := hv
  have hx := B.exec
  have hb := B.bytes
  have hr := B.returns
  have hts := atoms_spec (ws := .code yJ0_length_8abf5 cJ0_length_8abf5 1 (some .int) :: ALLW) B.pre
  have hw : ∀ w ∈ ALLW, w.before ([.ref (E.2.2.2.1 70 g)] : List Value).toArray s = true := fun w h => hts w (List.mem_cons_of_mem _ h)
  have hown : s.vm.findClass RJ0 = some m.cls := findClass_of_methodNamed B.named
  have hlocks := B.notSynchronized
  have hS : va_S (baseA E) s.heap s.heap [] := va_S.rf
  have hl := lv_entry ([.ref (E.2.2.2.1 70 g)]) (n := 1) (Nat.le_of_ble_eq_true rfl)
  rw [lg_entry_eq]
  generalize (lg_sl ([.ref (E.2.2.2.1 70 g)]) ++ List.replicate (1 - (lg_sl ([.ref (E.2.2.2.1 70 g)])).length) Slot.unset).toArray = ls at hl ⊢
  have h100 := (strJ_ok g hg).2.2.1
  refine lv_aload_n hx hb dJ0_length_8abf5_0 rfl (lv_at hl 0 rfl) ?_
  refine vk_getf hx hb (hJ.1.1 g hg).2.2.1 hS hown (hw _ jw_f_va) (fun _ h => h) dJ0_length_8abf5_1 ?_
  refine va_tlen (v := nI (strG g).length) hx hb (strV hJ hg) hS rfl dJ0_length_8abf5_4 ?_
  refine lv_aload_n hx hb dJ0_length_8abf5_5 rfl (lv_at hl 0 rfl) ?_
  refine jr_V (n := 0) (As := []) (rest := [.int (nI (strG g).length)]) ⟨hx, hb, hml, hown, hw⟩ (j_coder l hg) jw_m_coder jw_i_coder jw_s_coder jw_n_J0 jw_c_coder ⟨rfl, by decide, by decide, by decide +kernel⟩ ⟨Nat.le_of_ble_eq_true rfl, Nat.le_of_ble_eq_true rfl⟩ hJ hS (vk_recv hJ.1 hg hS) rfl hl.1 (Nat.le_of_ble_eq_true rfl) dJ0_length_8abf5_6 ⟨Nat.zero_le _, Nat.zero_le _⟩ ?_
  refine lv_ishr (y := 0) hx hb dJ0_length_8abf5_9 ?_
  rw [sc_shr0 (by omega)]
  exact W.iret (v := nI (strG g).length) hx hb hr (fun t ht _ => ⟨rfl, ht⟩) (fun q h => by cases h) dJ0_length_8abf5_10
theorem j_pckN (l : Launch) {E : Env0} {adV : Nat → Nat} {i n : Int32} (h0 : ¬ i < 0) (hin : i < n) : Met l yJ3_checkIndex_8e157 (.code yJ3_checkIndex_8e157 cJ3_checkIndex_8e157 3 (some .int) :: ALLW) (jrm 0) (JPc E adV [.int i, .int n, .null]) (JQ (some (.int i))) 0 0 (fun _ => False) := by
  refine Met.ofW (cc := cJ3_checkIndex_8e157) (maxL := 3) (ret := (some .int)) (by decide) rfl ?_
  intro p e s m args below meth c s₁ B hml hv
  obtain ⟨rfl, hJ⟩ := hv
  have hx := B.exec
  have hb := B.bytes
  have hr := B.returns
  have hts := atoms_spec (ws := .code yJ3_checkIndex_8e157 cJ3_checkIndex_8e157 3 (some .int) :: ALLW) B.pre
  have hw : ∀ w ∈ ALLW, w.before ([.int i, .int n, .null] : List Value).toArray s = true := fun w h => hts w (List.mem_cons_of_mem _ h)
  have hown : s.vm.findClass RJ3 = some m.cls := findClass_of_methodNamed B.named
  have hlocks := B.notSynchronized
  have hS : va_S (baseA E) s.heap s.heap [] := va_S.rf
  have hl := lv_entry ([.int i, .int n, .null]) (n := 3) (Nat.le_of_ble_eq_true rfl)
  rw [lg_entry_eq]
  generalize (lg_sl ([.int i, .int n, .null]) ++ List.replicate (3 - (lg_sl ([.int i, .int n, .null])).length) Slot.unset).toArray = ls at hl ⊢
  refine lv_iload_n hx hb dJ3_checkIndex_8e157_0 rfl (lv_at hl 0 rfl) ?_
  refine lv_if_lt (tgt := 9) hx hb dJ3_checkIndex_8e157_1 (by decide) (fun z => absurd z h0) (fun _ => ?_)
  refine lv_iload_n hx hb dJ3_checkIndex_8e157_4 rfl (lv_at hl 0 rfl) ?_
  refine lv_iload_n hx hb dJ3_checkIndex_8e157_5 rfl (lv_at hl 1 rfl) ?_
  refine lv_icmp_lt (tgt := 16) hx hb dJ3_checkIndex_8e157_6 (by decide) (fun _ => ?_) (fun z => absurd hin z)
  refine lv_iload_n hx hb dJ3_checkIndex_8e157_16 rfl (lv_at hl 0 rfl) ?_
  exact W.iret (v := i) hx hb hr (fun t ht _ => ⟨rfl, ht⟩) (fun q h => by cases h) dJ3_checkIndex_8e157_17
theorem j_pckR (l : Launch) {E : Env0} {adV : Nat → Nat} {i n : Int32} {t : Nat} (h0 : ¬ i < 0) (hin : i < n) : Met l yJ3_checkIndex_8e157 (.code yJ3_checkIndex_8e157 cJ3_checkIndex_8e157 3 (some .int) :: ALLW) (jrm 0) (JPc E adV [.int i, .int n, .ref t]) (JQ (some (.int i))) 0 0 (fun _ => False) := by
  refine Met.ofW (cc := cJ3_checkIndex_8e157) (maxL := 3) (ret := (some .int)) (by decide) rfl ?_
  intro p e s m args below meth c s₁ B hml hv
  obtain ⟨rfl, hJ⟩ := hv
  have hx := B.exec
  have hb := B.bytes
  have hr := B.returns
  have hts := atoms_spec (ws := .code yJ3_checkIndex_8e157 cJ3_checkIndex_8e157 3 (some .int) :: ALLW) B.pre
  have hw : ∀ w ∈ ALLW, w.before ([.int i, .int n, .ref t] : List Value).toArray s = true := fun w h => hts w (List.mem_cons_of_mem _ h)
  have hown : s.vm.findClass RJ3 = some m.cls := findClass_of_methodNamed B.named
  have hlocks := B.notSynchronized
  have hS : va_S (baseA E) s.heap s.heap [] := va_S.rf
  have hl := lv_entry ([.int i, .int n, .ref t]) (n := 3) (Nat.le_of_ble_eq_true rfl)
  rw [lg_entry_eq]
  generalize (lg_sl ([.int i, .int n, .ref t]) ++ List.replicate (3 - (lg_sl ([.int i, .int n, .ref t])).length) Slot.unset).toArray = ls at hl ⊢
  refine lv_iload_n hx hb dJ3_checkIndex_8e157_0 rfl (lv_at hl 0 rfl) ?_
  refine lv_if_lt (tgt := 9) hx hb dJ3_checkIndex_8e157_1 (by decide) (fun z => absurd z h0) (fun _ => ?_)
  refine lv_iload_n hx hb dJ3_checkIndex_8e157_4 rfl (lv_at hl 0 rfl) ?_
  refine lv_iload_n hx hb dJ3_checkIndex_8e157_5 rfl (lv_at hl 1 rfl) ?_
  refine lv_icmp_lt (tgt := 16) hx hb dJ3_checkIndex_8e157_6 (by decide) (fun _ => ?_) (fun z => absurd hin z)
  refine lv_iload_n hx hb dJ3_checkIndex_8e157_16 rfl (lv_at hl 0 rfl) ?_
  exact W.iret (v := i) hx hb hr (fun t ht _ => ⟨rfl, ht⟩) (fun q h => by cases h) dJ3_checkIndex_8e157_17
theorem j_cki (l : Launch) {E : Env0} {adV : Nat → Nat} {i n : Int32} (h0 : ¬ i < 0) (hin : i < n) : Met l yJ0_checkIndex_df160 (.code yJ0_checkIndex_df160 cJ0_checkIndex_df160 2 none :: ALLW) (jrm 1) (JPc E adV [.int i, .int n]) (JQ none) 0 0 (fun _ => False) := by
  refine Met.ofW (cc := cJ0_checkIndex_df160) (maxL := 2) (ret := none) (by decide) rfl ?_
  intro p e s m args below meth c s₁ B hml hv
  obtain ⟨rfl, hJ⟩ := hv
  have hx := B.exec
  have hb := B.bytes
  have hr := B.returns
  have hts := atoms_spec (ws := .code yJ0_checkIndex_df160 cJ0_checkIndex_df160 2 none :: ALLW) B.pre
  have hw : ∀ w ∈ ALLW, w.before ([.int i, .int n] : List Value).toArray s = true := fun w h => hts w (List.mem_cons_of_mem _ h)
  have hown : s.vm.findClass RJ0 = some m.cls := findClass_of_methodNamed B.named
  have hlocks := B.notSynchronized
  have hS : va_S (baseA E) s.heap s.heap [] := va_S.rf
  have hl := lv_entry ([.int i, .int n]) (n := 2) (Nat.le_of_ble_eq_true rfl)
  rw [lg_entry_eq]
  generalize (lg_sl ([.int i, .int n]) ++ List.replicate (2 - (lg_sl ([.int i, .int n])).length) Slot.unset).toArray = ls at hl ⊢
  refine lv_iload_n hx hb dJ0_checkIndex_df160_0 rfl (lv_at hl 0 rfl) ?_
  refine lv_iload_n hx hb dJ0_checkIndex_df160_1 rfl (lv_at hl 1 rfl) ?_
  rcases hJ.2.2 with hZ | ⟨t, hZ⟩
  · refine va_gets hx hb hZ hS hown (hw _ jw_f_si) (fun _ h => h) dJ0_checkIndex_df160_2 ?_
    refine jr_S (n := 3) (As := [.int i, .int n, .null]) (rest := []) ⟨hx, hb, hml, hown, hw⟩ (j_pckN l h0 hin) jw_m_pck jw_t_pck jw_n_J3 jw_c_pck ⟨by decide, by decide, by decide +kernel⟩ ⟨Nat.le_of_ble_eq_true rfl, Nat.le_of_ble_eq_true rfl⟩ hJ hS rfl hl.1 (Nat.le_of_ble_eq_true rfl) dJ0_checkIndex_df160_5 ⟨Nat.zero_le _, Nat.zero_le _⟩ ?_
    refine lv_pop (va := .int i) hx hb dJ0_checkIndex_df160_8 rfl ?_
    exact W.vret hx hb hr (fun t ht _ => ⟨rfl, ht⟩) (fun q h => by cases h) dJ0_checkIndex_df160_9
  · refine va_gets hx hb hZ hS hown (hw _ jw_f_si) (fun _ h => h) dJ0_checkIndex_df160_2 ?_
    refine jr_S (n := 3) (As := [.int i, .int n, .ref t]) (rest := []) ⟨hx, hb, hml, hown, hw⟩ (j_pckR l h0 hin) jw_m_pck jw_t_pck jw_n_J3 jw_c_pck ⟨by decide, by decide, by decide +kernel⟩ ⟨Nat.le_of_ble_eq_true rfl, Nat.le_of_ble_eq_true rfl⟩ hJ hS rfl hl.1 (Nat.le_of_ble_eq_true rfl) dJ0_checkIndex_df160_5 ⟨Nat.zero_le _, Nat.zero_le _⟩ ?_
    refine lv_pop (va := .int i) hx hb dJ0_checkIndex_df160_8 rfl ?_
    exact W.vret hx hb hr (fun t ht _ => ⟨rfl, ht⟩) (fun q h => by cases h) dJ0_checkIndex_df160_9
theorem gtD {l : List Int32} {k : Nat} (h : k < l.length) : l.getD k 0 ∈ l := by
  rw [List.getD_eq_getElem?_getD, List.getElem?_eq_getElem h]
  exact List.getElem_mem h
theorem j_lcat (l : Launch) {E : Env0} {adV : Nat → Nat} {g k : Nat} (hg : g < 13) (hk : k < (strG g).length) : Met l yJ1_charAt_3b067 (.code yJ1_charAt_3b067 cJ1_charAt_3b067 2 (some .char) :: ALLW) (jrm 2) (JPc E adV [.ref (adV g), .int (nI k)]) (JQ (some (.int ((strG g).getD k 0)))) 0 0 (fun _ => False) := by
  refine Met.ofW (cc := cJ1_charAt_3b067) (maxL := 2) (ret := (some .char)) (by decide) rfl ?_
  intro p e s m args below meth c s₁ B hml hv
  obtain ⟨rfl, hJ⟩ := hv
  have hx := B.exec
  have hb := B.bytes
  have hr := B.returns
  have hts := atoms_spec (ws := .code yJ1_charAt_3b067 cJ1_charAt_3b067 2 (some .char) :: ALLW) B.pre
  have hw : ∀ w ∈ ALLW, w.before ([.ref (adV g), .int (nI k)] : List Value).toArray s = true := fun w h => hts w (List.mem_cons_of_mem _ h)
  have hown : s.vm.findClass RJ1 = some m.cls := findClass_of_methodNamed B.named
  have hlocks := B.notSynchronized
  have hS : va_S (baseA E) s.heap s.heap [] := va_S.rf
  have hl := lv_entry ([.ref (adV g), .int (nI k)]) (n := 2) (Nat.le_of_ble_eq_true rfl)
  rw [lg_entry_eq]
  generalize (lg_sl ([.ref (adV g), .int (nI k)]) ++ List.replicate (2 - (lg_sl ([.ref (adV g), .int (nI k)])).length) Slot.unset).toArray = ls at hl ⊢
  obtain ⟨-, -, h100, hby⟩ := strJ_ok g hg
  have hb255 := (hby _ (gtD hk)).2
  refine lv_iload_n hx hb dJ1_charAt_3b067_0 rfl (lv_at hl 1 rfl) ?_
  refine lv_aload_n hx hb dJ1_charAt_3b067_1 rfl (lv_at hl 0 rfl) ?_
  refine va_tlen (v := nI (strG g).length) hx hb (strV hJ hg) hS rfl dJ1_charAt_3b067_2 ?_
  refine jr_S (n := 2) (As := [.int (nI k), .int (nI (strG g).length)]) (rest := []) ⟨hx, hb, hml, hown, hw⟩ (j_cki l (nI_pos (by omega)) (nI_lt hk (by omega))) jw_m_cki jw_t_cki jw_n_J0 jw_c_cki ⟨by decide, by decide, by decide +kernel⟩ ⟨Nat.le_of_ble_eq_true rfl, Nat.le_of_ble_eq_true rfl⟩ hJ hS rfl hl.1 (Nat.le_of_ble_eq_true rfl) dJ1_charAt_3b067_3 ⟨Nat.zero_le _, Nat.zero_le _⟩ ?_
  refine lv_aload_n hx hb dJ1_charAt_3b067_6 rfl (lv_at hl 0 rfl) ?_
  refine lv_iload_n hx hb dJ1_charAt_3b067_7 rfl (lv_at hl 1 rfl) ?_
  refine va_tb (v := .int ((strG g).getD k 0)) hx hb (strV hJ hg) hS (vp_in_nI hk (by omega)) (by rw [nI_clamp (by omega)]) dJ1_charAt_3b067_8 ?_
  refine lv_sipush (v := 255) hx hb dJ1_charAt_3b067_9 (by decide) ?_
  refine lv_iand hx hb dJ1_charAt_3b067_12 ?_
  refine lv_i2c hx hb dJ1_charAt_3b067_13 (sc_c2 _) ?_
  rw [hb255]
  exact W.zret (v := (strG g).getD k 0) (ty := .char) hx hb hr (by have := sc_nar ((strG g).getD k 0); rw [hb255] at this; exact this) (fun t ht _ => ⟨rfl, ht⟩) (fun q h => by cases h) dJ1_charAt_3b067_14
theorem j_cat (l : Launch) {E : Env0} {adV : Nat → Nat} {g k : Nat} (hg : g < 13) (hk : k < (strG g).length) : Met l yJ0_charAt_5068e (.code yJ0_charAt_5068e cJ0_charAt_5068e 2 (some .char) :: ALLW) (jrm 3) (JPc E adV [.ref (E.2.2.2.1 70 g), .int (nI k)]) (JQ (some (.int ((strG g).getD k 0)))) 0 0 (fun _ => False) := by
  refine Met.ofW (cc := cJ0_charAt_5068e) (maxL := 2) (ret := (some .char)) (by decide) rfl ?_
  intro p e s m args below meth c s₁ B hml hv
  obtain ⟨rfl, hJ⟩ := hv
  have hx := B.exec
  have hb := B.bytes
  have hr := B.returns
  have hts := atoms_spec (ws := .code yJ0_charAt_5068e cJ0_charAt_5068e 2 (some .char) :: ALLW) B.pre
  have hw : ∀ w ∈ ALLW, w.before ([.ref (E.2.2.2.1 70 g), .int (nI k)] : List Value).toArray s = true := fun w h => hts w (List.mem_cons_of_mem _ h)
  have hown : s.vm.findClass RJ0 = some m.cls := findClass_of_methodNamed B.named
  have hlocks := B.notSynchronized
  have hS : va_S (baseA E) s.heap s.heap [] := va_S.rf
  have hl := lv_entry ([.ref (E.2.2.2.1 70 g), .int (nI k)]) (n := 2) (Nat.le_of_ble_eq_true rfl)
  rw [lg_entry_eq]
  generalize (lg_sl ([.ref (E.2.2.2.1 70 g), .int (nI k)]) ++ List.replicate (2 - (lg_sl ([.ref (E.2.2.2.1 70 g), .int (nI k)])).length) Slot.unset).toArray = ls at hl ⊢
  have hb255 := ((strJ_ok g hg).2.2.2 _ (gtD hk)).2
  refine lv_aload_n hx hb dJ0_charAt_5068e_0 rfl (lv_at hl 0 rfl) ?_
  refine jr_V (n := 0) (As := []) (rest := []) ⟨hx, hb, hml, hown, hw⟩ (j_isL l hg) jw_m_isL jw_i_isL jw_s_isL jw_n_J0 jw_c_isL ⟨rfl, by decide, by decide, by decide +kernel⟩ ⟨Nat.le_of_ble_eq_true rfl, Nat.le_of_ble_eq_true rfl⟩ hJ hS (vk_recv hJ.1 hg hS) rfl hl.1 (Nat.le_of_ble_eq_true rfl) dJ0_charAt_5068e_1 ⟨Nat.zero_le _, Nat.zero_le _⟩ ?_
  refine lv_if_eq (x := 1) (tgt := 16) hx hb dJ0_charAt_5068e_4 (by decide) (fun z => absurd z (by decide)) (fun _ => ?_)
  refine lv_aload_n hx hb dJ0_charAt_5068e_7 rfl (lv_at hl 0 rfl) ?_
  refine vk_getf hx hb (hJ.1.1 g hg).2.2.1 hS hown (hw _ jw_f_va) (fun _ h => h) dJ0_charAt_5068e_8 ?_
  refine lv_iload_n hx hb dJ0_charAt_5068e_11 rfl (lv_at hl 1 rfl) ?_
  refine jr_S (n := 2) (As := [.ref (adV g), .int (nI k)]) (rest := []) ⟨hx, hb, hml, hown, hw⟩ (j_lcat l hg hk) jw_m_lcat jw_t_lcat jw_n_J1 jw_c_lcat ⟨by decide, by decide, by decide +kernel⟩ ⟨Nat.le_of_ble_eq_true rfl, Nat.le_of_ble_eq_true rfl⟩ hJ hS rfl hl.1 (Nat.le_of_ble_eq_true rfl) dJ0_charAt_5068e_12 ⟨Nat.zero_le _, Nat.zero_le _⟩ ?_
  exact W.zret (v := (strG g).getD k 0) (ty := .char) hx hb hr (by have := sc_nar ((strG g).getD k 0); rw [hb255] at this; exact this) (fun t ht _ => ⟨rfl, ht⟩) (fun q h => by cases h) dJ0_charAt_5068e_15
/-- is it a byte without a sign -/
def enB (i : Int32) : Bool := decide (0 ≤ i ∧ i ≤ 255)
theorem j_enc (l : Launch) {E : Env0} {adV : Nat → Nat} {i : Int32} : Met l yJ1_canEncode_9a6ad (.code yJ1_canEncode_9a6ad cJ1_canEncode_9a6ad 1 (some .boolean) :: ALLW) (jrm 0) (JPc E adV [.int i]) (JQ (some (.int (b2 (enB i))))) 0 0 (fun _ => False) := by
  refine Met.ofW (cc := cJ1_canEncode_9a6ad) (maxL := 1) (ret := (some .boolean)) (by decide) rfl ?_
  intro p e s m args below meth c s₁ B hml hv
  obtain ⟨rfl, hJ⟩ := hv
  have hx := B.exec
  have hb := B.bytes
  have hr := B.returns
  have hts := atoms_spec (ws := .code yJ1_canEncode_9a6ad cJ1_canEncode_9a6ad 1 (some .boolean) :: ALLW) B.pre
  have hw : ∀ w ∈ ALLW, w.before ([.int i] : List Value).toArray s = true := fun w h => hts w (List.mem_cons_of_mem _ h)
  have hown : s.vm.findClass RJ1 = some m.cls := findClass_of_methodNamed B.named
  have hlocks := B.notSynchronized
  have hS : va_S (baseA E) s.heap s.heap [] := va_S.rf
  have hl := lv_entry ([.int i]) (n := 1) (Nat.le_of_ble_eq_true rfl)
  rw [lg_entry_eq]
  generalize (lg_sl ([.int i]) ++ List.replicate (1 - (lg_sl ([.int i])).length) Slot.unset).toArray = ls at hl ⊢
  have no : enB i = false → W p l e (headSpec (.code yJ1_canEncode_9a6ad cJ1_canEncode_9a6ad 1 (some .boolean) :: ALLW) (jrm 0)).room s m ([.int i] : List Value).toArray below meth c s.heap [] 0 0 (MQ below (JQ (some (.int (b2 (enB i))))) ([.int i] : List Value).toArray s 0 0 (fun _ => False)) (F0 m 15 ls []) := by
    intro hf
    rw [hf]
    refine lv_iconst (v := 0) hx hb dJ1_canEncode_9a6ad_15 (by decide) ?_
    exact W.zret (v := 0) (ty := .boolean) hx hb hr (by decide) (fun t ht _ => ⟨rfl, ht⟩) (fun q h => by cases h) dJ1_canEncode_9a6ad_16
  refine lv_iload_n hx hb dJ1_canEncode_9a6ad_0 rfl (lv_at hl 0 rfl) ?_
  refine lv_if_lt (tgt := 15) hx hb dJ1_canEncode_9a6ad_1 (by decide) (fun z => no (decide_eq_false (fun q => absurd z (Int32.not_lt.mpr q.1)))) (fun z1 => ?_)
  refine lv_iload_n hx hb dJ1_canEncode_9a6ad_4 rfl (lv_at hl 0 rfl) ?_
  refine lv_sipush (v := 255) hx hb dJ1_canEncode_9a6ad_5 (by decide) ?_
  refine lv_icmp_gt (tgt := 15) hx hb dJ1_canEncode_9a6ad_8 (by decide) (fun z => no (decide_eq_false (fun q => absurd z (Int32.not_lt.mpr q.2)))) (fun z2 => ?_)
  rw [show enB i = true from decide_eq_true ⟨Int32.not_lt.mp z1, Int32.not_lt.mp z2⟩]
  refine lv_iconst (v := 1) hx hb dJ1_canEncode_9a6ad_11 (by decide) ?_
  refine lv_goto (tgt := 16) hx hb dJ1_canEncode_9a6ad_12 (by decide) ?_
  exact W.zret (v := 1) (ty := .boolean) hx hb hr (by decide) (fun t ht _ => ⟨rfl, ht⟩) (fun q h => by cases h) dJ1_canEncode_9a6ad_16
/-- where it stands first -/
def ixJ (i : Int32) : List Int32 → Nat → Int32
  | [], _ => -1
  | b :: t, k => if b = i then nI k else ixJ i t (k + 1)
theorem j_lic (l : Launch) {E : Env0} {adV : Nat → Nat} {g n : Nat} (hg : g < 13) (hn : n < 256) : Met l yJ1_indexOfChar_4cfef (.code yJ1_indexOfChar_4cfef cJ1_indexOfChar_4cfef 6 (some .int) :: ALLW) (jrm 0) (JPc E adV [.ref (adV g), .int (nI n), .int 0, .int (nI (strG g).length)]) (JQ (some (.int (ixJ (nI n) (strG g) 0)))) 0 0 (fun _ => False) := by
  refine Met.ofW (cc := cJ1_indexOfChar_4cfef) (maxL := 6) (ret := (some .int)) (by decide) rfl ?_
  intro p e s m args below meth c s₁ B hml hv
  obtain ⟨rfl, hJ⟩ := hv
  have hx := B.exec
  have hb := B.bytes
  have hr := B.returns
  have hts := atoms_spec (ws := .code yJ1_indexOfChar_4cfef cJ1_indexOfChar_4cfef 6 (some .int) :: ALLW) B.pre
  have hw : ∀ w ∈ ALLW, w.before ([.ref (adV g), .int (nI n), .int 0, .int (nI (strG g).length)] : List Value).toArray s = true := fun w h => hts w (List.mem_cons_of_mem _ h)
  have hown : s.vm.findClass RJ1 = some m.cls := findClass_of_methodNamed B.named
  have hlocks := B.notSynchronized
  have hS : va_S (baseA E) s.heap s.heap [] := va_S.rf
  have hl := lv_entry ([.ref (adV g), .int (nI n), .int 0, .int (nI (strG g).length)]) (n := 6) (Nat.le_of_ble_eq_true rfl)
  rw [lg_entry_eq]
  generalize (lg_sl ([.ref (adV g), .int (nI n), .int 0, .int (nI (strG g).length)]) ++ List.replicate (6 - (lg_sl ([.ref (adV g), .int (nI n), .int 0, .int (nI (strG g).length)])).length) Slot.unset).toArray = ls at hl ⊢
  obtain ⟨-, -, h100, hby⟩ := strJ_ok g hg
  have hl : lv_has ls 6 [(0, .ref (adV g)), (1, .int (nI n)), (2, .int 0), (3, .int (nI (strG g).length))] := hl
  generalize hr0 : ixJ (nI n) (strG g) 0 = r
  have loop : ∀ (t : List Int32) (k : Nat), k ≤ (strG g).length → (strG g).drop k = t → ixJ (nI n) t k = r → ∀ ls, lv_has ls 6 [(5, .int (nI k)), (4, .int (nI n).toInt8.toInt32), (0, .ref (adV g)), (1, .int (nI n)), (2, .int 0), (3, .int (nI (strG g).length))] → W p l e (headSpec (.code yJ1_indexOfChar_4cfef cJ1_indexOfChar_4cfef 6 (some .int) :: ALLW) (jrm 0)).room s m ([.ref (adV g), .int (nI n), .int 0, .int (nI (strG g).length)] : List Value).toArray below meth c s.heap [] 0 0 (MQ below (JQ (some (.int r))) ([.ref (adV g), .int (nI n), .int 0, .int (nI (strG g).length)] : List Value).toArray s 0 0 (fun _ => False)) (F0 m 7 ls []) := by
    intro t
    induction t with
    | nil =>
      intro k hk hd he ls hl
      have q : (strG g).length ≤ k := List.drop_eq_nil_iff.mp hd
      have he : (-1 : Int32) = r := he
      refine lv_iload hx hb dJ1_indexOfChar_4cfef_7 (lv_at hl 0 rfl) ?_
      refine lv_iload_n hx hb dJ1_indexOfChar_4cfef_9 rfl (lv_at hl 5 rfl) ?_
      refine lv_icmp_ge (tgt := 31) hx hb dJ1_indexOfChar_4cfef_10 (by decide) (fun _ => ?_) (fun z => absurd (nI_le q (by omega)) z)
      refine lv_iconst (v := -1) hx hb dJ1_indexOfChar_4cfef_31 (by decide) ?_
      rw [he]
      exact W.iret (v := r) hx hb hr (fun t ht _ => ⟨rfl, ht⟩) (fun q h => by cases h) dJ1_indexOfChar_4cfef_32
    | cons b t ih =>
      intro k hk hd he ls hl
      obtain ⟨h1, h2, h3, h4⟩ := sc_dropC hd
      rw [ixJ] at he
      have heq : b = (nI n).toInt8.toInt32 ↔ b = nI n := by
        have := sc_eq (hby b h4).1 hn
        rw [(hby b h4).2] at this
        exact this
      refine lv_iload hx hb dJ1_indexOfChar_4cfef_7 (lv_at hl 0 rfl) ?_
      refine lv_iload_n hx hb dJ1_indexOfChar_4cfef_9 rfl (lv_at hl 5 rfl) ?_
      refine lv_icmp_ge (tgt := 31) hx hb dJ1_indexOfChar_4cfef_10 (by decide) (fun z => absurd z (nI_ge h1 (by omega))) (fun _ => ?_)
      refine lv_aload_n hx hb dJ1_indexOfChar_4cfef_13 rfl (lv_at hl 2 rfl) ?_
      refine lv_iload hx hb dJ1_indexOfChar_4cfef_14 (lv_at hl 0 rfl) ?_
      refine va_tb (v := .int b) hx hb (strV hJ hg) hS (vp_in_nI h1 (by omega)) (by rw [nI_clamp (by omega), h2]) dJ1_indexOfChar_4cfef_16 ?_
      refine lv_iload hx hb dJ1_indexOfChar_4cfef_17 (lv_at hl 1 rfl) ?_
      refine lv_icmp_ne (tgt := 25) hx hb dJ1_indexOfChar_4cfef_19 (by decide) (fun z => ?_) (fun z => ?_)
      · rw [if_neg (fun q => z (heq.mpr q))] at he
        refine lv_iinc (k := 0) (v := nI (k + 1)) (lv' := [(5, .int (nI (k + 1))), (4, .int (nI n).toInt8.toInt32), (0, .ref (adV g)), (1, .int (nI n)), (2, .int 0), (3, .int (nI (strG g).length))]) hx hb dJ1_indexOfChar_4cfef_25 hl rfl (nI_succ k).symm (by decide) rfl (fun ls hl => ?_)
        refine lv_goto (tgt := 7) hx hb dJ1_indexOfChar_4cfef_28 (by decide) ?_
        exact ih (k + 1) (by omega) h3 he ls hl
      · rw [if_pos (heq.mp z)] at he
        refine lv_iload hx hb dJ1_indexOfChar_4cfef_22 (lv_at hl 0 rfl) ?_
        rw [he]
        exact W.iret (v := r) hx hb hr (fun t ht _ => ⟨rfl, ht⟩) (fun q h => by cases h) dJ1_indexOfChar_4cfef_24
  refine lv_iload_n hx hb dJ1_indexOfChar_4cfef_0 rfl (lv_at hl 1 rfl) ?_
  refine lv_i2b hx hb dJ1_indexOfChar_4cfef_1 rfl ?_
  refine lv_istore (lv' := [(4, .int (nI n).toInt8.toInt32), (0, .ref (adV g)), (1, .int (nI n)), (2, .int 0), (3, .int (nI (strG g).length))]) hx hb dJ1_indexOfChar_4cfef_2 hl (by decide) rfl (fun ls hl => ?_)
  refine lv_iload_n hx hb dJ1_indexOfChar_4cfef_4 rfl (lv_at hl 3 rfl) ?_
  refine lv_istore (lv' := [(5, .int 0), (4, .int (nI n).toInt8.toInt32), (0, .ref (adV g)), (1, .int (nI n)), (2, .int 0), (3, .int (nI (strG g).length))]) hx hb dJ1_indexOfChar_4cfef_5 hl (by decide) rfl (fun ls hl => ?_)
  exact loop (strG g) 0 (Nat.zero_le _) rfl hr0 ls hl
/-- indexOf -/
def ixR (i : Int32) (l : List Int32) : Int32 := if enB i = true then ixJ i l 0 else -1
theorem strJ_pos : ∀ g, g < 13 → 0 < (strG g).length := by decide +kernel
theorem j_lix (l : Launch) {E : Env0} {adV : Nat → Nat} {g : Nat} {i : Int32} (hg : g < 13) : Met l yJ1_indexOf_4cfef (.code yJ1_indexOf_4cfef cJ1_indexOf_4cfef 4 (some .int) :: ALLW) (jrm 1) (JPc E adV [.ref (adV g), .int i, .int 0, .int (nI (strG g).length)]) (JQ (some (.int (ixR i (strG g))))) 0 0 (fun _ => False) := by
  refine Met.ofW (cc := cJ1_indexOf_4cfef) (maxL := 4) (ret := (some .int)) (by decide) rfl ?_
  intro p e s m args below meth c s₁ B hml hv
  obtain ⟨rfl, hJ⟩ := hv
  have hx := B.exec
  have hb := B.bytes
  have hr := B.returns
  have hts := atoms_spec (ws := .code yJ1_indexOf_4cfef cJ1_indexOf_4cfef 4 (some .int) :: ALLW) B.pre
  have hw : ∀ w ∈ ALLW, w.before ([.ref (adV g), .int i, .int 0, .int (nI (strG g).length)] : List Value).toArray s = true := fun w h => hts w (List.mem_cons_of_mem _ h)
  have hown : s.vm.findClass RJ1 = some m.cls := findClass_of_methodNamed B.named
  have hlocks := B.notSynchronized
  have hS : va_S (baseA E) s.heap s.heap [] := va_S.rf
  have hl := lv_entry ([.ref (adV g), .int i, .int 0, .int (nI (strG g).length)]) (n := 4) (Nat.le_of_ble_eq_true rfl)
  rw [lg_entry_eq]
  generalize (lg_sl ([.ref (adV g), .int i, .int 0, .int (nI (strG g).length)]) ++ List.replicate (4 - (lg_sl ([.ref (adV g), .int i, .int 0, .int (nI (strG g).length)])).length) Slot.unset).toArray = ls at hl ⊢
  obtain ⟨-, -, h100, hby⟩ := strJ_ok g hg
  have hl : lv_has ls 4 [(0, .ref (adV g)), (1, .int i), (2, .int 0), (3, .int (nI (strG g).length))] := hl
  refine lv_iload_n hx hb dJ1_indexOf_4cfef_0 rfl (lv_at hl 1 rfl) ?_
  refine jr_S (n := 1) (As := [.int i]) (rest := []) ⟨hx, hb, hml, hown, hw⟩ (j_enc l) jw_m_enc jw_t_enc jw_n_J1 jw_c_enc ⟨by decide, by decide, by decide +kernel⟩ ⟨Nat.le_of_ble_eq_true rfl, Nat.le_of_ble_eq_true rfl⟩ hJ hS rfl hl.1 (Nat.le_of_ble_eq_true rfl) dJ1_indexOf_4cfef_1 ⟨Nat.zero_le _, Nat.zero_le _⟩ ?_
  cases hf : enB i with
  | false =>
    have hR : ixR i (strG g) = -1 := if_neg (by rw [hf]; decide)
    rw [hR]
    refine lv_if_ne (x := 0) (tgt := 9) hx hb dJ1_indexOf_4cfef_4 (by decide) (fun z => absurd rfl z) (fun _ => ?_)
    refine lv_iconst (v := -1) hx hb dJ1_indexOf_4cfef_7 (by decide) ?_
    exact W.iret (v := -1) hx hb hr (fun t ht _ => ⟨rfl, ht⟩) (fun q h => by cases h) dJ1_indexOf_4cfef_8
  | true =>
    have hR : ixR i (strG g) = ixJ i (strG g) 0 := if_pos hf
    rw [hR]
    have hi := of_decide_eq_true hf
    obtain ⟨n, hn, rfl⟩ := nI_of (Int32.not_lt.mpr hi.1)
    have h256 : n < 256 := by
      rcases Nat.lt_or_ge n 256 with q | q
      · exact q
      · exact absurd hi.2 (nI_ge (a := 255) (b := n) (by omega) hn)
    refine lv_if_ne (x := 1) (tgt := 9) hx hb dJ1_indexOf_4cfef_4 (by decide) (fun _ => ?_) (fun z => absurd z (by decide))
    refine lv_iload_n hx hb dJ1_indexOf_4cfef_9 rfl (lv_at hl 2 rfl) ?_
    refine lv_iconst (v := 0) hx hb dJ1_indexOf_4cfef_10 (by decide) ?_
    refine va_mmax (x := 0) (y := 0) (rest := []) hx hb (by rw [hml]; exact hl.1.symm) hown (hw _ jw_m_max) (hw _ jw_t_max) (hw _ jw_n_M) (hw _ jw_c_max) (Nat.le_of_ble_eq_true rfl) (Nat.le_of_ble_eq_true rfl) (Nat.zero_le _) (Nat.zero_le _) dJ1_indexOf_4cfef_11 ?_
    rw [if_neg (by decide)]
    refine lv_istore_n (lv' := [(2, .int 0), (0, .ref (adV g)), (1, .int (nI n)), (3, .int (nI (strG g).length))]) hx hb dJ1_indexOf_4cfef_14 rfl hl (by decide) rfl (fun ls hl => ?_)
    refine lv_iload_n hx hb dJ1_indexOf_4cfef_15 rfl (lv_at hl 3 rfl) ?_
    refine lv_aload_n hx hb dJ1_indexOf_4cfef_16 rfl (lv_at hl 1 rfl) ?_
    refine va_tlen (v := nI (strG g).length) hx hb (strV hJ hg) hS rfl dJ1_indexOf_4cfef_17 ?_
    refine va_mmin (x := nI (strG g).length) (y := nI (strG g).length) (rest := []) hx hb (by rw [hml]; exact hl.1.symm) hown (hw _ jw_m_min) (hw _ jw_t_min) (hw _ jw_n_M) (hw _ jw_c_min) (Nat.le_of_ble_eq_true rfl) (Nat.le_of_ble_eq_true rfl) (Nat.zero_le _) (Nat.zero_le _) dJ1_indexOf_4cfef_18 ?_
    rw [ite_self]
    refine lv_istore_n (lv' := [(3, .int (nI (strG g).length)), (2, .int 0), (0, .ref (adV g)), (1, .int (nI n))]) hx hb dJ1_indexOf_4cfef_21 rfl hl (by decide) rfl (fun ls hl => ?_)
    refine lv_iload_n hx hb dJ1_indexOf_4cfef_22 rfl (lv_at hl 1 rfl) ?_
    refine lv_iload_n hx hb dJ1_indexOf_4cfef_23 rfl (lv_at hl 0 rfl) ?_
    refine lv_icmp_lt (tgt := 29) hx hb dJ1_indexOf_4cfef_24 (by decide) (fun _ => ?_) (fun z => absurd (nI_lt (a := 0) (strJ_pos g hg) (by omega)) z)
    refine lv_aload_n hx hb dJ1_indexOf_4cfef_29 rfl (lv_at hl 2 rfl) ?_
    refine lv_iload_n hx hb dJ1_indexOf_4cfef_30 rfl (lv_at hl 3 rfl) ?_
    refine lv_iload_n hx hb dJ1_indexOf_4cfef_31 rfl (lv_at hl 1 rfl) ?_
    refine lv_iload_n hx hb dJ1_indexOf_4cfef_32 rfl (lv_at hl 0 rfl) ?_
    refine jr_S (n := 4) (As := [.ref (adV g), .int (nI n), .int 0, .int (nI (strG g).length)]) (rest := []) ⟨hx, hb, hml, hown, hw⟩ (j_lic l hg h256) jw_m_lic jw_t_lic jw_n_J1 jw_c_lic ⟨by decide, by decide, by decide +kernel⟩ ⟨Nat.le_of_ble_eq_true rfl, Nat.le_of_ble_eq_true rfl⟩ hJ hS rfl hl.1 (Nat.le_of_ble_eq_true rfl) dJ1_indexOf_4cfef_33 ⟨Nat.zero_le _, Nat.zero_le _⟩ ?_
    exact W.iret (v := ixJ (nI n) (strG g) 0) hx hb hr (fun t ht _ => ⟨rfl, ht⟩) (fun q h => by cases h) dJ1_indexOf_4cfef_36
theorem j_ix2 (l : Launch) {E : Env0} {adV : Nat → Nat} {g : Nat} {i : Int32} (hg : g < 13) : Met l yJ0_indexOf_7cf53 (.code yJ0_indexOf_7cf53 cJ0_indexOf_7cf53 3 (some .int) :: ALLW) (jrm 2) (JPc E adV [.ref (E.2.2.2.1 70 g), .int i, .int 0]) (JQ (some (.int (ixR i (strG g))))) 0 0 (fun _ => False) := by
  refine Met.ofW (cc := cJ0_indexOf_7cf53) (maxL := 3) (ret := (some .int)) (by decide) rfl ?_
  intro p e s m args below meth c s₁ B hml hv
  obtain ⟨rfl, hJ⟩ := hv
  have hx := B.exec
  have hb := B.bytes
  have hr := B.returns
  have hts := atoms_spec (ws := .code yJ0_indexOf_7cf53 cJ0_indexOf_7cf53 3 (some .int) :: ALLW) B.pre
  have hw : ∀ w ∈ ALLW, w.before ([.ref (E.2.2.2.1 70 g), .int i, .int 0] : List Value).toArray s = true := fun w h => hts w (List.mem_cons_of_mem _ h)
  have hown : s.vm.findClass RJ0 = some m.cls := findClass_of_methodNamed B.named
  have hlocks := B.notSynchronized
  have hS : va_S (baseA E) s.heap s.heap [] := va_S.rf
  have hl := lv_entry ([.ref (E.2.2.2.1 70 g), .int i, .int 0]) (n := 3) (Nat.le_of_ble_eq_true rfl)
  rw [lg_entry_eq]
  generalize (lg_sl ([.ref (E.2.2.2.1 70 g), .int i, .int 0]) ++ List.replicate (3 - (lg_sl ([.ref (E.2.2.2.1 70 g), .int i, .int 0])).length) Slot.unset).toArray = ls at hl ⊢
  refine lv_aload_n hx hb dJ0_indexOf_7cf53_0 rfl (lv_at hl 0 rfl) ?_
  refine jr_V (n := 0) (As := []) (rest := []) ⟨hx, hb, hml, hown, hw⟩ (j_isL l hg) jw_m_isL jw_i_isL jw_s_isL jw_n_J0 jw_c_isL ⟨rfl, by decide, by decide, by decide +kernel⟩ ⟨Nat.le_of_ble_eq_true rfl, Nat.le_of_ble_eq_true rfl⟩ hJ hS (vk_recv hJ.1 hg hS) rfl hl.1 (Nat.le_of_ble_eq_true rfl) dJ0_indexOf_7cf53_1 ⟨Nat.zero_le _, Nat.zero_le _⟩ ?_
  refine lv_if_eq (x := 1) (tgt := 23) hx hb dJ0_indexOf_7cf53_4 (by decide) (fun z => absurd z (by decide)) (fun _ => ?_)
  refine lv_aload_n hx hb dJ0_indexOf_7cf53_7 rfl (lv_at hl 0 rfl) ?_
  refine vk_getf hx hb (hJ.1.1 g hg).2.2.1 hS hown (hw _ jw_f_va) (fun _ h => h) dJ0_indexOf_7cf53_8 ?_
  refine lv_iload_n hx hb dJ0_indexOf_7cf53_11 rfl (lv_at hl 1 rfl) ?_
  refine lv_iload_n hx hb dJ0_indexOf_7cf53_12 rfl (lv_at hl 2 rfl) ?_
  refine lv_aload_n hx hb dJ0_indexOf_7cf53_13 rfl (lv_at hl 0 rfl) ?_
  refine jr_V (n := 0) (As := []) (rest := [.int 0, .int i, .ref (adV g)]) ⟨hx, hb, hml, hown, hw⟩ (j_len l hg) jw_m_len jw_i_len jw_s_len jw_n_J0 jw_c_len ⟨rfl, by decide, by decide, by decide +kernel⟩ ⟨Nat.le_of_ble_eq_true rfl, Nat.le_of_ble_eq_true rfl⟩ hJ hS (vk_recv hJ.1 hg hS) rfl hl.1 (Nat.le_of_ble_eq_true rfl) dJ0_indexOf_7cf53_14 ⟨Nat.zero_le _, Nat.zero_le _⟩ ?_
  refine jr_S (n := 4) (As := [.ref (adV g), .int i, .int 0, .int (nI (strG g).length)]) (rest := []) ⟨hx, hb, hml, hown, hw⟩ (j_lix l hg) jw_m_lix jw_t_lix jw_n_J1 jw_c_lix ⟨by decide, by decide, by decide +kernel⟩ ⟨Nat.le_of_ble_eq_true rfl, Nat.le_of_ble_eq_true rfl⟩ hJ hS rfl hl.1 (Nat.le_of_ble_eq_true rfl) dJ0_indexOf_7cf53_17 ⟨Nat.zero_le _, Nat.zero_le _⟩ ?_
  refine lv_goto (tgt := 36) hx hb dJ0_indexOf_7cf53_20 (by decide) ?_
  exact W.iret (v := ixR i (strG g)) hx hb hr (fun t ht _ => ⟨rfl, ht⟩) (fun q h => by cases h) dJ0_indexOf_7cf53_36
theorem j_ix1 (l : Launch) {E : Env0} {adV : Nat → Nat} {g : Nat} {i : Int32} (hg : g < 13) : Met l yJ0_indexOf_0f7a4 (.code yJ0_indexOf_0f7a4 cJ0_indexOf_0f7a4 2 (some .int) :: ALLW) (jrm 3) (JPc E adV [.ref (E.2.2.2.1 70 g), .int i]) (JQ (some (.int (ixR i (strG g))))) 0 0 (fun _ => False) := by
  refine Met.ofW (cc := cJ0_indexOf_0f7a4) (maxL := 2) (ret := (some .int)) (by decide) rfl ?_
  intro p e s m args below meth c s₁ B hml hv
  obtain ⟨rfl, hJ⟩ := hv
  have hx := B.exec
  have hb := B.bytes
  have hr := B.returns
  have hts := atoms_spec (ws := .code yJ0_indexOf_0f7a4 cJ0_indexOf_0f7a4 2 (some .int) :: ALLW) B.pre
  have hw : ∀ w ∈ ALLW, w.before ([.ref (E.2.2.2.1 70 g), .int i] : List Value).toArray s = true := fun w h => hts w (List.mem_cons_of_mem _ h)
  have hown : s.vm.findClass RJ0 = some m.cls := findClass_of_methodNamed B.named
  have hlocks := B.notSynchronized
  have hS : va_S (baseA E) s.heap s.heap [] := va_S.rf
  have hl := lv_entry ([.ref (E.2.2.2.1 70 g), .int i]) (n := 2) (Nat.le_of_ble_eq_true rfl)
  rw [lg_entry_eq]
  generalize (lg_sl ([.ref (E.2.2.2.1 70 g), .int i]) ++ List.replicate (2 - (lg_sl ([.ref (E.2.2.2.1 70 g), .int i])).length) Slot.unset).toArray = ls at hl ⊢
  refine lv_aload_n hx hb dJ0_indexOf_0f7a4_0 rfl (lv_at hl 0 rfl) ?_
  refine lv_iload_n hx hb dJ0_indexOf_0f7a4_1 rfl (lv_at hl 1 rfl) ?_
  refine lv_iconst (v := 0) hx hb dJ0_indexOf_0f7a4_2 (by decide) ?_
  refine jr_V (n := 2) (As := [.int i, .int 0]) (rest := []) ⟨hx, hb, hml, hown, hw⟩ (j_ix2 l hg) jw_m_ix2 jw_i_ix2 jw_s_ix2 jw_n_J0 jw_c_ix2 ⟨rfl, by decide, by decide, by decide +kernel⟩ ⟨Nat.le_of_ble_eq_true rfl, Nat.le_of_ble_eq_true rfl⟩ hJ hS (vk_recv hJ.1 hg hS) rfl hl.1 (Nat.le_of_ble_eq_true rfl) dJ0_indexOf_0f7a4_3 ⟨Nat.zero_le _, Nat.zero_le _⟩ ?_
  exact W.iret (v := ixR i (strG g)) hx hb hr (fun t ht _ => ⟨rfl, ht⟩) (fun q h => by cases h) dJ0_indexOf_0f7a4_6
theorem ixJ_ok (i : Int32) : ∀ (t : List Int32) (k : Nat), (ixJ i t k = -1 ∧ i ∉ t) ∨ ∃ j, ixJ i t k = nI (k + j) ∧ t[j]? = some i
  | [], k => Or.inl ⟨rfl, by simp⟩
  | b :: t, k => by
    rw [ixJ]
    by_cases e : b = i
    · rw [if_pos e]
      exact Or.inr ⟨0, rfl, by rw [e]; rfl⟩
    · rw [if_neg e]
      rcases ixJ_ok i t (k + 1) with ⟨h1, h2⟩ | ⟨j, h1, h2⟩
      · exact Or.inl ⟨h1, fun z => (List.mem_cons.mp z).elim (fun q => e q.symm) h2⟩
      · exact Or.inr ⟨j + 1, by rw [h1, show k + 1 + j = k + (j + 1) by omega], h2⟩
theorem ixR_ok {i : Int32} {g : Nat} (hg : g < 13) : (ixR i (strG g) = -1 ∧ i ∉ strG g) ∨ ∃ k, ixR i (strG g) = nI k ∧ (strG g)[k]? = some i := by
  cases hf : enB i with
  | true =>
    rw [ixR, if_pos hf]
    rcases ixJ_ok i (strG g) 0 with h | ⟨j, h1, h2⟩
    · exact Or.inl h
    · exact Or.inr ⟨j, by rw [h1, Nat.zero_add], h2⟩
  | false =>
    refine Or.inl ⟨if_neg (by rw [hf]; decide), fun hm => ?_⟩
    have hb := ((strJ_ok g hg).2.2.2 i hm).2
    obtain ⟨j, hj, e2⟩ := pk_andE i (m := 255) 8 (by decide)
    rw [hb] at e2
    have : enB i = true := decide_eq_true ⟨by rw [e2]; exact nI_pos' (by omega), by rw [e2]; exact nI_le (b := 255) (by omega) (by omega)⟩
    rw [hf] at this
    cases this
/-- the extra word: texts' cells, their references -/
def XJ (E : Env0) (adV : Nat → Nat) (U : State) : Prop := JX E adV U ∧ ∀ own ix g, stk own ix = some g → g < 13 ∧ ∃ tx, vk_R (own8 own) ix tx (E.2.2.2.1 70 g) U
theorem XJ_ok {E : Env0} {adV : Nat → Nat} : Xok E (XJ E adV) := fun s U hW _ hq h => ⟨h.1.moved hW hq, fun own ix g hs => by
  obtain ⟨h1, tx, h2⟩ := h.2 own ix g hs
  exact ⟨h1, tx, vk_R.warm hW h2⟩⟩
theorem ldc_ok {E : Env0} {adV : Nat → Nat} : LdcOK E (XJ E adV) := fun s own ix g hs hg => hs.2.2.2.2.2.2.2.2.2.2.2.2.2.2.2.2 own ix g hg
theorem txt_ok {E : Env0} {adV : Nat → Nat} : TxtOK E (XJ E adV) := by
  intro p l e R s m args below meth c Q cc pc fc fs ix g H locs ls rest hx hb hml hown hw hs hfr hlo hfc hfs hS hcat hg hdg
  have hJ : JX E adV s := hs.2.2.2.2.2.2.2.2.2.2.2.2.2.2.2.1
  refine ⟨fun e1 k => ?_, fun e1 i hi k => ?_, fun e1 i k => ?_⟩
  · subst e1
    exact jr_V (n := 0) (As := []) (rest := rest) (nL := ls.size) ⟨hx, hb, hml, hown, hw⟩ (j_len l hg) jw_m_xlen jw_i_len jw_s_len jw_n_J0 jw_c_len ⟨rfl, by decide, by decide, by decide +kernel⟩ ⟨by omega, by omega⟩ hJ hS (vk_recv hJ.1 hg hS) rfl rfl hcat hdg ⟨hfc, hfs⟩ k
  · subst e1
    exact jr_V (n := 1) (As := [.int (nI i)]) (rest := rest) (nL := ls.size) ⟨hx, hb, hml, hown, hw⟩ (j_cat l hg hi) jw_m_xcat jw_i_cat jw_s_cat jw_n_J0 jw_c_cat ⟨rfl, by decide, by decide, by decide +kernel⟩ ⟨by omega, by omega⟩ hJ hS (vk_recv hJ.1 hg hS) rfl rfl hcat hdg ⟨hfc, hfs⟩ k
  · subst e1
    exact jr_V (n := 1) (As := [.int i]) (rest := rest) (nL := ls.size) ⟨hx, hb, hml, hown, hw⟩ (j_ix1 l hg) jw_m_xix jw_i_ix1 jw_s_ix1 jw_n_J0 jw_c_ix1 ⟨rfl, by decide, by decide, by decide +kernel⟩ ⟨by omega, by omega⟩ hJ hS (vk_recv hJ.1 hg hS) rfl rfl hcat hdg ⟨hfc, hfs⟩ (k _ (ixR_ok hg))

