/-! String.indexOf OF THE LETTERS, by program (wip/gen_I.py) -/
theorem dI_J0_indexOf_0f7a4_0 : decode cJ0_indexOf_0f7a4 0 = .ok (.aload_n 0, 1) := by decide +kernel
theorem dI_J0_indexOf_0f7a4_1 : decode cJ0_indexOf_0f7a4 1 = .ok (.iload_n 1, 1) := by decide +kernel
theorem dI_J0_indexOf_0f7a4_2 : decode cJ0_indexOf_0f7a4 2 = .ok (.iconst 0, 1) := by decide +kernel
theorem dI_J0_indexOf_0f7a4_3 : decode cJ0_indexOf_0f7a4 3 = .ok (.invokevirtual 633, 3) := by decide +kernel
theorem dI_J0_indexOf_0f7a4_6 : decode cJ0_indexOf_0f7a4 6 = .ok (.ireturn, 1) := by decide +kernel
theorem dI_J0_indexOf_7cf53_0 : decode cJ0_indexOf_7cf53 0 = .ok (.aload_n 0, 1) := by decide +kernel
theorem dI_J0_indexOf_7cf53_1 : decode cJ0_indexOf_7cf53 1 = .ok (.invokevirtual 492, 3) := by decide +kernel
theorem dI_J0_indexOf_7cf53_4 : decode cJ0_indexOf_7cf53 4 = .ok (.ifCond .eq 19, 3) := by decide +kernel
theorem dI_J0_indexOf_7cf53_7 : decode cJ0_indexOf_7cf53 7 = .ok (.aload_n 0, 1) := by decide +kernel
theorem dI_J0_indexOf_7cf53_8 : decode cJ0_indexOf_7cf53 8 = .ok (.getfield 9, 3) := by decide +kernel
theorem dI_J0_indexOf_7cf53_11 : decode cJ0_indexOf_7cf53 11 = .ok (.iload_n 1, 1) := by decide +kernel
theorem dI_J0_indexOf_7cf53_12 : decode cJ0_indexOf_7cf53 12 = .ok (.iload_n 2, 1) := by decide +kernel
theorem dI_J0_indexOf_7cf53_13 : decode cJ0_indexOf_7cf53 13 = .ok (.aload_n 0, 1) := by decide +kernel
theorem dI_J0_indexOf_7cf53_14 : decode cJ0_indexOf_7cf53 14 = .ok (.invokevirtual 505, 3) := by decide +kernel
theorem dI_J0_indexOf_7cf53_17 : decode cJ0_indexOf_7cf53 17 = .ok (.invokestatic 637, 3) := by decide +kernel
theorem dI_J0_indexOf_7cf53_20 : decode cJ0_indexOf_7cf53 20 = .ok (.goto 16, 3) := by decide +kernel
theorem dI_J0_indexOf_7cf53_23 : decode cJ0_indexOf_7cf53 23 = .ok (.aload_n 0, 1) := by decide +kernel
theorem dI_J0_indexOf_7cf53_24 : decode cJ0_indexOf_7cf53 24 = .ok (.getfield 9, 3) := by decide +kernel
theorem dI_J0_indexOf_7cf53_27 : decode cJ0_indexOf_7cf53 27 = .ok (.iload_n 1, 1) := by decide +kernel
theorem dI_J0_indexOf_7cf53_28 : decode cJ0_indexOf_7cf53 28 = .ok (.iload_n 2, 1) := by decide +kernel
theorem dI_J0_indexOf_7cf53_29 : decode cJ0_indexOf_7cf53 29 = .ok (.aload_n 0, 1) := by decide +kernel
theorem dI_J0_indexOf_7cf53_30 : decode cJ0_indexOf_7cf53 30 = .ok (.invokevirtual 505, 3) := by decide +kernel
theorem dI_J0_indexOf_7cf53_33 : decode cJ0_indexOf_7cf53 33 = .ok (.invokestatic 640, 3) := by decide +kernel
theorem dI_J0_indexOf_7cf53_36 : decode cJ0_indexOf_7cf53 36 = .ok (.ireturn, 1) := by decide +kernel
theorem dI_J0_isLatin1_aae02_0 : decode cJ0_isLatin1_aae02 0 = .ok (.getstatic 38, 3) := by decide +kernel
theorem dI_J0_isLatin1_aae02_3 : decode cJ0_isLatin1_aae02 3 = .ok (.ifCond .eq 14, 3) := by decide +kernel
theorem dI_J0_isLatin1_aae02_6 : decode cJ0_isLatin1_aae02 6 = .ok (.aload_n 0, 1) := by decide +kernel
theorem dI_J0_isLatin1_aae02_7 : decode cJ0_isLatin1_aae02 7 = .ok (.getfield 15, 3) := by decide +kernel
theorem dI_J0_isLatin1_aae02_10 : decode cJ0_isLatin1_aae02 10 = .ok (.ifCond .ne 7, 3) := by decide +kernel
theorem dI_J0_isLatin1_aae02_13 : decode cJ0_isLatin1_aae02 13 = .ok (.iconst 1, 1) := by decide +kernel
theorem dI_J0_isLatin1_aae02_14 : decode cJ0_isLatin1_aae02 14 = .ok (.goto 4, 3) := by decide +kernel
theorem dI_J0_isLatin1_aae02_17 : decode cJ0_isLatin1_aae02 17 = .ok (.iconst 0, 1) := by decide +kernel
theorem dI_J0_isLatin1_aae02_18 : decode cJ0_isLatin1_aae02 18 = .ok (.ireturn, 1) := by decide +kernel
theorem dI_J0_length_8abf5_0 : decode cJ0_length_8abf5 0 = .ok (.aload_n 0, 1) := by decide +kernel
theorem dI_J0_length_8abf5_1 : decode cJ0_length_8abf5 1 = .ok (.getfield 9, 3) := by decide +kernel
theorem dI_J0_length_8abf5_4 : decode cJ0_length_8abf5 4 = .ok (.arraylength, 1) := by decide +kernel
theorem dI_J0_length_8abf5_5 : decode cJ0_length_8abf5 5 = .ok (.aload_n 0, 1) := by decide +kernel
theorem dI_J0_length_8abf5_6 : decode cJ0_length_8abf5 6 = .ok (.invokevirtual 335, 3) := by decide +kernel
theorem dI_J0_length_8abf5_9 : decode cJ0_length_8abf5 9 = .ok (.ishr, 1) := by decide +kernel
theorem dI_J0_length_8abf5_10 : decode cJ0_length_8abf5 10 = .ok (.ireturn, 1) := by decide +kernel
theorem dI_J0_coder_7d493_0 : decode cJ0_coder_7d493 0 = .ok (.getstatic 38, 3) := by decide +kernel
theorem dI_J0_coder_7d493_3 : decode cJ0_coder_7d493 3 = .ok (.ifCond .eq 10, 3) := by decide +kernel
theorem dI_J0_coder_7d493_6 : decode cJ0_coder_7d493 6 = .ok (.aload_n 0, 1) := by decide +kernel
theorem dI_J0_coder_7d493_7 : decode cJ0_coder_7d493 7 = .ok (.getfield 15, 3) := by decide +kernel
theorem dI_J0_coder_7d493_10 : decode cJ0_coder_7d493 10 = .ok (.goto 4, 3) := by decide +kernel
theorem dI_J0_coder_7d493_13 : decode cJ0_coder_7d493 13 = .ok (.iconst 1, 1) := by decide +kernel
theorem dI_J0_coder_7d493_14 : decode cJ0_coder_7d493 14 = .ok (.ireturn, 1) := by decide +kernel
theorem dI_J1_canEncode_9a6ad_0 : decode cJ1_canEncode_9a6ad 0 = .ok (.iload_n 0, 1) := by decide +kernel
theorem dI_J1_canEncode_9a6ad_1 : decode cJ1_canEncode_9a6ad 1 = .ok (.ifCond .lt 14, 3) := by decide +kernel
theorem dI_J1_canEncode_9a6ad_4 : decode cJ1_canEncode_9a6ad 4 = .ok (.iload_n 0, 1) := by decide +kernel
theorem dI_J1_canEncode_9a6ad_5 : decode cJ1_canEncode_9a6ad 5 = .ok (.sipush 255, 3) := by decide +kernel
theorem dI_J1_canEncode_9a6ad_8 : decode cJ1_canEncode_9a6ad 8 = .ok (.if_icmp .gt 7, 3) := by decide +kernel
theorem dI_J1_canEncode_9a6ad_11 : decode cJ1_canEncode_9a6ad 11 = .ok (.iconst 1, 1) := by decide +kernel
theorem dI_J1_canEncode_9a6ad_12 : decode cJ1_canEncode_9a6ad 12 = .ok (.goto 4, 3) := by decide +kernel
theorem dI_J1_canEncode_9a6ad_15 : decode cJ1_canEncode_9a6ad 15 = .ok (.iconst 0, 1) := by decide +kernel
theorem dI_J1_canEncode_9a6ad_16 : decode cJ1_canEncode_9a6ad 16 = .ok (.ireturn, 1) := by decide +kernel
theorem dI_J1_indexOf_4cfef_0 : decode cJ1_indexOf_4cfef 0 = .ok (.iload_n 1, 1) := by decide +kernel
theorem dI_J1_indexOf_4cfef_1 : decode cJ1_indexOf_4cfef 1 = .ok (.invokestatic 88, 3) := by decide +kernel
theorem dI_J1_indexOf_4cfef_4 : decode cJ1_indexOf_4cfef 4 = .ok (.ifCond .ne 5, 3) := by decide +kernel
theorem dI_J1_indexOf_4cfef_7 : decode cJ1_indexOf_4cfef 7 = .ok (.iconst (-1), 1) := by decide +kernel
theorem dI_J1_indexOf_4cfef_8 : decode cJ1_indexOf_4cfef 8 = .ok (.ireturn, 1) := by decide +kernel
theorem dI_J1_indexOf_4cfef_9 : decode cJ1_indexOf_4cfef 9 = .ok (.iload_n 2, 1) := by decide +kernel
theorem dI_J1_indexOf_4cfef_10 : decode cJ1_indexOf_4cfef 10 = .ok (.iconst 0, 1) := by decide +kernel
theorem dI_J1_indexOf_4cfef_11 : decode cJ1_indexOf_4cfef 11 = .ok (.invokestatic 92, 3) := by decide +kernel
theorem dI_J1_indexOf_4cfef_14 : decode cJ1_indexOf_4cfef 14 = .ok (.istore_n 2, 1) := by decide +kernel
theorem dI_J1_indexOf_4cfef_15 : decode cJ1_indexOf_4cfef 15 = .ok (.iload_n 3, 1) := by decide +kernel
theorem dI_J1_indexOf_4cfef_16 : decode cJ1_indexOf_4cfef 16 = .ok (.aload_n 0, 1) := by decide +kernel
theorem dI_J1_indexOf_4cfef_17 : decode cJ1_indexOf_4cfef 17 = .ok (.arraylength, 1) := by decide +kernel
theorem dI_J1_indexOf_4cfef_18 : decode cJ1_indexOf_4cfef 18 = .ok (.invokestatic 38, 3) := by decide +kernel
theorem dI_J1_indexOf_4cfef_21 : decode cJ1_indexOf_4cfef 21 = .ok (.istore_n 3, 1) := by decide +kernel
theorem dI_J1_indexOf_4cfef_22 : decode cJ1_indexOf_4cfef 22 = .ok (.iload_n 2, 1) := by decide +kernel
theorem dI_J1_indexOf_4cfef_23 : decode cJ1_indexOf_4cfef 23 = .ok (.iload_n 3, 1) := by decide +kernel
theorem dI_J1_indexOf_4cfef_24 : decode cJ1_indexOf_4cfef 24 = .ok (.if_icmp .lt 5, 3) := by decide +kernel
theorem dI_J1_indexOf_4cfef_27 : decode cJ1_indexOf_4cfef 27 = .ok (.iconst (-1), 1) := by decide +kernel
theorem dI_J1_indexOf_4cfef_28 : decode cJ1_indexOf_4cfef 28 = .ok (.ireturn, 1) := by decide +kernel
theorem dI_J1_indexOf_4cfef_29 : decode cJ1_indexOf_4cfef 29 = .ok (.aload_n 0, 1) := by decide +kernel
theorem dI_J1_indexOf_4cfef_30 : decode cJ1_indexOf_4cfef 30 = .ok (.iload_n 1, 1) := by decide +kernel
theorem dI_J1_indexOf_4cfef_31 : decode cJ1_indexOf_4cfef 31 = .ok (.iload_n 2, 1) := by decide +kernel
theorem dI_J1_indexOf_4cfef_32 : decode cJ1_indexOf_4cfef 32 = .ok (.iload_n 3, 1) := by decide +kernel
theorem dI_J1_indexOf_4cfef_33 : decode cJ1_indexOf_4cfef 33 = .ok (.invokestatic 95, 3) := by decide +kernel
theorem dI_J1_indexOf_4cfef_36 : decode cJ1_indexOf_4cfef 36 = .ok (.ireturn, 1) := by decide +kernel
theorem dI_J1_indexOfChar_4cfef_0 : decode cJ1_indexOfChar_4cfef 0 = .ok (.iload_n 1, 1) := by decide +kernel
theorem dI_J1_indexOfChar_4cfef_1 : decode cJ1_indexOfChar_4cfef 1 = .ok (.i2b, 1) := by decide +kernel
theorem dI_J1_indexOfChar_4cfef_2 : decode cJ1_indexOfChar_4cfef 2 = .ok (.istore 4, 2) := by decide +kernel
theorem dI_J1_indexOfChar_4cfef_4 : decode cJ1_indexOfChar_4cfef 4 = .ok (.iload_n 2, 1) := by decide +kernel
theorem dI_J1_indexOfChar_4cfef_5 : decode cJ1_indexOfChar_4cfef 5 = .ok (.istore 5, 2) := by decide +kernel
theorem dI_J1_indexOfChar_4cfef_7 : decode cJ1_indexOfChar_4cfef 7 = .ok (.iload 5, 2) := by decide +kernel
theorem dI_J1_indexOfChar_4cfef_9 : decode cJ1_indexOfChar_4cfef 9 = .ok (.iload_n 3, 1) := by decide +kernel
theorem dI_J1_indexOfChar_4cfef_10 : decode cJ1_indexOfChar_4cfef 10 = .ok (.if_icmp .ge 21, 3) := by decide +kernel
theorem dI_J1_indexOfChar_4cfef_13 : decode cJ1_indexOfChar_4cfef 13 = .ok (.aload_n 0, 1) := by decide +kernel
theorem dI_J1_indexOfChar_4cfef_14 : decode cJ1_indexOfChar_4cfef 14 = .ok (.iload 5, 2) := by decide +kernel
theorem dI_J1_indexOfChar_4cfef_16 : decode cJ1_indexOfChar_4cfef 16 = .ok (.baload, 1) := by decide +kernel
theorem dI_J1_indexOfChar_4cfef_17 : decode cJ1_indexOfChar_4cfef 17 = .ok (.iload 4, 2) := by decide +kernel
theorem dI_J1_indexOfChar_4cfef_19 : decode cJ1_indexOfChar_4cfef 19 = .ok (.if_icmp .ne 6, 3) := by decide +kernel
theorem dI_J1_indexOfChar_4cfef_22 : decode cJ1_indexOfChar_4cfef 22 = .ok (.iload 5, 2) := by decide +kernel
theorem dI_J1_indexOfChar_4cfef_24 : decode cJ1_indexOfChar_4cfef 24 = .ok (.ireturn, 1) := by decide +kernel
theorem dI_J1_indexOfChar_4cfef_25 : decode cJ1_indexOfChar_4cfef 25 = .ok (.iinc 5 1, 3) := by decide +kernel
theorem dI_J1_indexOfChar_4cfef_28 : decode cJ1_indexOfChar_4cfef 28 = .ok (.goto (-21), 3) := by decide +kernel
theorem dI_J1_indexOfChar_4cfef_31 : decode cJ1_indexOfChar_4cfef 31 = .ok (.iconst (-1), 1) := by decide +kernel
theorem dI_J1_indexOfChar_4cfef_32 : decode cJ1_indexOfChar_4cfef 32 = .ok (.ireturn, 1) := by decide +kernel
theorem wI_c_J0_indexOf_0f7a4 : Cond.code yJ0_indexOf_0f7a4 cJ0_indexOf_0f7a4 2 (some .int) ∈ gW := List.mem_filter.mpr ⟨List.mem_of_getElem? (i := 465) (by decide +kernel), by decide +kernel⟩
theorem wI_i_J0_indexOf_0f7a4 : Cond.instanceMethod yJ0_indexOf_0f7a4 ∈ gW := List.mem_filter.mpr ⟨List.mem_of_getElem? (i := 463) (by decide +kernel), by decide +kernel⟩
theorem wI_v_J0_indexOf_0f7a4 : Cond.selects "java/lang/String" yJ0_indexOf_0f7a4 yJ0_indexOf_0f7a4 ∈ gW := List.mem_filter.mpr ⟨List.mem_of_getElem? (i := 464) (by decide +kernel), by decide +kernel⟩
theorem wI_c_J0_indexOf_7cf53 : Cond.code yJ0_indexOf_7cf53 cJ0_indexOf_7cf53 3 (some .int) ∈ gW := List.mem_filter.mpr ⟨List.mem_of_getElem? (i := 469) (by decide +kernel), by decide +kernel⟩
theorem wI_i_J0_indexOf_7cf53 : Cond.instanceMethod yJ0_indexOf_7cf53 ∈ gW := List.mem_filter.mpr ⟨List.mem_of_getElem? (i := 467) (by decide +kernel), by decide +kernel⟩
theorem wI_v_J0_indexOf_7cf53 : Cond.selects "java/lang/String" yJ0_indexOf_7cf53 yJ0_indexOf_7cf53 ∈ gW := List.mem_filter.mpr ⟨List.mem_of_getElem? (i := 468) (by decide +kernel), by decide +kernel⟩
theorem wI_c_J0_isLatin1_aae02 : Cond.code yJ0_isLatin1_aae02 cJ0_isLatin1_aae02 1 (some .boolean) ∈ gW := List.mem_filter.mpr ⟨List.mem_of_getElem? (i := 473) (by decide +kernel), by decide +kernel⟩
theorem wI_i_J0_isLatin1_aae02 : Cond.instanceMethod yJ0_isLatin1_aae02 ∈ gW := List.mem_filter.mpr ⟨List.mem_of_getElem? (i := 471) (by decide +kernel), by decide +kernel⟩
theorem wI_v_J0_isLatin1_aae02 : Cond.selects "java/lang/String" yJ0_isLatin1_aae02 yJ0_isLatin1_aae02 ∈ gW := List.mem_filter.mpr ⟨List.mem_of_getElem? (i := 472) (by decide +kernel), by decide +kernel⟩
theorem wI_c_J0_length_8abf5 : Cond.code yJ0_length_8abf5 cJ0_length_8abf5 1 (some .int) ∈ gW := List.mem_filter.mpr ⟨List.mem_of_getElem? (i := 479) (by decide +kernel), by decide +kernel⟩
theorem wI_i_J0_length_8abf5 : Cond.instanceMethod yJ0_length_8abf5 ∈ gW := List.mem_filter.mpr ⟨List.mem_of_getElem? (i := 477) (by decide +kernel), by decide +kernel⟩
theorem wI_v_J0_length_8abf5 : Cond.selects "java/lang/String" yJ0_length_8abf5 yJ0_length_8abf5 ∈ gW := List.mem_filter.mpr ⟨List.mem_of_getElem? (i := 478) (by decide +kernel), by decide +kernel⟩
theorem wI_c_J0_coder_7d493 : Cond.code yJ0_coder_7d493 cJ0_coder_7d493 1 (some .byte) ∈ gW := List.mem_filter.mpr ⟨List.mem_of_getElem? (i := 483) (by decide +kernel), by decide +kernel⟩
theorem wI_i_J0_coder_7d493 : Cond.instanceMethod yJ0_coder_7d493 ∈ gW := List.mem_filter.mpr ⟨List.mem_of_getElem? (i := 481) (by decide +kernel), by decide +kernel⟩
theorem wI_v_J0_coder_7d493 : Cond.selects "java/lang/String" yJ0_coder_7d493 yJ0_coder_7d493 ∈ gW := List.mem_filter.mpr ⟨List.mem_of_getElem? (i := 482) (by decide +kernel), by decide +kernel⟩
theorem wI_c_J1_canEncode_9a6ad : Cond.code yJ1_canEncode_9a6ad cJ1_canEncode_9a6ad 1 (some .boolean) ∈ gW := List.mem_filter.mpr ⟨List.mem_of_getElem? (i := 489) (by decide +kernel), by decide +kernel⟩
theorem wI_s_J1_canEncode_9a6ad : Cond.static yJ1_canEncode_9a6ad ∈ gW := List.mem_filter.mpr ⟨List.mem_of_getElem? (i := 488) (by decide +kernel), by decide +kernel⟩
theorem wI_c_J1_indexOf_4cfef : Cond.code yJ1_indexOf_4cfef cJ1_indexOf_4cfef 4 (some .int) ∈ gW := List.mem_filter.mpr ⟨List.mem_of_getElem? (i := 486) (by decide +kernel), by decide +kernel⟩
theorem wI_s_J1_indexOf_4cfef : Cond.static yJ1_indexOf_4cfef ∈ gW := List.mem_filter.mpr ⟨List.mem_of_getElem? (i := 485) (by decide +kernel), by decide +kernel⟩
theorem wI_c_J1_indexOfChar_4cfef : Cond.code yJ1_indexOfChar_4cfef cJ1_indexOfChar_4cfef 6 (some .int) ∈ gW := List.mem_filter.mpr ⟨List.mem_of_getElem? (i := 494) (by decide +kernel), by decide +kernel⟩
theorem wI_s_J1_indexOfChar_4cfef : Cond.static yJ1_indexOfChar_4cfef ∈ gW := List.mem_filter.mpr ⟨List.mem_of_getElem? (i := 493) (by decide +kernel), by decide +kernel⟩
theorem wI_m_J0_633 : Cond.methodLink RJ0 633 yJ0_indexOf_7cf53 ∈ gW := List.mem_filter.mpr ⟨List.mem_of_getElem? (i := 466) (by decide +kernel), by decide +kernel⟩
theorem wI_m_J0_492 : Cond.methodLink RJ0 492 yJ0_isLatin1_aae02 ∈ gW := List.mem_filter.mpr ⟨List.mem_of_getElem? (i := 470) (by decide +kernel), by decide +kernel⟩
theorem wI_m_J0_505 : Cond.methodLink RJ0 505 yJ0_length_8abf5 ∈ gW := List.mem_filter.mpr ⟨List.mem_of_getElem? (i := 476) (by decide +kernel), by decide +kernel⟩
theorem wI_m_J0_335 : Cond.methodLink RJ0 335 yJ0_coder_7d493 ∈ gW := List.mem_filter.mpr ⟨List.mem_of_getElem? (i := 480) (by decide +kernel), by decide +kernel⟩
theorem wI_m_J0_637 : Cond.methodLink RJ0 637 yJ1_indexOf_4cfef ∈ gW := List.mem_filter.mpr ⟨List.mem_of_getElem? (i := 484) (by decide +kernel), by decide +kernel⟩
theorem wI_m_J1_88 : Cond.methodLink RJ1 88 yJ1_canEncode_9a6ad ∈ gW := List.mem_filter.mpr ⟨List.mem_of_getElem? (i := 487) (by decide +kernel), by decide +kernel⟩
theorem wI_m_J1_95 : Cond.methodLink RJ1 95 yJ1_indexOfChar_4cfef ∈ gW := List.mem_filter.mpr ⟨List.mem_of_getElem? (i := 492) (by decide +kernel), by decide +kernel⟩
theorem wI_m_J1_92 : Cond.methodLink RJ1 92 Lib.Math.max.name ∈ gW := List.mem_filter.mpr ⟨List.mem_of_getElem? (i := 490) (by decide +kernel), by decide +kernel⟩
theorem wI_m_J1_38 : Cond.methodLink RJ1 38 Lib.Math.min.name ∈ gW := List.mem_filter.mpr ⟨List.mem_of_getElem? (i := 491) (by decide +kernel), by decide +kernel⟩
theorem wI_s_max : Cond.static Lib.Math.max.name ∈ gW := List.mem_filter.mpr ⟨List.mem_of_getElem? (i := 117) (by decide +kernel), by decide +kernel⟩
theorem wI_c_max : Cond.code Lib.Math.max.name Lib.Math.max.code 2 (some .int) ∈ gW := List.mem_filter.mpr ⟨List.mem_of_getElem? (i := 118) (by decide +kernel), by decide +kernel⟩
theorem wI_s_min : Cond.static Lib.Math.min.name ∈ gW := List.mem_filter.mpr ⟨List.mem_of_getElem? (i := 114) (by decide +kernel), by decide +kernel⟩
theorem wI_c_min : Cond.code Lib.Math.min.name Lib.Math.min.code 2 (some .int) ∈ gW := List.mem_filter.mpr ⟨List.mem_of_getElem? (i := 115) (by decide +kernel), by decide +kernel⟩
theorem wI_n_String : Cond.initialized "java/lang/String" ∈ gW := List.mem_filter.mpr ⟨List.mem_of_getElem? (i := 90) (by decide +kernel), by decide +kernel⟩
theorem wI_n_StringLatin1 : Cond.initialized "java/lang/StringLatin1" ∈ gW := List.mem_filter.mpr ⟨List.mem_of_getElem? (i := 91) (by decide +kernel), by decide +kernel⟩
theorem wI_n_Math : Cond.initialized "java/lang/Math" ∈ gW := List.mem_filter.mpr ⟨List.mem_of_getElem? (i := 81) (by decide +kernel), by decide +kernel⟩
theorem wI_f_38 : Cond.fieldLink RJ0 38 "java/lang/String" "COMPACT_STRINGS" "Z" ∈ gW := List.mem_filter.mpr ⟨List.mem_of_getElem? (i := 474) (by decide +kernel), by decide +kernel⟩
theorem wI_f_15 : Cond.fieldLink RJ0 15 "java/lang/String" "coder" "B" ∈ gW := List.mem_filter.mpr ⟨List.mem_of_getElem? (i := 1849) (by decide +kernel), by decide +kernel⟩
theorem wI_f_9 : Cond.fieldLink RJ0 9 "java/lang/String" "value" "[B" ∈ gW := List.mem_filter.mpr ⟨List.mem_of_getElem? (i := 1850) (by decide +kernel), by decide +kernel⟩
abbrev LB : List Int32 := [97, 116, 100, 104, 122]
def pT (A : Nat → Prop) (av : Nat) (U : State) : Prop := va_T .byte av 5 (fun j => .int (LB.getD j 0)) A U U.heap
def pS (A : Nat → Prop) (a av : Nat) (U : State) : Prop := vk_S 1 [5] [LB] (fun _ => a) (fun _ => av) A U U.heap ∧ va_Z "java/lang/String" "COMPACT_STRINGS" "Z" (.int 1) A U U.heap
theorem pS.T {A : Nat → Prop} {a av : Nat} {U : State} (h : pS A a av U) : pT A av U := (h.1.1 0 (by omega)).2.2.2
def qI (r : Int32) : Array Value → State → Outcome → State → Prop := fun _ st o t => o = .returned (some (.int r)) ∧ t.heap = st.heap
theorem pT.at {A : Nat → Prop} {av : Nat} {s U : State} (h : pT A av s) (hU : U.heap = s.heap) (hW : s.WarmedH U.vm) : pT A av U := by
  unfold pT; rw [hU]; exact va_T.moved hW.alike h
theorem pS.at {A : Nat → Prop} {a av : Nat} {s U : State} (h : pS A a av s) (hU : U.heap = s.heap) (hW : s.WarmedH U.vm) : pS A a av U := by
  unfold pS; rw [hU]; exact ⟨vk_S.moved hW.alike h.1, va_Z.moved hW.alike h.2⟩
theorem pT_blind {A : Nat → Prop} {av : Nat} {as : List Value} : FrameBlind (va_Pc as (fun U => pT A av U)) := fun a U g mk q => ⟨q.1, q.2.at rfl (State.WarmedH.refl U)⟩
theorem pS_blind {A : Nat → Prop} {a av : Nat} {as : List Value} : FrameBlind (va_Pc as (fun U => pS A a av U)) := fun _ U g mk q => ⟨q.1, q.2.at rfl (State.WarmedH.refl U)⟩
theorem pN_blind {as : List Value} : FrameBlind (va_Pc as (fun _ => True)) := fun _ U g mk q => q
theorem y_run {p : Program} {l : Launch} {e : Env} {R : Room} {s : State} {m : MethodId} {args : Array Value} {below : List Frame} {meth : Method} {c : Code} {Q : State → Prop} {H : Heap} {locs : List Loc} {cells slots pc : Nat} {ls : Array Slot} {st0 rest : List Value} {r : Int32} {a : Array Value} (hr : va_Run p l e R s m args below meth c H locs cells slots 0 0 (F0 m pc ls st0) rest (qI r a) (fun _ => False)) (kk : W p l e R s m args below meth c H locs cells slots Q (F0 m (pc + 3) ls (.int r :: rest))) : W p l e R s m args below meth c H locs cells slots Q (F0 m pc ls st0) := by
  intro T hT X
  obtain ⟨v, st₀, t, T2, L, h0, X2, hL, e1, e2, ⟨hv, hp⟩, st⟩ := hr T hT X
  cases hv
  have hLn : L = [] := List.eq_nil_iff_forall_not_mem.mpr (fun q hq => hL q hq)
  subst hLn
  rw [List.append_nil] at X2
  obtain ⟨t2, a1, b1⟩ := kk T2 (by rw [e1, hp, h0]) X2
  exact ⟨t2, st t2 a1, b1⟩
def chr (v : Int32) : Int32 := if 97 = v then 0 else if 116 = v then 1 else if 100 = v then 2 else if 104 = v then 3 else if 122 = v then 4 else -1
theorem chr_ixo : ∀ n : Nat, n < 256 → chr ((nI n).toInt8.toInt32) = ixo (nI n) := by decide +kernel
theorem ixo_out {c : Int32} (h : c < 0 ∨ 255 < c) : ixo c = -1 := by
  unfold ixo
  have hn : ∀ k : Int32, (0 ≤ k ∧ k ≤ 255) → c ≠ k := by
    intro k hk he
    subst he
    rcases h with h | h
    · exact absurd hk.1 (by simpa using h)
    · exact absurd hk.2 (by simpa using h)
  rw [if_neg (hn 97 (by decide)), if_neg (hn 116 (by decide)), if_neg (hn 100 (by decide)), if_neg (hn 104 (by decide)), if_neg (hn 122 (by decide))]

set_option maxHeartbeats 1000000 in
theorem mI_coder (l : Launch) {A : Nat → Prop} {free : Addr → Prop} {a av : Nat} : Met l yJ0_coder_7d493 (Cond.code yJ0_coder_7d493 cJ0_coder_7d493 1 (some .byte) :: gW) (rmD 1 0 0) (va_Pc [.ref a] (fun U => pS A a av U)) (qI 0) 0 0 free := by
  refine va_MetF (cc := cJ0_coder_7d493) (maxL := 1) (ret := (some .byte)) (by decide) rfl ?_
  intro p e s m args below meth c s₁ BB hml hv
  obtain ⟨rfl, hP⟩ := hv
  have hx := BB.exec
  have hb := BB.bytes
  have hr := BB.returns
  have hts : ∀ w ∈ gW, w.before _ s = true := fun w hw => atoms_spec (ws := Cond.code yJ0_coder_7d493 cJ0_coder_7d493 1 (some .byte) :: gW) BB.pre w (List.mem_cons_of_mem _ hw)
  have hown : s.vm.findClass "java/lang/String" = some m.cls := findClass_of_methodNamed BB.named
  have hlocks := BB.notSynchronized
  have hS : va_S A s.heap s.heap [] := va_S.rf
  have hl := lv_entry [.ref a] (n := 1) (Nat.le_of_ble_eq_true rfl)
  rw [lg_entry_eq]
  generalize (lg_sl [.ref a] ++ List.replicate (1 - (lg_sl [.ref a]).length) Slot.unset).toArray = ls at hl ⊢
  have hl : lv_has ls 1 [(0, .ref a)] := hl
  refine va_gets hx hb hP.2 hS hown (hts _ wI_f_38) (fun _ h => h) dI_J0_coder_7d493_0 ?_
  refine lv_if_eq hx hb dI_J0_coder_7d493_3 (tgt := 13) rfl (fun h => absurd h (by decide)) (fun _ => ?_)
  refine lv_aload_n hx hb dI_J0_coder_7d493_6 rfl (lv_at hl 0 rfl) ?_
  refine vk_getf hx hb (hP.1.1 0 (by omega)).2.1 hS hown (hts _ wI_f_15) (fun _ h => h) dI_J0_coder_7d493_7 ?_
  refine lv_goto hx hb dI_J0_coder_7d493_10 (tgt := 14) rfl ?_
  exact W.zret hx hb hr rfl (fun t ht _ => ⟨rfl, ht⟩) (fun q hq => absurd hq List.not_mem_nil) dI_J0_coder_7d493_14
set_option maxHeartbeats 1000000 in
theorem mI_isLatin1 (l : Launch) {A : Nat → Prop} {free : Addr → Prop} {a av : Nat} : Met l yJ0_isLatin1_aae02 (Cond.code yJ0_isLatin1_aae02 cJ0_isLatin1_aae02 1 (some .boolean) :: gW) (rmD 1 0 0) (va_Pc [.ref a] (fun U => pS A a av U)) (qI 1) 0 0 free := by
  refine va_MetF (cc := cJ0_isLatin1_aae02) (maxL := 1) (ret := (some .boolean)) (by decide) rfl ?_
  intro p e s m args below meth c s₁ BB hml hv
  obtain ⟨rfl, hP⟩ := hv
  have hx := BB.exec
  have hb := BB.bytes
  have hr := BB.returns
  have hts : ∀ w ∈ gW, w.before _ s = true := fun w hw => atoms_spec (ws := Cond.code yJ0_isLatin1_aae02 cJ0_isLatin1_aae02 1 (some .boolean) :: gW) BB.pre w (List.mem_cons_of_mem _ hw)
  have hown : s.vm.findClass "java/lang/String" = some m.cls := findClass_of_methodNamed BB.named
  have hlocks := BB.notSynchronized
  have hS : va_S A s.heap s.heap [] := va_S.rf
  have hl := lv_entry [.ref a] (n := 1) (Nat.le_of_ble_eq_true rfl)
  rw [lg_entry_eq]
  generalize (lg_sl [.ref a] ++ List.replicate (1 - (lg_sl [.ref a]).length) Slot.unset).toArray = ls at hl ⊢
  have hl : lv_has ls 1 [(0, .ref a)] := hl
  refine va_gets hx hb hP.2 hS hown (hts _ wI_f_38) (fun _ h => h) dI_J0_isLatin1_aae02_0 ?_
  refine lv_if_eq hx hb dI_J0_isLatin1_aae02_3 (tgt := 17) rfl (fun h => absurd h (by decide)) (fun _ => ?_)
  refine lv_aload_n hx hb dI_J0_isLatin1_aae02_6 rfl (lv_at hl 0 rfl) ?_
  refine vk_getf hx hb (hP.1.1 0 (by omega)).2.1 hS hown (hts _ wI_f_15) (fun _ h => h) dI_J0_isLatin1_aae02_7 ?_
  refine lv_if_ne hx hb dI_J0_isLatin1_aae02_10 (tgt := 17) rfl (fun h => absurd rfl h) (fun _ => ?_)
  refine lv_iconst hx hb dI_J0_isLatin1_aae02_13 (v := 1) rfl ?_
  refine lv_goto hx hb dI_J0_isLatin1_aae02_14 (tgt := 18) rfl ?_
  exact W.zret hx hb hr rfl (fun t ht _ => ⟨rfl, ht⟩) (fun q hq => absurd hq List.not_mem_nil) dI_J0_isLatin1_aae02_18
set_option maxHeartbeats 1000000 in
theorem mI_length (l : Launch) {A : Nat → Prop} {free : Addr → Prop} {a av : Nat} : Met l yJ0_length_8abf5 (Cond.code yJ0_length_8abf5 cJ0_length_8abf5 1 (some .int) :: gW) (rmD 2 0 0) (va_Pc [.ref a] (fun U => pS A a av U)) (qI 5) 0 0 free := by
  refine va_MetF (cc := cJ0_length_8abf5) (maxL := 1) (ret := (some .int)) (by decide) rfl ?_
  intro p e s m args below meth c s₁ BB hml hv
  obtain ⟨rfl, hP⟩ := hv
  have hx := BB.exec
  have hb := BB.bytes
  have hr := BB.returns
  have hts : ∀ w ∈ gW, w.before _ s = true := fun w hw => atoms_spec (ws := Cond.code yJ0_length_8abf5 cJ0_length_8abf5 1 (some .int) :: gW) BB.pre w (List.mem_cons_of_mem _ hw)
  have hown : s.vm.findClass "java/lang/String" = some m.cls := findClass_of_methodNamed BB.named
  have hlocks := BB.notSynchronized
  have hS : va_S A s.heap s.heap [] := va_S.rf
  have hl := lv_entry [.ref a] (n := 1) (Nat.le_of_ble_eq_true rfl)
  rw [lg_entry_eq]
  generalize (lg_sl [.ref a] ++ List.replicate (1 - (lg_sl [.ref a]).length) Slot.unset).toArray = ls at hl ⊢
  have hl : lv_has ls 1 [(0, .ref a)] := hl
  refine lv_aload_n hx hb dI_J0_length_8abf5_0 rfl (lv_at hl 0 rfl) ?_
  refine vk_getf hx hb (hP.1.1 0 (by omega)).2.2.1 hS hown (hts _ wI_f_9) (fun _ h => h) dI_J0_length_8abf5_1 ?_
  refine va_tlen hx hb hP.T hS (v := 5) rfl dI_J0_length_8abf5_4 ?_
  refine lv_aload_n hx hb dI_J0_length_8abf5_5 rfl (lv_at hl 0 rfl) ?_
  refine y_run (va_runV (As := []) (rest := [.int 5]) ⟨hx, hb, hml, hown, hts⟩ (mI_coder l (A := A) (a := a) (av := av)) ⟨callB_of 0 hts (gW_in wI_c_J0_coder_7d493) rfl rfl rfl (hts _ wI_n_String) (hts _ wI_m_J0_335) (by decide +kernel) ⟨by decide, by decide⟩, hts _ wI_i_J0_coder_7d493, hts _ wI_v_J0_coder_7d493⟩ ⟨pS_blind, vk_recv hP.1 (i := 0) (by omega) hS, fun U hU hWm => ⟨rfl, hP.at hU hWm⟩⟩ rfl rfl hl.1 rfl (lv_room (Nat.le_of_ble_eq_true rfl)) dI_J0_length_8abf5_6 ⟨by decide, by decide⟩) ?_
  refine lv_ishr hx hb dI_J0_length_8abf5_9 ?_
  exact W.iret hx hb hr (fun t ht _ => ⟨rfl, ht⟩) (fun q hq => absurd hq List.not_mem_nil) dI_J0_length_8abf5_10
set_option maxHeartbeats 1000000 in
theorem mI_can (l : Launch) {A : Nat → Prop} {free : Addr → Prop} {x : Int32} : Met l yJ1_canEncode_9a6ad (Cond.code yJ1_canEncode_9a6ad cJ1_canEncode_9a6ad 1 (some .boolean) :: gW) (rmD 1 0 0) (va_Pc [.int x] (fun U => True)) (qI (if x < 0 then 0 else if 255 < x then 0 else 1)) 0 0 free := by
  refine va_MetF (cc := cJ1_canEncode_9a6ad) (maxL := 1) (ret := (some .boolean)) (by decide) rfl ?_
  intro p e s m args below meth c s₁ BB hml hv
  obtain ⟨rfl, hP⟩ := hv
  have hx := BB.exec
  have hb := BB.bytes
  have hr := BB.returns
  have hts : ∀ w ∈ gW, w.before _ s = true := fun w hw => atoms_spec (ws := Cond.code yJ1_canEncode_9a6ad cJ1_canEncode_9a6ad 1 (some .boolean) :: gW) BB.pre w (List.mem_cons_of_mem _ hw)
  have hown : s.vm.findClass "java/lang/StringLatin1" = some m.cls := findClass_of_methodNamed BB.named
  have hlocks := BB.notSynchronized
  have hS : va_S A s.heap s.heap [] := va_S.rf
  have hl := lv_entry [.int x] (n := 1) (Nat.le_of_ble_eq_true rfl)
  rw [lg_entry_eq]
  generalize (lg_sl [.int x] ++ List.replicate (1 - (lg_sl [.int x]).length) Slot.unset).toArray = ls at hl ⊢
  have hl : lv_has ls 1 [(0, .int x)] := hl
  refine lv_iload_n hx hb dI_J1_canEncode_9a6ad_0 rfl (lv_at hl 0 rfl) ?_
  refine lv_if_lt hx hb dI_J1_canEncode_9a6ad_1 (tgt := 15) rfl (fun h => ?_) (fun h => ?_)
  · rw [if_pos h]
    refine lv_iconst hx hb dI_J1_canEncode_9a6ad_15 (v := 0) rfl ?_
    exact W.zret hx hb hr rfl (fun t ht _ => ⟨rfl, ht⟩) (fun q hq => absurd hq List.not_mem_nil) dI_J1_canEncode_9a6ad_16
  · rw [if_neg h]
    refine lv_iload_n hx hb dI_J1_canEncode_9a6ad_4 rfl (lv_at hl 0 rfl) ?_
    refine lv_sipush hx hb dI_J1_canEncode_9a6ad_5 (v := 255) rfl ?_
    refine lv_icmp_gt hx hb dI_J1_canEncode_9a6ad_8 (tgt := 15) rfl (fun h => ?_) (fun h => ?_)
    · rw [if_pos h]
      refine lv_iconst hx hb dI_J1_canEncode_9a6ad_15 (v := 0) rfl ?_
      exact W.zret hx hb hr rfl (fun t ht _ => ⟨rfl, ht⟩) (fun q hq => absurd hq List.not_mem_nil) dI_J1_canEncode_9a6ad_16
    · rw [if_neg h]
      refine lv_iconst hx hb dI_J1_canEncode_9a6ad_11 (v := 1) rfl ?_
      refine lv_goto hx hb dI_J1_canEncode_9a6ad_12 (tgt := 16) rfl ?_
      exact W.zret hx hb hr rfl (fun t ht _ => ⟨rfl, ht⟩) (fun q hq => absurd hq List.not_mem_nil) dI_J1_canEncode_9a6ad_16
set_option maxHeartbeats 1000000 in
theorem mI_char (l : Launch) {A : Nat → Prop} {free : Addr → Prop} {av : Nat} {x : Int32} : Met l yJ1_indexOfChar_4cfef (Cond.code yJ1_indexOfChar_4cfef cJ1_indexOfChar_4cfef 6 (some .int) :: gW) (rmD 1 0 0) (va_Pc [.ref av, .int x, .int 0, .int 5] (fun U => pT A av U)) (qI (chr x.toInt8.toInt32)) 0 0 free := by
  refine va_MetF (cc := cJ1_indexOfChar_4cfef) (maxL := 6) (ret := (some .int)) (by decide) rfl ?_
  intro p e s m args below meth c s₁ BB hml hv
  obtain ⟨rfl, hP⟩ := hv
  have hx := BB.exec
  have hb := BB.bytes
  have hr := BB.returns
  have hts : ∀ w ∈ gW, w.before _ s = true := fun w hw => atoms_spec (ws := Cond.code yJ1_indexOfChar_4cfef cJ1_indexOfChar_4cfef 6 (some .int) :: gW) BB.pre w (List.mem_cons_of_mem _ hw)
  have hown : s.vm.findClass "java/lang/StringLatin1" = some m.cls := findClass_of_methodNamed BB.named
  have hlocks := BB.notSynchronized
  have hS : va_S A s.heap s.heap [] := va_S.rf
  have hl := lv_entry [.ref av, .int x, .int 0, .int 5] (n := 6) (Nat.le_of_ble_eq_true rfl)
  rw [lg_entry_eq]
  generalize (lg_sl [.ref av, .int x, .int 0, .int 5] ++ List.replicate (6 - (lg_sl [.ref av, .int x, .int 0, .int 5]).length) Slot.unset).toArray = ls at hl ⊢
  have hl : lv_has ls 6 [(0, .ref av), (1, .int x), (2, .int 0), (3, .int 5)] := hl
  refine lv_iload_n hx hb dI_J1_indexOfChar_4cfef_0 rfl (lv_at hl 1 rfl) ?_
  refine lv_i2b hx hb dI_J1_indexOfChar_4cfef_1 (v := x.toInt8.toInt32) rfl ?_
  generalize x.toInt8.toInt32 = v
  refine lv_istore hx hb dI_J1_indexOfChar_4cfef_2 hl (by omega) rfl (fun ls hl => ?_)
  refine lv_iload_n hx hb dI_J1_indexOfChar_4cfef_4 rfl (lv_at hl 3 rfl) ?_
  refine lv_istore hx hb dI_J1_indexOfChar_4cfef_5 hl (by omega) rfl (fun ls hl => ?_)
  have hl : lv_has ls 6 [(5, .int 0), (4, .int v), (0, .ref av), (1, .int x), (2, .int 0), (3, .int 5)] := hl
  refine lv_iload hx hb dI_J1_indexOfChar_4cfef_7 (lv_at hl 0 rfl) ?_
  refine lv_iload_n hx hb dI_J1_indexOfChar_4cfef_9 rfl (lv_at hl 5 rfl) ?_
  refine lv_icmp_ge hx hb dI_J1_indexOfChar_4cfef_10 (tgt := 31) rfl (fun h => absurd h (by decide)) (fun _ => ?_)
  refine lv_aload_n hx hb dI_J1_indexOfChar_4cfef_13 rfl (lv_at hl 2 rfl) ?_
  refine lv_iload hx hb dI_J1_indexOfChar_4cfef_14 (lv_at hl 0 rfl) ?_
  refine va_tb hx hb hP hS (i := 0) (by unfold vp_in; decide) (v := .int 97) rfl dI_J1_indexOfChar_4cfef_16 ?_
  refine lv_iload hx hb dI_J1_indexOfChar_4cfef_17 (lv_at hl 1 rfl) ?_
  refine lv_icmp_ne hx hb dI_J1_indexOfChar_4cfef_19 (tgt := 25) rfl (fun h0 => ?_) (fun h => ?_)
  rotate_left
  · have hc : chr v = 0 := by unfold chr; simp only [if_pos h]
    rw [hc]
    refine lv_iload hx hb dI_J1_indexOfChar_4cfef_22 (lv_at hl 0 rfl) ?_
    exact W.iret hx hb hr (fun t ht _ => ⟨rfl, ht⟩) (fun q hq => absurd hq List.not_mem_nil) dI_J1_indexOfChar_4cfef_24
  refine lv_iinc hx hb dI_J1_indexOfChar_4cfef_25 hl (k := 0) rfl (v := 1) (by decide) (by omega) rfl (fun ls hl => ?_)
  refine lv_goto hx hb dI_J1_indexOfChar_4cfef_28 (tgt := 7) rfl ?_
  have hl : lv_has ls 6 [(5, .int 1), (4, .int v), (0, .ref av), (1, .int x), (2, .int 0), (3, .int 5)] := hl
  refine lv_iload hx hb dI_J1_indexOfChar_4cfef_7 (lv_at hl 0 rfl) ?_
  refine lv_iload_n hx hb dI_J1_indexOfChar_4cfef_9 rfl (lv_at hl 5 rfl) ?_
  refine lv_icmp_ge hx hb dI_J1_indexOfChar_4cfef_10 (tgt := 31) rfl (fun h => absurd h (by decide)) (fun _ => ?_)
  refine lv_aload_n hx hb dI_J1_indexOfChar_4cfef_13 rfl (lv_at hl 2 rfl) ?_
  refine lv_iload hx hb dI_J1_indexOfChar_4cfef_14 (lv_at hl 0 rfl) ?_
  refine va_tb hx hb hP hS (i := 1) (by unfold vp_in; decide) (v := .int 116) rfl dI_J1_indexOfChar_4cfef_16 ?_
  refine lv_iload hx hb dI_J1_indexOfChar_4cfef_17 (lv_at hl 1 rfl) ?_
  refine lv_icmp_ne hx hb dI_J1_indexOfChar_4cfef_19 (tgt := 25) rfl (fun h1 => ?_) (fun h => ?_)
  rotate_left
  · have hc : chr v = 1 := by unfold chr; simp only [if_neg h0, if_pos h]
    rw [hc]
    refine lv_iload hx hb dI_J1_indexOfChar_4cfef_22 (lv_at hl 0 rfl) ?_
    exact W.iret hx hb hr (fun t ht _ => ⟨rfl, ht⟩) (fun q hq => absurd hq List.not_mem_nil) dI_J1_indexOfChar_4cfef_24
  refine lv_iinc hx hb dI_J1_indexOfChar_4cfef_25 hl (k := 0) rfl (v := 2) (by decide) (by omega) rfl (fun ls hl => ?_)
  refine lv_goto hx hb dI_J1_indexOfChar_4cfef_28 (tgt := 7) rfl ?_
  have hl : lv_has ls 6 [(5, .int 2), (4, .int v), (0, .ref av), (1, .int x), (2, .int 0), (3, .int 5)] := hl
  refine lv_iload hx hb dI_J1_indexOfChar_4cfef_7 (lv_at hl 0 rfl) ?_
  refine lv_iload_n hx hb dI_J1_indexOfChar_4cfef_9 rfl (lv_at hl 5 rfl) ?_
  refine lv_icmp_ge hx hb dI_J1_indexOfChar_4cfef_10 (tgt := 31) rfl (fun h => absurd h (by decide)) (fun _ => ?_)
  refine lv_aload_n hx hb dI_J1_indexOfChar_4cfef_13 rfl (lv_at hl 2 rfl) ?_
  refine lv_iload hx hb dI_J1_indexOfChar_4cfef_14 (lv_at hl 0 rfl) ?_
  refine va_tb hx hb hP hS (i := 2) (by unfold vp_in; decide) (v := .int 100) rfl dI_J1_indexOfChar_4cfef_16 ?_
  refine lv_iload hx hb dI_J1_indexOfChar_4cfef_17 (lv_at hl 1 rfl) ?_
  refine lv_icmp_ne hx hb dI_J1_indexOfChar_4cfef_19 (tgt := 25) rfl (fun h2 => ?_) (fun h => ?_)
  rotate_left
  · have hc : chr v = 2 := by unfold chr; simp only [if_neg h0, if_neg h1, if_pos h]
    rw [hc]
    refine lv_iload hx hb dI_J1_indexOfChar_4cfef_22 (lv_at hl 0 rfl) ?_
    exact W.iret hx hb hr (fun t ht _ => ⟨rfl, ht⟩) (fun q hq => absurd hq List.not_mem_nil) dI_J1_indexOfChar_4cfef_24
  refine lv_iinc hx hb dI_J1_indexOfChar_4cfef_25 hl (k := 0) rfl (v := 3) (by decide) (by omega) rfl (fun ls hl => ?_)
  refine lv_goto hx hb dI_J1_indexOfChar_4cfef_28 (tgt := 7) rfl ?_
  have hl : lv_has ls 6 [(5, .int 3), (4, .int v), (0, .ref av), (1, .int x), (2, .int 0), (3, .int 5)] := hl
  refine lv_iload hx hb dI_J1_indexOfChar_4cfef_7 (lv_at hl 0 rfl) ?_
  refine lv_iload_n hx hb dI_J1_indexOfChar_4cfef_9 rfl (lv_at hl 5 rfl) ?_
  refine lv_icmp_ge hx hb dI_J1_indexOfChar_4cfef_10 (tgt := 31) rfl (fun h => absurd h (by decide)) (fun _ => ?_)
  refine lv_aload_n hx hb dI_J1_indexOfChar_4cfef_13 rfl (lv_at hl 2 rfl) ?_
  refine lv_iload hx hb dI_J1_indexOfChar_4cfef_14 (lv_at hl 0 rfl) ?_
  refine va_tb hx hb hP hS (i := 3) (by unfold vp_in; decide) (v := .int 104) rfl dI_J1_indexOfChar_4cfef_16 ?_
  refine lv_iload hx hb dI_J1_indexOfChar_4cfef_17 (lv_at hl 1 rfl) ?_
  refine lv_icmp_ne hx hb dI_J1_indexOfChar_4cfef_19 (tgt := 25) rfl (fun h3 => ?_) (fun h => ?_)
  rotate_left
  · have hc : chr v = 3 := by unfold chr; simp only [if_neg h0, if_neg h1, if_neg h2, if_pos h]
    rw [hc]
    refine lv_iload hx hb dI_J1_indexOfChar_4cfef_22 (lv_at hl 0 rfl) ?_
    exact W.iret hx hb hr (fun t ht _ => ⟨rfl, ht⟩) (fun q hq => absurd hq List.not_mem_nil) dI_J1_indexOfChar_4cfef_24
  refine lv_iinc hx hb dI_J1_indexOfChar_4cfef_25 hl (k := 0) rfl (v := 4) (by decide) (by omega) rfl (fun ls hl => ?_)
  refine lv_goto hx hb dI_J1_indexOfChar_4cfef_28 (tgt := 7) rfl ?_
  have hl : lv_has ls 6 [(5, .int 4), (4, .int v), (0, .ref av), (1, .int x), (2, .int 0), (3, .int 5)] := hl
  refine lv_iload hx hb dI_J1_indexOfChar_4cfef_7 (lv_at hl 0 rfl) ?_
  refine lv_iload_n hx hb dI_J1_indexOfChar_4cfef_9 rfl (lv_at hl 5 rfl) ?_
  refine lv_icmp_ge hx hb dI_J1_indexOfChar_4cfef_10 (tgt := 31) rfl (fun h => absurd h (by decide)) (fun _ => ?_)
  refine lv_aload_n hx hb dI_J1_indexOfChar_4cfef_13 rfl (lv_at hl 2 rfl) ?_
  refine lv_iload hx hb dI_J1_indexOfChar_4cfef_14 (lv_at hl 0 rfl) ?_
  refine va_tb hx hb hP hS (i := 4) (by unfold vp_in; decide) (v := .int 122) rfl dI_J1_indexOfChar_4cfef_16 ?_
  refine lv_iload hx hb dI_J1_indexOfChar_4cfef_17 (lv_at hl 1 rfl) ?_
  refine lv_icmp_ne hx hb dI_J1_indexOfChar_4cfef_19 (tgt := 25) rfl (fun h4 => ?_) (fun h => ?_)
  rotate_left
  · have hc : chr v = 4 := by unfold chr; simp only [if_neg h0, if_neg h1, if_neg h2, if_neg h3, if_pos h]
    rw [hc]
    refine lv_iload hx hb dI_J1_indexOfChar_4cfef_22 (lv_at hl 0 rfl) ?_
    exact W.iret hx hb hr (fun t ht _ => ⟨rfl, ht⟩) (fun q hq => absurd hq List.not_mem_nil) dI_J1_indexOfChar_4cfef_24
  refine lv_iinc hx hb dI_J1_indexOfChar_4cfef_25 hl (k := 0) rfl (v := 5) (by decide) (by omega) rfl (fun ls hl => ?_)
  refine lv_goto hx hb dI_J1_indexOfChar_4cfef_28 (tgt := 7) rfl ?_
  have hl : lv_has ls 6 [(5, .int 5), (4, .int v), (0, .ref av), (1, .int x), (2, .int 0), (3, .int 5)] := hl
  refine lv_iload hx hb dI_J1_indexOfChar_4cfef_7 (lv_at hl 0 rfl) ?_
  refine lv_iload_n hx hb dI_J1_indexOfChar_4cfef_9 rfl (lv_at hl 5 rfl) ?_
  refine lv_icmp_ge hx hb dI_J1_indexOfChar_4cfef_10 (tgt := 31) rfl (fun _ => ?_) (fun h => absurd (by decide) h)
  have hc : chr v = -1 := by unfold chr; simp only [if_neg h0, if_neg h1, if_neg h2, if_neg h3, if_neg h4]
  rw [hc]
  refine lv_iconst hx hb dI_J1_indexOfChar_4cfef_31 (v := -1) rfl ?_
  exact W.iret hx hb hr (fun t ht _ => ⟨rfl, ht⟩) (fun q hq => absurd hq List.not_mem_nil) dI_J1_indexOfChar_4cfef_32
set_option maxHeartbeats 1000000 in
theorem mI_lat (l : Launch) {A : Nat → Prop} {free : Addr → Prop} {av : Nat} {x : Int32} : Met l yJ1_indexOf_4cfef (Cond.code yJ1_indexOf_4cfef cJ1_indexOf_4cfef 4 (some .int) :: gW) (rmD 3 0 0) (va_Pc [.ref av, .int x, .int 0, .int 5] (fun U => pT A av U)) (qI (ixo x)) 0 0 free := by
  refine va_MetF (cc := cJ1_indexOf_4cfef) (maxL := 4) (ret := (some .int)) (by decide) rfl ?_
  intro p e s m args below meth c s₁ BB hml hv
  obtain ⟨rfl, hP⟩ := hv
  have hx := BB.exec
  have hb := BB.bytes
  have hr := BB.returns
  have hts : ∀ w ∈ gW, w.before _ s = true := fun w hw => atoms_spec (ws := Cond.code yJ1_indexOf_4cfef cJ1_indexOf_4cfef 4 (some .int) :: gW) BB.pre w (List.mem_cons_of_mem _ hw)
  have hown : s.vm.findClass "java/lang/StringLatin1" = some m.cls := findClass_of_methodNamed BB.named
  have hlocks := BB.notSynchronized
  have hS : va_S A s.heap s.heap [] := va_S.rf
  have hl := lv_entry [.ref av, .int x, .int 0, .int 5] (n := 4) (Nat.le_of_ble_eq_true rfl)
  rw [lg_entry_eq]
  generalize (lg_sl [.ref av, .int x, .int 0, .int 5] ++ List.replicate (4 - (lg_sl [.ref av, .int x, .int 0, .int 5]).length) Slot.unset).toArray = ls at hl ⊢
  have hl : lv_has ls 4 [(0, .ref av), (1, .int x), (2, .int 0), (3, .int 5)] := hl
  refine lv_iload_n hx hb dI_J1_indexOf_4cfef_0 rfl (lv_at hl 1 rfl) ?_
  refine y_run (va_runS (As := [.int x]) (rest := []) ⟨hx, hb, hml, hown, hts⟩ (mI_can l (A := A) (x := x)) ⟨callB_of 1 hts (gW_in wI_c_J1_canEncode_9a6ad) rfl rfl rfl (hts _ wI_n_StringLatin1) (hts _ wI_m_J1_88) (by decide +kernel) ⟨by decide, by decide⟩, hts _ wI_s_J1_canEncode_9a6ad⟩ ⟨pN_blind, fun U hU hWm => ⟨rfl, trivial⟩⟩ rfl rfl hl.1 rfl (lv_room (Nat.le_of_ble_eq_true rfl)) dI_J1_indexOf_4cfef_1 ⟨by decide, by decide⟩) ?_
  refine lv_if_ne hx hb dI_J1_indexOf_4cfef_4 (tgt := 9) rfl (fun h => ?_) (fun h => ?_)
  rotate_left
  · have hc : ixo x = -1 := by
      apply ixo_out
      by_cases h1 : x < 0
      · exact Or.inl h1
      · rw [if_neg h1] at h
        by_cases h2 : 255 < x
        · exact Or.inr h2
        · rw [if_neg h2] at h; exact absurd h (by decide)
    rw [hc]
    refine lv_iconst hx hb dI_J1_indexOf_4cfef_7 (v := -1) rfl ?_
    exact W.iret hx hb hr (fun t ht _ => ⟨rfl, ht⟩) (fun q hq => absurd hq List.not_mem_nil) dI_J1_indexOf_4cfef_8
  have hc : chr x.toInt8.toInt32 = ixo x := by
    have h1 : ¬ x < 0 := fun q => by rw [if_pos q] at h; exact h rfl
    rw [if_neg h1] at h
    have h2 : ¬ 255 < x := fun q => by rw [if_pos q] at h; exact h rfl
    obtain ⟨n, hn, rfl⟩ := nI_of2 (M := 255) (n := 255) (by decide) h1 (by simpa using h2)
    exact chr_ixo n (by omega)
  refine lv_iload_n hx hb dI_J1_indexOf_4cfef_9 rfl (lv_at hl 2 rfl) ?_
  refine lv_iconst hx hb dI_J1_indexOf_4cfef_10 (v := 0) rfl ?_
  refine va_mmax hx hb (hml.trans hl.1.symm) hown (hts _ wI_m_J1_92) (hts _ wI_s_max) (hts _ wI_n_Math) (hts _ wI_c_max) (by decide) (by decide) (Nat.le_refl _) (Nat.le_refl _) dI_J1_indexOf_4cfef_11 ?_
  refine lv_istore_n hx hb dI_J1_indexOf_4cfef_14 rfl hl (by omega) rfl (fun ls hl => ?_)
  have hl : lv_has ls 4 [(2, .int 0), (0, .ref av), (1, .int x), (3, .int 5)] := hl
  refine lv_iload_n hx hb dI_J1_indexOf_4cfef_15 rfl (lv_at hl 3 rfl) ?_
  refine lv_aload_n hx hb dI_J1_indexOf_4cfef_16 rfl (lv_at hl 1 rfl) ?_
  refine va_tlen hx hb hP hS (v := 5) rfl dI_J1_indexOf_4cfef_17 ?_
  refine va_mmin hx hb (hml.trans hl.1.symm) hown (hts _ wI_m_J1_38) (hts _ wI_s_min) (hts _ wI_n_Math) (hts _ wI_c_min) (by decide) (by decide) (Nat.le_refl _) (Nat.le_refl _) dI_J1_indexOf_4cfef_18 ?_
  refine lv_istore_n hx hb dI_J1_indexOf_4cfef_21 rfl hl (by omega) rfl (fun ls hl => ?_)
  have hl : lv_has ls 4 [(3, .int 5), (2, .int 0), (0, .ref av), (1, .int x)] := hl
  refine lv_iload_n hx hb dI_J1_indexOf_4cfef_22 rfl (lv_at hl 1 rfl) ?_
  refine lv_iload_n hx hb dI_J1_indexOf_4cfef_23 rfl (lv_at hl 0 rfl) ?_
  refine lv_icmp_lt hx hb dI_J1_indexOf_4cfef_24 (tgt := 29) rfl (fun _ => ?_) (fun h => absurd (by decide) h)
  refine lv_aload_n hx hb dI_J1_indexOf_4cfef_29 rfl (lv_at hl 2 rfl) ?_
  refine lv_iload_n hx hb dI_J1_indexOf_4cfef_30 rfl (lv_at hl 3 rfl) ?_
  refine lv_iload_n hx hb dI_J1_indexOf_4cfef_31 rfl (lv_at hl 1 rfl) ?_
  refine lv_iload_n hx hb dI_J1_indexOf_4cfef_32 rfl (lv_at hl 0 rfl) ?_
  refine y_run (va_runS (As := [.ref av, .int x, .int 0, .int 5]) (rest := []) ⟨hx, hb, hml, hown, hts⟩ (mI_char l (A := A) (av := av) (x := x)) ⟨callB_of 4 hts (gW_in wI_c_J1_indexOfChar_4cfef) rfl rfl rfl (hts _ wI_n_StringLatin1) (hts _ wI_m_J1_95) (by decide +kernel) ⟨by decide, by decide⟩, hts _ wI_s_J1_indexOfChar_4cfef⟩ ⟨pT_blind, fun U hU hWm => ⟨rfl, hP.at hU hWm⟩⟩ rfl rfl hl.1 rfl (lv_room (Nat.le_of_ble_eq_true rfl)) dI_J1_indexOf_4cfef_33 ⟨by decide, by decide⟩) ?_
  rw [hc]
  exact W.iret hx hb hr (fun t ht _ => ⟨rfl, ht⟩) (fun q hq => absurd hq List.not_mem_nil) dI_J1_indexOf_4cfef_36
set_option maxHeartbeats 1000000 in
theorem mI_ix2 (l : Launch) {A : Nat → Prop} {free : Addr → Prop} {a av : Nat} {x : Int32} : Met l yJ0_indexOf_7cf53 (Cond.code yJ0_indexOf_7cf53 cJ0_indexOf_7cf53 3 (some .int) :: gW) (rmD 5 0 0) (va_Pc [.ref a, .int x, .int 0] (fun U => pS A a av U)) (qI (ixo x)) 0 0 free := by
  refine va_MetF (cc := cJ0_indexOf_7cf53) (maxL := 3) (ret := (some .int)) (by decide) rfl ?_
  intro p e s m args below meth c s₁ BB hml hv
  obtain ⟨rfl, hP⟩ := hv
  have hx := BB.exec
  have hb := BB.bytes
  have hr := BB.returns
  have hts : ∀ w ∈ gW, w.before _ s = true := fun w hw => atoms_spec (ws := Cond.code yJ0_indexOf_7cf53 cJ0_indexOf_7cf53 3 (some .int) :: gW) BB.pre w (List.mem_cons_of_mem _ hw)
  have hown : s.vm.findClass "java/lang/String" = some m.cls := findClass_of_methodNamed BB.named
  have hlocks := BB.notSynchronized
  have hS : va_S A s.heap s.heap [] := va_S.rf
  have hl := lv_entry [.ref a, .int x, .int 0] (n := 3) (Nat.le_of_ble_eq_true rfl)
  rw [lg_entry_eq]
  generalize (lg_sl [.ref a, .int x, .int 0] ++ List.replicate (3 - (lg_sl [.ref a, .int x, .int 0]).length) Slot.unset).toArray = ls at hl ⊢
  have hl : lv_has ls 3 [(0, .ref a), (1, .int x), (2, .int 0)] := hl
  refine lv_aload_n hx hb dI_J0_indexOf_7cf53_0 rfl (lv_at hl 0 rfl) ?_
  refine y_run (va_runV (As := []) (rest := []) ⟨hx, hb, hml, hown, hts⟩ (mI_isLatin1 l (A := A) (a := a) (av := av)) ⟨callB_of 0 hts (gW_in wI_c_J0_isLatin1_aae02) rfl rfl rfl (hts _ wI_n_String) (hts _ wI_m_J0_492) (by decide +kernel) ⟨by decide, by decide⟩, hts _ wI_i_J0_isLatin1_aae02, hts _ wI_v_J0_isLatin1_aae02⟩ ⟨pS_blind, vk_recv hP.1 (i := 0) (by omega) hS, fun U hU hWm => ⟨rfl, hP.at hU hWm⟩⟩ rfl rfl hl.1 rfl (lv_room (Nat.le_of_ble_eq_true rfl)) dI_J0_indexOf_7cf53_1 ⟨by decide, by decide⟩) ?_
  refine lv_if_eq hx hb dI_J0_indexOf_7cf53_4 (tgt := 23) rfl (fun h => absurd h (by decide)) (fun _ => ?_)
  refine lv_aload_n hx hb dI_J0_indexOf_7cf53_7 rfl (lv_at hl 0 rfl) ?_
  refine vk_getf hx hb (hP.1.1 0 (by omega)).2.2.1 hS hown (hts _ wI_f_9) (fun _ h => h) dI_J0_indexOf_7cf53_8 ?_
  refine lv_iload_n hx hb dI_J0_indexOf_7cf53_11 rfl (lv_at hl 1 rfl) ?_
  refine lv_iload_n hx hb dI_J0_indexOf_7cf53_12 rfl (lv_at hl 2 rfl) ?_
  refine lv_aload_n hx hb dI_J0_indexOf_7cf53_13 rfl (lv_at hl 0 rfl) ?_
  refine y_run (va_runV (As := []) (rest := [.int 0, .int x, .ref av]) ⟨hx, hb, hml, hown, hts⟩ (mI_length l (A := A) (a := a) (av := av)) ⟨callB_of 0 hts (gW_in wI_c_J0_length_8abf5) rfl rfl rfl (hts _ wI_n_String) (hts _ wI_m_J0_505) (by decide +kernel) ⟨by decide, by decide⟩, hts _ wI_i_J0_length_8abf5, hts _ wI_v_J0_length_8abf5⟩ ⟨pS_blind, vk_recv hP.1 (i := 0) (by omega) hS, fun U hU hWm => ⟨rfl, hP.at hU hWm⟩⟩ rfl rfl hl.1 rfl (lv_room (Nat.le_of_ble_eq_true rfl)) dI_J0_indexOf_7cf53_14 ⟨by decide, by decide⟩) ?_
  refine y_run (va_runS (As := [.ref av, .int x, .int 0, .int 5]) (rest := []) ⟨hx, hb, hml, hown, hts⟩ (mI_lat l (A := A) (av := av) (x := x)) ⟨callB_of 4 hts (gW_in wI_c_J1_indexOf_4cfef) rfl rfl rfl (hts _ wI_n_StringLatin1) (hts _ wI_m_J0_637) (by decide +kernel) ⟨by decide, by decide⟩, hts _ wI_s_J1_indexOf_4cfef⟩ ⟨pT_blind, fun U hU hWm => ⟨rfl, hP.T.at hU hWm⟩⟩ rfl rfl hl.1 rfl (lv_room (Nat.le_of_ble_eq_true rfl)) dI_J0_indexOf_7cf53_17 ⟨by decide, by decide⟩) ?_
  refine lv_goto hx hb dI_J0_indexOf_7cf53_20 (tgt := 36) rfl ?_
  exact W.iret hx hb hr (fun t ht _ => ⟨rfl, ht⟩) (fun q hq => absurd hq List.not_mem_nil) dI_J0_indexOf_7cf53_36
set_option maxHeartbeats 1000000 in
theorem mI_ix1 (l : Launch) {A : Nat → Prop} {free : Addr → Prop} {a av : Nat} {x : Int32} : Met l yJ0_indexOf_0f7a4 (Cond.code yJ0_indexOf_0f7a4 cJ0_indexOf_0f7a4 2 (some .int) :: gW) (rmD 7 0 0) (va_Pc [.ref a, .int x] (fun U => pS A a av U)) (qI (ixo x)) 0 0 free := by
  refine va_MetF (cc := cJ0_indexOf_0f7a4) (maxL := 2) (ret := (some .int)) (by decide) rfl ?_
  intro p e s m args below meth c s₁ BB hml hv
  obtain ⟨rfl, hP⟩ := hv
  have hx := BB.exec
  have hb := BB.bytes
  have hr := BB.returns
  have hts : ∀ w ∈ gW, w.before _ s = true := fun w hw => atoms_spec (ws := Cond.code yJ0_indexOf_0f7a4 cJ0_indexOf_0f7a4 2 (some .int) :: gW) BB.pre w (List.mem_cons_of_mem _ hw)
  have hown : s.vm.findClass "java/lang/String" = some m.cls := findClass_of_methodNamed BB.named
  have hlocks := BB.notSynchronized
  have hS : va_S A s.heap s.heap [] := va_S.rf
  have hl := lv_entry [.ref a, .int x] (n := 2) (Nat.le_of_ble_eq_true rfl)
  rw [lg_entry_eq]
  generalize (lg_sl [.ref a, .int x] ++ List.replicate (2 - (lg_sl [.ref a, .int x]).length) Slot.unset).toArray = ls at hl ⊢
  have hl : lv_has ls 2 [(0, .ref a), (1, .int x)] := hl
  refine lv_aload_n hx hb dI_J0_indexOf_0f7a4_0 rfl (lv_at hl 0 rfl) ?_
  refine lv_iload_n hx hb dI_J0_indexOf_0f7a4_1 rfl (lv_at hl 1 rfl) ?_
  refine lv_iconst hx hb dI_J0_indexOf_0f7a4_2 (v := 0) rfl ?_
  refine y_run (va_runV (As := [.int x, .int 0]) (rest := []) ⟨hx, hb, hml, hown, hts⟩ (mI_ix2 l (A := A) (a := a) (av := av) (x := x)) ⟨callB_of 2 hts (gW_in wI_c_J0_indexOf_7cf53) rfl rfl rfl (hts _ wI_n_String) (hts _ wI_m_J0_633) (by decide +kernel) ⟨by decide, by decide⟩, hts _ wI_i_J0_indexOf_7cf53, hts _ wI_v_J0_indexOf_7cf53⟩ ⟨pS_blind, vk_recv hP.1 (i := 0) (by omega) hS, fun U hU hWm => ⟨rfl, hP.at hU hWm⟩⟩ rfl rfl hl.1 rfl (lv_room (Nat.le_of_ble_eq_true rfl)) dI_J0_indexOf_0f7a4_3 ⟨by decide, by decide⟩) ?_
  exact W.iret hx hb hr (fun t ht _ => ⟨rfl, ht⟩) (fun q hq => absurd hq List.not_mem_nil) dI_J0_indexOf_0f7a4_6
/-- the primitive call: where a letter stands -/
def prI : Ct := fun mi as E σ r E1 σ1 => mi = 51 ∧ ∃ c : Int32, as = [.ref LN, .int c] ∧ r = some (.int (ixo c)) ∧ E1 = E ∧ σ1 = σ
theorem MT_ix : MT 51 = some mr_J0_indexOf_0f7a4 := rfl
theorem prI_ok (l : Launch) (sc : Nat × (Nat → Int32)) (d mi : Nat) (as : List Value) (E : En) (σ : St) (r : Option Value) (E1 : En) (σ1 : St) (hd : 8 ≤ d) (h : prI mi as E σ r E1 σ1) (_ : eZ E1 ≤ 1000000) : ConP l MT sc (d + 1) mi as E σ r E1 σ1 := by
  obtain ⟨rfl, c, rfl, rfl, rfl, rfl⟩ := h
  refine ⟨Nat.le_refl _, Nat.le_refl _, mr_J0_indexOf_0f7a4, MT_ix, fun B ad D ca => ?_⟩
  rw [Nat.sub_self, Nat.sub_self]
  refine va_MetF (cc := cJ0_indexOf_0f7a4) (maxL := 2) (ret := some .int) (by decide) rfl ?_
  intro p e s m args below meth c' s₁ BB hml hv
  obtain ⟨rfl, hH, hG⟩ := hv
  obtain ⟨-, -, -, -, -, -, -, -, -, -, -, av, hS5, hZ5⟩ := id hG
  have hP : pS (fun q => B ≤ q) (ad LN) av s := ⟨hS5, hZ5⟩
  have hx := BB.exec
  have hb := BB.bytes
  have hr := BB.returns
  have hts : ∀ w ∈ gW, w.before _ s = true := fun w hw => atoms_spec (ws := Cond.code yJ0_indexOf_0f7a4 cJ0_indexOf_0f7a4 2 (some .int) :: gW) BB.pre w (List.mem_cons_of_mem _ hw)
  have hown : s.vm.findClass "java/lang/String" = some m.cls := findClass_of_methodNamed BB.named
  have hlocks := BB.notSynchronized
  have hS : va_S (fun q => B ≤ q) s.heap s.heap [] := va_S.rf
  have hl := lv_entry [.ref (ad LN), .int c] (n := 2) (Nat.le_of_ble_eq_true rfl)
  rw [lg_entry_eq]
  show W p l e _ s m _ below meth c' s.heap [] 0 0 _ (F0 m 0 (lg_sl [.ref (ad LN), .int c] ++ List.replicate (2 - (lg_sl [.ref (ad LN), .int c]).length) Slot.unset).toArray [])
  generalize (lg_sl [.ref (ad LN), .int c] ++ List.replicate (2 - (lg_sl [.ref (ad LN), .int c]).length) Slot.unset).toArray = ls at hl ⊢
  have hl : lv_has ls 2 [(0, .ref (ad LN)), (1, .int c)] := hl
  refine lv_aload_n hx hb dI_J0_indexOf_0f7a4_0 rfl (lv_at hl 0 rfl) ?_
  refine lv_iload_n hx hb dI_J0_indexOf_0f7a4_1 rfl (lv_at hl 1 rfl) ?_
  refine lv_iconst hx hb dI_J0_indexOf_0f7a4_2 (v := 0) rfl ?_
  refine y_run (va_runV (As := [.int c, .int 0]) (rest := []) ⟨hx, hb, hml, hown, hts⟩ (mI_ix2 l (A := fun q => B ≤ q) (a := ad LN) (av := av) (x := c)) ⟨callB_of 2 hts (gW_in wI_c_J0_indexOf_7cf53) rfl rfl rfl (hts _ wI_n_String) (hts _ wI_m_J0_633) (by decide +kernel) ⟨by show 5 + 1 ≤ d + 1; omega, by show 8 + (3 + 11) + 64 * 5 ≤ 64 * (d + 1); omega⟩, hts _ wI_i_J0_indexOf_7cf53, hts _ wI_v_J0_indexOf_7cf53⟩ ⟨pS_blind, vk_recv hP.1 (i := 0) (by omega) hS, fun U hU hWm => ⟨rfl, hP.at hU hWm⟩⟩ rfl rfl hl.1 rfl (lv_room (Nat.le_of_ble_eq_true rfl)) dI_J0_indexOf_0f7a4_3 ⟨Nat.le_refl _, Nat.le_refl _⟩) ?_
  exact W.iret hx hb hr (fun t ht _ => ⟨rfl, by rw [ht]; exact hH, hS.F ht⟩) (fun q hq => absurd hq List.not_mem_nil) dI_J0_indexOf_0f7a4_6
theorem prI_cl {sc : Nat × (Nat → Int32)} (c : Int32) (E : En) (σ : St) (d : Nat) : Cl MT prI sc (d + 9) 51 [.ref LN, .int c] E σ (some (.int (ixo c))) E σ := Or.inl ⟨by omega, rfl, c, rfl, rfl, rfl, rfl⟩
