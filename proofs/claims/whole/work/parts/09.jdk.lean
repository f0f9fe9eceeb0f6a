/-! The JDK's members that are reached. -/
def yS_length : MethodName := ⟨"java/lang/String", "length", "()I"⟩
def yS_charAt : MethodName := ⟨"java/lang/String", "charAt", "(I)C"⟩
def yS_coder : MethodName := ⟨"java/lang/String", "coder", "()B"⟩
def yS_isLatin1 : MethodName := ⟨"java/lang/String", "isLatin1", "()Z"⟩
def yS_checkIndex : MethodName := ⟨"java/lang/String", "checkIndex", "(II)V"⟩
def yL_charAt : MethodName := ⟨"java/lang/StringLatin1", "charAt", "([BI)C"⟩
def yP_checkIndex : MethodName := ⟨"jdk/internal/util/Preconditions", "checkIndex", "(IILjava/util/function/BiFunction;)I"⟩
def yJ_compare : MethodName := ⟨"java/lang/Long", "compare", "(JJ)I"⟩
def yJ_bitCount : MethodName := ⟨"java/lang/Integer", "bitCount", "(I)I"⟩
theorem ml_6_126 : Cond.methodLink RX6 126 yS_length ∈ h_T := hs_3 75 rfl rfl
theorem ml_String_335 : Cond.methodLink "java/lang/String" 335 yS_coder ∈ h_T := hs_3 79 rfl rfl
theorem ml_6_132 : Cond.methodLink RX6 132 yS_charAt ∈ h_T := hs_3 85 rfl rfl
theorem ml_String_492 : Cond.methodLink "java/lang/String" 492 yS_isLatin1 ∈ h_T := hs_3 89 rfl rfl
theorem ml_String_495 : Cond.methodLink "java/lang/String" 495 yL_charAt ∈ h_T := hs_3 93 rfl rfl
theorem ml_StringLatin1_9 : Cond.methodLink "java/lang/StringLatin1" 9 yS_checkIndex ∈ h_T := hs_3 96 rfl rfl
theorem ml_String_1059 : Cond.methodLink "java/lang/String" 1059 yP_checkIndex ∈ h_T := hs_3 101 rfl rfl
theorem ml_StringUTF16_414 : Cond.methodLink "java/lang/StringUTF16" 414 yS_checkIndex ∈ h_T := hs_3 113 rfl rfl
theorem ml_4_153 : Cond.methodLink RX4 153 Lib.Math.min.name ∈ h_T := hs_3 200 rfl rfl
theorem ml_4_148 : Cond.methodLink RX4 148 Lib.Math.max.name ∈ h_T := hs_3 215 rfl rfl
theorem ml_7_38 : Cond.methodLink RX7 38 Lib.Math.min.name ∈ h_T := hs_4 12 rfl rfl
theorem ml_0_32 : Cond.methodLink RX0 32 Lib.Math.max.name ∈ h_T := hs_4 25 rfl rfl
theorem ml_9_105 : Cond.methodLink RX9 105 Lib.Math.min.name ∈ h_T := hs_4 59 rfl rfl
theorem ml_9_111 : Cond.methodLink RX9 111 Lib.Math.max.name ∈ h_T := hs_4 60 rfl rfl
theorem ml_5_102 : Cond.methodLink RX5 102 Lib.Math.max.name ∈ h_T := hs_4 139 rfl rfl
theorem ml_10_306 : Cond.methodLink RX10 306 Lib.MathLoose.abs_long.x ∈ h_T := hs_4 185 rfl rfl
theorem ml_1_155 : Cond.methodLink RX1 155 yJ_compare ∈ h_T := hs_5 114 rfl rfl
theorem ml_1_149 : Cond.methodLink RX1 149 arraycopyName ∈ h_T := hs_5 117 rfl rfl
theorem ml_10_255 : Cond.methodLink RX10 255 yJ_bitCount ∈ h_T := hs_5 152 rfl rfl
theorem ml_11_194 : Cond.methodLink RX11 194 Lib.Math.min.name ∈ h_T := hs_7 123 rfl rfl
theorem ml_11_203 : Cond.methodLink RX11 203 yS_length ∈ h_T := hs_7 133 rfl rfl
theorem ml_11_208 : Cond.methodLink RX11 208 yS_charAt ∈ h_T := hs_7 134 rfl rfl
theorem ml_11_311 : Cond.methodLink RX11 311 Lib.Math.max.name ∈ h_T := hs_7 200 rfl rfl
theorem ml_11_472 : Cond.methodLink RX11 472 Lib.MathLoose.abs_long.x ∈ h_T := hs_8 160 rfl rfl
theorem ml_11_563 : Cond.methodLink RX11 563 Lib.MathLoose.max_long.x ∈ h_T := hs_8 200 rfl rfl
theorem ml_11_565 : Cond.methodLink RX11 565 Lib.MathLoose.min_long.x ∈ h_T := hs_8 203 rfl rfl
theorem ml_11_627 : Cond.methodLink RX11 627 yJ_compare ∈ h_T := hs_9 47 rfl rfl
theorem ml_11_673 : Cond.methodLink RX11 673 yJ_bitCount ∈ h_T := hs_9 70 rfl rfl
theorem w_mmax : h_mmax := ⟨hs_3 216 rfl rfl, hs_1 17 rfl rfl, hs_3 217 rfl rfl⟩
theorem w_mmin : h_mmin := ⟨hs_3 201 rfl rfl, hs_1 17 rfl rfl, hs_3 202 rfl rfl⟩
theorem w_mmaxL : h_mmaxL := ⟨hs_8 201 rfl rfl, hs_1 17 rfl rfl, hs_8 202 rfl rfl⟩
theorem w_mminL : h_mminL := ⟨hs_8 204 rfl rfl, hs_1 17 rfl rfl, hs_8 205 rfl rfl⟩
theorem w_mabsL : h_mabsL := ⟨hs_4 186 rfl rfl, hs_1 17 rfl rfl, hs_4 187 rfl rfl⟩
theorem yyS_length : h_yV yS_length prog_22_method_54_code 1 (some .int) 0 := ⟨by decide +kernel, hs_3 78 rfl rfl, hs_1 13 rfl rfl, hs_3 76 rfl rfl, hs_3 77 rfl rfl, by decide⟩
theorem dS_length_0 : decode prog_22_method_54_code 0 = .ok (.aload_n 0, 1) := by decide +kernel
theorem dS_length_1 : decode prog_22_method_54_code 1 = .ok (.getfield 9, 3) := by decide +kernel
theorem dS_length_4 : decode prog_22_method_54_code 4 = .ok (.arraylength, 1) := by decide +kernel
theorem dS_length_5 : decode prog_22_method_54_code 5 = .ok (.aload_n 0, 1) := by decide +kernel
theorem dS_length_6 : decode prog_22_method_54_code 6 = .ok (.invokevirtual 335, 3) := by decide +kernel
theorem dS_length_9 : decode prog_22_method_54_code 9 = .ok (.ishr, 1) := by decide +kernel
theorem dS_length_10 : decode prog_22_method_54_code 10 = .ok (.ireturn, 1) := by decide +kernel
theorem yyS_charAt : h_yV yS_charAt prog_22_method_56_code 2 (some .char) 1 := ⟨by decide +kernel, hs_3 88 rfl rfl, hs_1 13 rfl rfl, hs_3 86 rfl rfl, hs_3 87 rfl rfl, by decide⟩
theorem dS_charAt_0 : decode prog_22_method_56_code 0 = .ok (.aload_n 0, 1) := by decide +kernel
theorem dS_charAt_1 : decode prog_22_method_56_code 1 = .ok (.invokevirtual 492, 3) := by decide +kernel
theorem dS_charAt_4 : decode prog_22_method_56_code 4 = .ok (.ifCond .eq 12, 3) := by decide +kernel
theorem dS_charAt_7 : decode prog_22_method_56_code 7 = .ok (.aload_n 0, 1) := by decide +kernel
theorem dS_charAt_8 : decode prog_22_method_56_code 8 = .ok (.getfield 9, 3) := by decide +kernel
theorem dS_charAt_11 : decode prog_22_method_56_code 11 = .ok (.iload_n 1, 1) := by decide +kernel
theorem dS_charAt_12 : decode prog_22_method_56_code 12 = .ok (.invokestatic 495, 3) := by decide +kernel
theorem dS_charAt_15 : decode prog_22_method_56_code 15 = .ok (.ireturn, 1) := by decide +kernel
theorem dS_charAt_16 : decode prog_22_method_56_code 16 = .ok (.aload_n 0, 1) := by decide +kernel
theorem dS_charAt_17 : decode prog_22_method_56_code 17 = .ok (.getfield 9, 3) := by decide +kernel
theorem dS_charAt_20 : decode prog_22_method_56_code 20 = .ok (.iload_n 1, 1) := by decide +kernel
theorem dS_charAt_21 : decode prog_22_method_56_code 21 = .ok (.invokestatic 498, 3) := by decide +kernel
theorem dS_charAt_24 : decode prog_22_method_56_code 24 = .ok (.ireturn, 1) := by decide +kernel
theorem yyS_coder : h_yV yS_coder prog_22_method_152_code 1 (some .byte) 0 := ⟨by decide +kernel, hs_3 82 rfl rfl, hs_1 13 rfl rfl, hs_3 80 rfl rfl, hs_3 81 rfl rfl, by decide⟩
theorem dS_coder_0 : decode prog_22_method_152_code 0 = .ok (.getstatic 38, 3) := by decide +kernel
theorem dS_coder_3 : decode prog_22_method_152_code 3 = .ok (.ifCond .eq 10, 3) := by decide +kernel
theorem dS_coder_6 : decode prog_22_method_152_code 6 = .ok (.aload_n 0, 1) := by decide +kernel
theorem dS_coder_7 : decode prog_22_method_152_code 7 = .ok (.getfield 15, 3) := by decide +kernel
theorem dS_coder_10 : decode prog_22_method_152_code 10 = .ok (.goto 4, 3) := by decide +kernel
theorem dS_coder_13 : decode prog_22_method_152_code 13 = .ok (.iconst 1, 1) := by decide +kernel
theorem dS_coder_14 : decode prog_22_method_152_code 14 = .ok (.ireturn, 1) := by decide +kernel
theorem yyS_isLatin1 : h_yV yS_isLatin1 prog_22_method_154_code 1 (some .boolean) 0 := ⟨by decide +kernel, hs_3 92 rfl rfl, hs_1 13 rfl rfl, hs_3 90 rfl rfl, hs_3 91 rfl rfl, by decide⟩
theorem dS_isLatin1_0 : decode prog_22_method_154_code 0 = .ok (.getstatic 38, 3) := by decide +kernel
theorem dS_isLatin1_3 : decode prog_22_method_154_code 3 = .ok (.ifCond .eq 14, 3) := by decide +kernel
theorem dS_isLatin1_6 : decode prog_22_method_154_code 6 = .ok (.aload_n 0, 1) := by decide +kernel
theorem dS_isLatin1_7 : decode prog_22_method_154_code 7 = .ok (.getfield 15, 3) := by decide +kernel
theorem dS_isLatin1_10 : decode prog_22_method_154_code 10 = .ok (.ifCond .ne 7, 3) := by decide +kernel
theorem dS_isLatin1_13 : decode prog_22_method_154_code 13 = .ok (.iconst 1, 1) := by decide +kernel
theorem dS_isLatin1_14 : decode prog_22_method_154_code 14 = .ok (.goto 4, 3) := by decide +kernel
theorem dS_isLatin1_17 : decode prog_22_method_154_code 17 = .ok (.iconst 0, 1) := by decide +kernel
theorem dS_isLatin1_18 : decode prog_22_method_154_code 18 = .ok (.ireturn, 1) := by decide +kernel
theorem yyS_checkIndex : h_yS yS_checkIndex prog_22_method_155_code 2 none 2 := ⟨by decide +kernel, hs_3 98 rfl rfl, hs_1 13 rfl rfl, hs_3 97 rfl rfl, by decide⟩
theorem dS_checkIndex_0 : decode prog_22_method_155_code 0 = .ok (.iload_n 0, 1) := by decide +kernel
theorem dS_checkIndex_1 : decode prog_22_method_155_code 1 = .ok (.iload_n 1, 1) := by decide +kernel
theorem dS_checkIndex_2 : decode prog_22_method_155_code 2 = .ok (.getstatic 1053, 3) := by decide +kernel
theorem dS_checkIndex_5 : decode prog_22_method_155_code 5 = .ok (.invokestatic 1059, 3) := by decide +kernel
theorem dS_checkIndex_8 : decode prog_22_method_155_code 8 = .ok (.pop, 1) := by decide +kernel
theorem dS_checkIndex_9 : decode prog_22_method_155_code 9 = .ok (.return_, 1) := by decide +kernel
theorem yyL_charAt : h_yS yL_charAt prog_23_method_2_code 2 (some .char) 2 := ⟨by decide +kernel, hs_3 95 rfl rfl, hs_1 14 rfl rfl, hs_3 94 rfl rfl, by decide⟩
theorem dL_charAt_0 : decode prog_23_method_2_code 0 = .ok (.iload_n 1, 1) := by decide +kernel
theorem dL_charAt_1 : decode prog_23_method_2_code 1 = .ok (.aload_n 0, 1) := by decide +kernel
theorem dL_charAt_2 : decode prog_23_method_2_code 2 = .ok (.arraylength, 1) := by decide +kernel
theorem dL_charAt_3 : decode prog_23_method_2_code 3 = .ok (.invokestatic 9, 3) := by decide +kernel
theorem dL_charAt_6 : decode prog_23_method_2_code 6 = .ok (.aload_n 0, 1) := by decide +kernel
theorem dL_charAt_7 : decode prog_23_method_2_code 7 = .ok (.iload_n 1, 1) := by decide +kernel
theorem dL_charAt_8 : decode prog_23_method_2_code 8 = .ok (.baload, 1) := by decide +kernel
theorem dL_charAt_9 : decode prog_23_method_2_code 9 = .ok (.sipush 255, 3) := by decide +kernel
theorem dL_charAt_12 : decode prog_23_method_2_code 12 = .ok (.iand, 1) := by decide +kernel
theorem dL_charAt_13 : decode prog_23_method_2_code 13 = .ok (.i2c, 1) := by decide +kernel
theorem dL_charAt_14 : decode prog_23_method_2_code 14 = .ok (.ireturn, 1) := by decide +kernel
theorem yyP_checkIndex : h_yS yP_checkIndex prog_30_method_11_code 3 (some .int) 3 := ⟨by decide +kernel, hs_3 103 rfl rfl, hs_1 15 rfl rfl, hs_3 102 rfl rfl, by decide⟩
theorem dP_checkIndex_0 : decode prog_30_method_11_code 0 = .ok (.iload_n 0, 1) := by decide +kernel
theorem dP_checkIndex_1 : decode prog_30_method_11_code 1 = .ok (.ifCond .lt 8, 3) := by decide +kernel
theorem dP_checkIndex_4 : decode prog_30_method_11_code 4 = .ok (.iload_n 0, 1) := by decide +kernel
theorem dP_checkIndex_5 : decode prog_30_method_11_code 5 = .ok (.iload_n 1, 1) := by decide +kernel
theorem dP_checkIndex_6 : decode prog_30_method_11_code 6 = .ok (.if_icmp .lt 10, 3) := by decide +kernel
theorem dP_checkIndex_9 : decode prog_30_method_11_code 9 = .ok (.aload_n 2, 1) := by decide +kernel
theorem dP_checkIndex_10 : decode prog_30_method_11_code 10 = .ok (.iload_n 0, 1) := by decide +kernel
theorem dP_checkIndex_11 : decode prog_30_method_11_code 11 = .ok (.iload_n 1, 1) := by decide +kernel
theorem dP_checkIndex_12 : decode prog_30_method_11_code 12 = .ok (.invokestatic 95, 3) := by decide +kernel
theorem dP_checkIndex_15 : decode prog_30_method_11_code 15 = .ok (.athrow, 1) := by decide +kernel
theorem dP_checkIndex_16 : decode prog_30_method_11_code 16 = .ok (.iload_n 0, 1) := by decide +kernel
theorem dP_checkIndex_17 : decode prog_30_method_11_code 17 = .ok (.ireturn, 1) := by decide +kernel
theorem yyJ_compare : h_yS yJ_compare prog_19_method_42_code 4 (some .int) 2 := ⟨by decide +kernel, hs_5 116 rfl rfl, hs_1 22 rfl rfl, hs_5 115 rfl rfl, by decide⟩
theorem dJ_compare_0 : decode prog_19_method_42_code 0 = .ok (.lload_n 0, 1) := by decide +kernel
theorem dJ_compare_1 : decode prog_19_method_42_code 1 = .ok (.lload_n 2, 1) := by decide +kernel
theorem dJ_compare_2 : decode prog_19_method_42_code 2 = .ok (.lcmp, 1) := by decide +kernel
theorem dJ_compare_3 : decode prog_19_method_42_code 3 = .ok (.ifCond .ge 7, 3) := by decide +kernel
theorem dJ_compare_6 : decode prog_19_method_42_code 6 = .ok (.iconst (-1), 1) := by decide +kernel
theorem dJ_compare_7 : decode prog_19_method_42_code 7 = .ok (.goto 14, 3) := by decide +kernel
theorem dJ_compare_10 : decode prog_19_method_42_code 10 = .ok (.lload_n 0, 1) := by decide +kernel
theorem dJ_compare_11 : decode prog_19_method_42_code 11 = .ok (.lload_n 2, 1) := by decide +kernel
theorem dJ_compare_12 : decode prog_19_method_42_code 12 = .ok (.lcmp, 1) := by decide +kernel
theorem dJ_compare_13 : decode prog_19_method_42_code 13 = .ok (.ifCond .ne 7, 3) := by decide +kernel
theorem dJ_compare_16 : decode prog_19_method_42_code 16 = .ok (.iconst 0, 1) := by decide +kernel
theorem dJ_compare_17 : decode prog_19_method_42_code 17 = .ok (.goto 4, 3) := by decide +kernel
theorem dJ_compare_20 : decode prog_19_method_42_code 20 = .ok (.iconst 1, 1) := by decide +kernel
theorem dJ_compare_21 : decode prog_19_method_42_code 21 = .ok (.ireturn, 1) := by decide +kernel
theorem yyJ_bitCount : h_yS yJ_bitCount prog_18_method_49_code 1 (some .int) 1 := ⟨by decide +kernel, hs_5 154 rfl rfl, hs_1 24 rfl rfl, hs_5 153 rfl rfl, by decide⟩
theorem dJ_bitCount_0 : decode prog_18_method_49_code 0 = .ok (.iload_n 0, 1) := by decide +kernel
theorem dJ_bitCount_1 : decode prog_18_method_49_code 1 = .ok (.iload_n 0, 1) := by decide +kernel
theorem dJ_bitCount_2 : decode prog_18_method_49_code 2 = .ok (.iconst 1, 1) := by decide +kernel
theorem dJ_bitCount_3 : decode prog_18_method_49_code 3 = .ok (.iushr, 1) := by decide +kernel
theorem dJ_bitCount_4 : decode prog_18_method_49_code 4 = .ok (.ldc_w 265, 3) := by decide +kernel
theorem dJ_bitCount_7 : decode prog_18_method_49_code 7 = .ok (.iand, 1) := by decide +kernel
theorem dJ_bitCount_8 : decode prog_18_method_49_code 8 = .ok (.isub, 1) := by decide +kernel
theorem dJ_bitCount_9 : decode prog_18_method_49_code 9 = .ok (.istore_n 0, 1) := by decide +kernel
theorem dJ_bitCount_10 : decode prog_18_method_49_code 10 = .ok (.iload_n 0, 1) := by decide +kernel
theorem dJ_bitCount_11 : decode prog_18_method_49_code 11 = .ok (.ldc_w 266, 3) := by decide +kernel
theorem dJ_bitCount_14 : decode prog_18_method_49_code 14 = .ok (.iand, 1) := by decide +kernel
theorem dJ_bitCount_15 : decode prog_18_method_49_code 15 = .ok (.iload_n 0, 1) := by decide +kernel
theorem dJ_bitCount_16 : decode prog_18_method_49_code 16 = .ok (.iconst 2, 1) := by decide +kernel
theorem dJ_bitCount_17 : decode prog_18_method_49_code 17 = .ok (.iushr, 1) := by decide +kernel
theorem dJ_bitCount_18 : decode prog_18_method_49_code 18 = .ok (.ldc_w 266, 3) := by decide +kernel
theorem dJ_bitCount_21 : decode prog_18_method_49_code 21 = .ok (.iand, 1) := by decide +kernel
theorem dJ_bitCount_22 : decode prog_18_method_49_code 22 = .ok (.iadd, 1) := by decide +kernel
theorem dJ_bitCount_23 : decode prog_18_method_49_code 23 = .ok (.istore_n 0, 1) := by decide +kernel
theorem dJ_bitCount_24 : decode prog_18_method_49_code 24 = .ok (.iload_n 0, 1) := by decide +kernel
theorem dJ_bitCount_25 : decode prog_18_method_49_code 25 = .ok (.iload_n 0, 1) := by decide +kernel
theorem dJ_bitCount_26 : decode prog_18_method_49_code 26 = .ok (.iconst 4, 1) := by decide +kernel
theorem dJ_bitCount_27 : decode prog_18_method_49_code 27 = .ok (.iushr, 1) := by decide +kernel
theorem dJ_bitCount_28 : decode prog_18_method_49_code 28 = .ok (.iadd, 1) := by decide +kernel
theorem dJ_bitCount_29 : decode prog_18_method_49_code 29 = .ok (.ldc_w 267, 3) := by decide +kernel
theorem dJ_bitCount_32 : decode prog_18_method_49_code 32 = .ok (.iand, 1) := by decide +kernel
theorem dJ_bitCount_33 : decode prog_18_method_49_code 33 = .ok (.istore_n 0, 1) := by decide +kernel
theorem dJ_bitCount_34 : decode prog_18_method_49_code 34 = .ok (.iload_n 0, 1) := by decide +kernel
theorem dJ_bitCount_35 : decode prog_18_method_49_code 35 = .ok (.iload_n 0, 1) := by decide +kernel
theorem dJ_bitCount_36 : decode prog_18_method_49_code 36 = .ok (.bipush 8, 2) := by decide +kernel
theorem dJ_bitCount_38 : decode prog_18_method_49_code 38 = .ok (.iushr, 1) := by decide +kernel
theorem dJ_bitCount_39 : decode prog_18_method_49_code 39 = .ok (.iadd, 1) := by decide +kernel
theorem dJ_bitCount_40 : decode prog_18_method_49_code 40 = .ok (.istore_n 0, 1) := by decide +kernel
theorem dJ_bitCount_41 : decode prog_18_method_49_code 41 = .ok (.iload_n 0, 1) := by decide +kernel
theorem dJ_bitCount_42 : decode prog_18_method_49_code 42 = .ok (.iload_n 0, 1) := by decide +kernel
theorem dJ_bitCount_43 : decode prog_18_method_49_code 43 = .ok (.bipush 16, 2) := by decide +kernel
theorem dJ_bitCount_45 : decode prog_18_method_49_code 45 = .ok (.iushr, 1) := by decide +kernel
theorem dJ_bitCount_46 : decode prog_18_method_49_code 46 = .ok (.iadd, 1) := by decide +kernel
theorem dJ_bitCount_47 : decode prog_18_method_49_code 47 = .ok (.istore_n 0, 1) := by decide +kernel
theorem dJ_bitCount_48 : decode prog_18_method_49_code 48 = .ok (.iload_n 0, 1) := by decide +kernel
theorem dJ_bitCount_49 : decode prog_18_method_49_code 49 = .ok (.bipush 63, 2) := by decide +kernel
theorem dJ_bitCount_51 : decode prog_18_method_49_code 51 = .ok (.iand, 1) := by decide +kernel
theorem dJ_bitCount_52 : decode prog_18_method_49_code 52 = .ok (.ireturn, 1) := by decide +kernel
theorem lit_6_100 : (RX6, 100, "x", 0) ∈ h_lits := List.mem_of_getElem? (i := 0) rfl
theorem lit_6_106 : (RX6, 106, "y", 1) ∈ h_lits := List.mem_of_getElem? (i := 1) rfl
theorem lit_6_108 : (RX6, 108, "while", 2) ∈ h_lits := List.mem_of_getElem? (i := 2) rfl
theorem lit_6_110 : (RX6, 110, "pay", 3) ∈ h_lits := List.mem_of_getElem? (i := 3) rfl
theorem lit_6_112 : (RX6, 112, "coin", 4) ∈ h_lits := List.mem_of_getElem? (i := 4) rfl
theorem lit_6_114 : (RX6, 114, "pick", 5) ∈ h_lits := List.mem_of_getElem? (i := 5) rfl
theorem lit_6_116 : (RX6, 116, "if", 6) ∈ h_lits := List.mem_of_getElem? (i := 6) rfl
theorem lit_6_118 : (RX6, 118, "out", 7) ∈ h_lits := List.mem_of_getElem? (i := 7) rfl
theorem lit_6_120 : (RX6, 120, "and", 8) ∈ h_lits := List.mem_of_getElem? (i := 8) rfl
theorem lit_6_122 : (RX6, 122, "or", 9) ∈ h_lits := List.mem_of_getElem? (i := 9) rfl
theorem lit_6_124 : (RX6, 124, "by", 10) ∈ h_lits := List.mem_of_getElem? (i := 10) rfl
theorem lit_11_231 : (RX11, 231, "x", 0) ∈ h_lits := List.mem_of_getElem? (i := 11) rfl
theorem lit_11_236 : (RX11, 236, "y", 1) ∈ h_lits := List.mem_of_getElem? (i := 12) rfl
theorem lit_11_323 : (RX11, 323, "while", 2) ∈ h_lits := List.mem_of_getElem? (i := 13) rfl
theorem lit_11_259 : (RX11, 259, "and", 8) ∈ h_lits := List.mem_of_getElem? (i := 14) rfl
theorem lit_11_261 : (RX11, 261, "or", 9) ∈ h_lits := List.mem_of_getElem? (i := 15) rfl
theorem lit_11_271 : (RX11, 271, "pay", 3) ∈ h_lits := List.mem_of_getElem? (i := 16) rfl
theorem lit_11_273 : (RX11, 273, "coin", 4) ∈ h_lits := List.mem_of_getElem? (i := 17) rfl
theorem lit_11_275 : (RX11, 275, "pick", 5) ∈ h_lits := List.mem_of_getElem? (i := 18) rfl
theorem lit_11_277 : (RX11, 277, "if", 6) ∈ h_lits := List.mem_of_getElem? (i := 19) rfl
theorem lit_11_279 : (RX11, 279, "out", 7) ∈ h_lits := List.mem_of_getElem? (i := 20) rfl
theorem lit_11_340 : (RX11, 340, "by", 10) ∈ h_lits := List.mem_of_getElem? (i := 21) rfl
theorem fs_9 : Cond.fieldLink "java/lang/String" 9 "java/lang/String" "value" "[B" ∈ h_T := hs_9 115 rfl rfl
theorem fs_15 : Cond.fieldLink "java/lang/String" 15 "java/lang/String" "coder" "B" ∈ h_T := hs_9 116 rfl rfl
theorem fs_38 : Cond.fieldLink "java/lang/String" 38 "java/lang/String" "COMPACT_STRINGS" "Z" ∈ h_T := hs_3 83 rfl rfl
theorem fs_1053 : Cond.fieldLink "java/lang/String" 1053 "jdk/internal/util/Preconditions" "SIOOBE_FORMATTER" "Ljava/util/function/BiFunction;" ∈ h_T := hs_3 99 rfl rfl
section HSt
variable {FT : Nat → List Nat} {cc : ByteArray} {nL : Nat} {ret : Option FieldType} {own : String} {kd : List (Nat × Nat)} {d : Nat} {lv : List (Nat × Value)} {pc n0 : Nat} {st : List Value} {M : hMem} {r : Option Value} {M' : hMem}
theorem a_ldcS {i idx : Nat} {tx : String} (hq : (own, idx, tx, i) ∈ h_lits) (hn : kd.length = n0) (hd : decode cc pc = .ok (.ldc idx, 2)) (k : AW FT cc nL ret own kd d lv (pc + 2) (.ref (n0 + i) :: st) M r M') : AW FT cc nL ret own kd d lv pc st M r M' := by
  intro p l e R s m args below meth c H ls locs α D cy A hC hP hS hl
  subst hn
  exact va_ldcS hC.1 hC.2.1 hC.2.2.2.1 (hC.2.2.2.2.2.2.2.1.2.2.1 _ hq) hd (k p l e R s m args below meth c H ls locs α D cy A hC hP hS hl)
theorem a_ldc_wS {i idx : Nat} {tx : String} (hq : (own, idx, tx, i) ∈ h_lits) (hn : kd.length = n0) (hd : decode cc pc = .ok (.ldc_w idx, 3)) (k : AW FT cc nL ret own kd d lv (pc + 3) (.ref (n0 + i) :: st) M r M') : AW FT cc nL ret own kd d lv pc st M r M' := by
  intro p l e R s m args below meth c H ls locs α D cy A hC hP hS hl
  subst hn
  have hZ := hC.2.2.2.2.2.2.2.1.2.2.1 _ hq
  intro T hT X
  obtain ⟨t, a1, b1⟩ := k p l e R s m args below meth c H ls locs α D cy A hC hP hS hl T hT X
  exact ⟨t, X.ldcStringW hC.1 hC.2.2.2.1 (text := tx) hZ.1 hZ.2 (g := F0 m pc ls (st.map (h_v α))) rfl (by rw [hC.2.1]; exact hd) t a1, b1⟩
theorem a_sval {i : Nat} (hi : i < 11) (hn : kd.length = n0) (hd : decode cc pc = .ok (.getfield 9, 3)) (k : AW FT cc nL ret "java/lang/String" kd d lv (pc + 3) (.ref (n0 + 11 + i) :: st) M r M') : AW FT cc nL ret "java/lang/String" kd d lv pc (.ref (n0 + i) :: st) M r M' := by
  intro p l e R s m args below meth c H ls locs α D cy A hC hP hS hl
  subst hn
  exact vk_getf hC.1 hC.2.1 (hC.2.2.2.2.2.2.2.1.2.1.1 i hi).2.2.1 hS hC.2.2.2.1 (hC.2.2.2.2.1 _ fs_9) (fun _ h => h) hd (k p l e R s m args below meth c H ls locs α D cy A hC hP hS hl)
theorem a_scod {i : Nat} (hi : i < 11) (hn : kd.length = n0) (hd : decode cc pc = .ok (.getfield 15, 3)) (k : AW FT cc nL ret "java/lang/String" kd d lv (pc + 3) (.int 0 :: st) M r M') : AW FT cc nL ret "java/lang/String" kd d lv pc (.ref (n0 + i) :: st) M r M' := by
  intro p l e R s m args below meth c H ls locs α D cy A hC hP hS hl
  subst hn
  exact vk_getf hC.1 hC.2.1 (hC.2.2.2.2.2.2.2.1.2.1.1 i hi).2.1 hS hC.2.2.2.1 (hC.2.2.2.2.1 _ fs_15) (fun _ h => h) hd (k p l e R s m args below meth c H ls locs α D cy A hC hP hS hl)
theorem a_slenB {i : Nat} (hi : i < 11) (hn : kd.length = n0) (hd : decode cc pc = .ok (.arraylength, 1)) (k : AW FT cc nL ret own kd d lv (pc + 1) (.int (Int32.ofNat (h_len.getD i 0)) :: st) M r M') : AW FT cc nL ret own kd d lv pc (.ref (n0 + 11 + i) :: st) M r M' := by
  intro p l e R s m args below meth c H ls locs α D cy A hC hP hS hl
  subst hn
  exact va_tlen hC.1 hC.2.1 (hC.2.2.2.2.2.2.2.1.2.1.1 i hi).2.2.2 hS rfl hd (k p l e R s m args below meth c H ls locs α D cy A hC hP hS hl)
theorem a_sbald {i : Nat} {x : Int32} (hi : i < 11) (hx : vp_in x (h_len.getD i 0)) (hn : kd.length = n0) (hd : decode cc pc = .ok (.baload, 1)) (k : AW FT cc nL ret own kd d lv (pc + 1) (.int ((h_byt.getD i []).getD x.toNatClampNeg 0) :: st) M r M') : AW FT cc nL ret own kd d lv pc (.int x :: .ref (n0 + 11 + i) :: st) M r M' := by
  intro p l e R s m args below meth c H ls locs α D cy A hC hP hS hl
  subst hn
  exact va_tb hC.1 hC.2.1 (hC.2.2.2.2.2.2.2.1.2.1.1 i hi).2.2.2 hS hx rfl hd (k p l e R s m args below meth c H ls locs α D cy A hC hP hS hl)
theorem a_scomp (hd : decode cc pc = .ok (.getstatic 38, 3)) (k : AW FT cc nL ret "java/lang/String" kd d lv (pc + 3) (.int 1 :: st) M r M') : AW FT cc nL ret "java/lang/String" kd d lv pc st M r M' := by
  intro p l e R s m args below meth c H ls locs α D cy A hC hP hS hl
  exact va_gets hC.1 hC.2.1 hC.2.2.2.2.2.2.2.1.2.2.2.1 hS hC.2.2.2.1 (hC.2.2.2.2.1 _ fs_38) (fun _ h => h) hd (k p l e R s m args below meth c H ls locs α D cy A hC hP hS hl)
theorem a_sfmt (hn : kd.length = n0) (hd : decode cc pc = .ok (.getstatic 1053, 3)) (k1 : AW FT cc nL ret "java/lang/String" kd d lv (pc + 3) (.null :: st) M r M') (k2 : AW FT cc nL ret "java/lang/String" kd d lv (pc + 3) (.ref (n0 + 22) :: st) M r M') : AW FT cc nL ret "java/lang/String" kd d lv pc st M r M' := by
  intro p l e R s m args below meth c H ls locs α D cy A hC hP hS hl
  subst hn
  rcases hC.2.2.2.2.2.2.2.1.2.2.2.2 with hz | hz
  · exact va_gets hC.1 hC.2.1 hz hS hC.2.2.2.1 (hC.2.2.2.2.1 _ fs_1053) (fun _ h => h) hd (k1 p l e R s m args below meth c H ls locs α D cy A hC hP hS hl)
  · exact va_gets hC.1 hC.2.1 hz hS hC.2.2.2.1 (hC.2.2.2.2.1 _ fs_1053) (fun _ h => h) hd (k2 p l e R s m args below meth c H ls locs α D cy A hC hP hS hl)
theorem a_aload_nV {k0 : Fin 4} {i : Nat} {v : Value} (hr : v = .null ∨ ∃ x, v = .ref x) (hd : decode cc pc = .ok (.aload_n k0, 1)) (hi : (k0 : Nat) = i) (hg : lv.find? (fun q => q.1 == i) = some (i, v)) (k : AW FT cc nL ret own kd d lv (pc + 1) (v :: st) M r M') : AW FT cc nL ret own kd d lv pc st M r M' := by
  intro p l e R s m args below meth c H ls locs α D cy A hC hP hS hl
  rcases hr with rfl | ⟨x, rfl⟩
  · exact lv_aload_nN hC.1 hC.2.1 hd hi (h_ld hl hg) (k p l e R s m args below meth c H ls locs α D cy A hC hP hS hl)
  · exact lv_aload_n hC.1 hC.2.1 hd hi (h_ld hl hg) (k p l e R s m args below meth c H ls locs α D cy A hC hP hS hl)
end HSt
section HSu
variable {FT : Nat → List Nat} {cc : ByteArray} {nL : Nat} {own : String} {kd : List (Nat × Nat)} {d : Nat} {lv : List (Nat × Value)} {pc : Nat} {M : hMem}
theorem a_nret {x : Int32} {ty : FieldType} (hx : narrow ty (.int x) = .int x) (hd : decode cc pc = .ok (.ireturn, 1)) : AW FT cc nL (some ty) own kd d lv pc [.int x] M (some (.int x)) M := by
  intro p l e R s m args below meth c H ls locs α D cy A hC hP hS hl
  exact W.zret hC.1 hC.2.1 hC.2.2.2.2.2.1 hx (fun t ht hW => ⟨⟨rfl, by rw [ht]; exact hP⟩, hS.F ht⟩) hS.2.2 hd hC.2.2.2.2.2.2.1
end HSu
section HSv
variable {FT : Nat → List Nat} {cc : ByteArray} {nL : Nat} {ret : Option FieldType} {own : String} {kd : List (Nat × Nat)} {d : Nat} {lv : List (Nat × Value)} {pc n0 : Nat} {st : List Value} {M : hMem} {r : Option Value} {M' : hMem}
theorem a_callVS {y : MethodName} {bytes : ByteArray} {maxL n i idx : Nat} {ret' : Option FieldType} {As : List Value} (rest : List Value) {st0 : List Value} {v : Value} (hy : h_yV y bytes maxL ret' n) (hys : y.cls = "java/lang/String") (hl : Cond.methodLink own idx y ∈ h_T) (hi : i < 11) (hn0 : kd.length = n0) (hM : HMet FT y bytes maxL ret' kd d (.ref (n0 + i) :: As) M (some v) M) (hst : As.reverse ++ .ref (n0 + i) :: rest = st0) (hn : As.length = n) (hw : (rest.map fun v => v.category).sum ≤ 8) (hd : decode cc pc = .ok (.invokevirtual idx, 3))
    (k : AW FT cc nL ret own kd (d + 1) lv (pc + 3) (v :: rest) M r M') : AW FT cc nL ret own kd (d + 1) lv pc st0 M r M' := by
  intro p l e R s m args below meth c H ls locs α D cy A hC hP hS hl2
  subst hn0
  obtain ⟨hx, hb, hml, hown, hts, hr, hlk, hE, hK, hR, hI, hAα, hA⟩ := id hC
  obtain ⟨hy1, hy2, hy3, hy4, hy5, hy6⟩ := hy
  obtain ⟨⟨hbl, hAB⟩, hpre⟩ := h_pre (av := .ref (kd.length + i) :: As) hP hS hK hE hAα hA
  have hT : GoodIn h_T (wsV own idx y.cls y (.code y bytes maxL ret' :: h_T)) := by
    intro w hw
    have hw' : w ∈ h_T := by
      simp only [wsV, List.cons_append, List.nil_append, List.mem_cons] at hw
      rcases hw with rfl | rfl | rfl | rfl | rfl | q
      · exact hl
      · exact hy4
      · exact hy5
      · exact hy3
      · exact hy2
      · exact q
    exact ⟨hw', good_of_word (List.mem_filter.mp hw').2⟩
  have hrun := va_runV (l := l) (e := e) (R := R) (below := below) (meth := meth) (H := H) (locs := locs) (cells := 0) (slots := 0) (g := F0 m pc ls (st0.map (h_v α))) (As := As.map (h_v α)) (rest := rest.map (h_v α)) ⟨hx, hb, hml, hown, hts⟩ (hM l α D cy H.size hI) (cwV n hts hT rfl rfl rfl ⟨rfl, hy1⟩ ⟨by have := hR.1; omega, by have := hR.2; show 8 + (maxL + 11) + d * 64 ≤ R.locals; omega⟩) ⟨hbl, by rw [hys]; exact vk_recv (adK := fun i => α (kd.length + i)) (i := i) hE.2.1 hi hS, hpre⟩ rfl (by rw [List.length_map]; exact hn) hl2.1 (by show st0.map (h_v α) = _; rw [← hst]; simp [h_v]) (lv_room (h_cats hw)) hd ⟨Nat.zero_le _, Nat.zero_le _⟩
  refine h_call hrun hS hAB (fun H1 locs1 hP1 hS1 => ?_)
  exact k p l e R s m args below meth c H1 ls locs1 α D cy A hC hP1 hS1 hl2
end HSv
section HSw
variable {FT : Nat → List Nat} {kd : List (Nat × Nat)} {n0 : Nat} {M : hMem}
def h_sl (i : Nat) : Int32 := Int32.ofNat (h_len.getD i 0)
def h_sc (i : Nat) (x : Int32) : Int32 := (h_byt.getD i []).getD x.toNatClampNeg 0
theorem sS_coder (hn : kd.length = n0) (d : Nat) {i : Nat} (hi : i < 11) : HMet FT yS_coder prog_22_method_152_code 1 (some .byte) kd d [.ref (n0 + i)] M (some (.int 0)) M := by
  refine HMet.of (by decide) (Nat.le_of_ble_eq_true rfl) ?_
  show AW FT prog_22_method_152_code 1 (some .byte) "java/lang/String" kd d [(0, .ref (n0 + i))] 0 [] M (some (.int 0)) M
  refine a_scomp dS_coder_0 ?_
  refine a_if_eq (tgt := 13) dS_coder_3 (by decide) (fun c => absurd c (by decide)) (fun c => ?_)
  refine a_aload_n dS_coder_6 rfl rfl ?_
  refine a_scod hi hn dS_coder_7 ?_
  refine a_goto (tgt := 14) dS_coder_10 (by decide) ?_
  exact a_nret (by decide +kernel) dS_coder_14
theorem sS_isLatin1 (hn : kd.length = n0) (d : Nat) {i : Nat} (hi : i < 11) : HMet FT yS_isLatin1 prog_22_method_154_code 1 (some .boolean) kd d [.ref (n0 + i)] M (some (.int 1)) M := by
  refine HMet.of (by decide) (Nat.le_of_ble_eq_true rfl) ?_
  show AW FT prog_22_method_154_code 1 (some .boolean) "java/lang/String" kd d [(0, .ref (n0 + i))] 0 [] M (some (.int 1)) M
  refine a_scomp dS_isLatin1_0 ?_
  refine a_if_eq (tgt := 17) dS_isLatin1_3 (by decide) (fun c => absurd c (by decide)) (fun c => ?_)
  refine a_aload_n dS_isLatin1_6 rfl rfl ?_
  refine a_scod hi hn dS_isLatin1_7 ?_
  refine a_if_ne (tgt := 17) dS_isLatin1_10 (by decide) (fun c => absurd rfl c) (fun c => ?_)
  refine a_iconst dS_isLatin1_13 ic_1 ?_
  refine a_goto (tgt := 18) dS_isLatin1_14 (by decide) ?_
  exact a_nret (by decide +kernel) dS_isLatin1_18
theorem h_shr0 : ∀ i, i < 11 → Int32.ofNat (h_len.getD i 0) >>> ((0 : Int32) &&& 31) = h_sl i := by decide +kernel
theorem sS_length (hn : kd.length = n0) (d : Nat) (hd : 1 ≤ d) {i : Nat} (hi : i < 11) : HMet FT yS_length prog_22_method_54_code 1 (some .int) kd d [.ref (n0 + i)] M (some (.int (h_sl i))) M := by
  obtain ⟨d, rfl, hd0⟩ := h_mono (D := 0) hd
  refine HMet.of (by decide) (Nat.le_of_ble_eq_true rfl) ?_
  show AW FT prog_22_method_54_code 1 (some .int) "java/lang/String" kd (d + 1) [(0, .ref (n0 + i))] 0 [] M (some (.int (h_sl i))) M
  refine a_aload_n dS_length_0 rfl rfl ?_
  refine a_sval hi hn dS_length_1 ?_
  refine a_slenB hi hn dS_length_4 ?_
  refine a_aload_n dS_length_5 rfl rfl ?_
  refine a_callVS [.int (Int32.ofNat (h_len.getD i 0))] yyS_coder rfl ml_String_335 hi hn (sS_coder hn d hi) rfl rfl (Nat.le_of_ble_eq_true rfl) dS_length_6 ?_
  refine a_ishr dS_length_9 ?_
  rw [h_shr0 i hi]
  exact a_iret dS_length_10
theorem sP_checkIndex (hn : kd.length = n0) (d : Nat) {x n : Int32} {v : Value} (hv : v.category = 1) (h0 : ¬ x < 0) (h1 : x < n) : HMet FT yP_checkIndex prog_30_method_11_code 3 (some .int) kd d [.int x, .int n, v] M (some (.int x)) M := by
  refine HMet.of (by decide) (by cases v <;> first | exact Nat.le_of_ble_eq_true rfl | cases hv) ?_
  have e1 : lv_args 0 [.int x, .int n, v] = [(0, .int x), (1, .int n), (2, v)] := rfl
  rw [e1]
  show AW FT prog_30_method_11_code 3 (some .int) "jdk/internal/util/Preconditions" kd d [(0, .int x), (1, .int n), (2, v)] 0 [] M (some (.int x)) M
  refine a_iload_n dP_checkIndex_0 rfl rfl ?_
  refine a_if_lt (tgt := 9) dP_checkIndex_1 (by decide) (fun c => absurd c h0) (fun c => ?_)
  refine a_iload_n dP_checkIndex_4 rfl rfl ?_
  refine a_iload_n dP_checkIndex_5 rfl rfl ?_
  refine a_icmp_lt (tgt := 16) dP_checkIndex_6 (by decide) (fun c => ?_) (fun c => absurd h1 c)
  refine a_iload_n dP_checkIndex_16 rfl rfl ?_
  exact a_iret dP_checkIndex_17
theorem sS_checkIndex (hn : kd.length = n0) (d : Nat) (hd : 1 ≤ d) {x n : Int32} (h0 : ¬ x < 0) (h1 : x < n) : HMet FT yS_checkIndex prog_22_method_155_code 2 none kd d [.int x, .int n] M none M := by
  obtain ⟨d, rfl, hd0⟩ := h_mono (D := 0) hd
  refine HMet.of (by decide) (Nat.le_of_ble_eq_true rfl) ?_
  show AW FT prog_22_method_155_code 2 none "java/lang/String" kd (d + 1) [(0, .int x), (1, .int n)] 0 [] M none M
  refine a_iload_n dS_checkIndex_0 rfl rfl ?_
  refine a_iload_n dS_checkIndex_1 rfl rfl ?_
  refine a_sfmt hn dS_checkIndex_2 ?_ ?_
  · refine a_callS1 [] yyP_checkIndex ml_String_1059 (sP_checkIndex (v := .null) hn d rfl h0 h1) rfl rfl (Nat.le_of_ble_eq_true rfl) dS_checkIndex_5 ?_
    refine a_pop dS_checkIndex_8 rfl ?_
    exact a_vret dS_checkIndex_9
  · refine a_callS1 [] yyP_checkIndex ml_String_1059 (sP_checkIndex (v := .ref (n0 + 22)) hn d rfl h0 h1) rfl rfl (Nat.le_of_ble_eq_true rfl) dS_checkIndex_5 ?_
    refine a_pop dS_checkIndex_8 rfl ?_
    exact a_vret dS_checkIndex_9
theorem h_ch0 : ∀ i, i < 11 → ∀ j, j < h_len.getD i 0 → (((h_byt.getD i []).getD j 0 &&& 255).toUInt32 % 65536).toInt32 = (h_byt.getD i []).getD j 0 ∧ narrow .char (.int ((h_byt.getD i []).getD j 0)) = .int ((h_byt.getD i []).getD j 0) := by decide +kernel
theorem h_lenlt : ∀ i, i < 11 → h_len.getD i 0 < 100 := by decide +kernel
theorem h_ltlen {x : Int32} {n : Nat} (hn : n < 100) (h : vp_in x n) : x < Int32.ofNat n := by
  obtain ⟨j, hj, rfl⟩ := vp_in_of h (by omega)
  exact nI_lt hj (by omega)
theorem sL_charAt (hn : kd.length = n0) (d : Nat) (hd : 2 ≤ d) {i : Nat} {x : Int32} (hi : i < 11) (hx : vp_in x (h_len.getD i 0)) : HMet FT yL_charAt prog_23_method_2_code 2 (some .char) kd d [.ref (n0 + 11 + i), .int x] M (some (.int (h_sc i x))) M := by
  obtain ⟨d, rfl, hd0⟩ := h_mono (D := 1) hd
  refine HMet.of (by decide) (Nat.le_of_ble_eq_true rfl) ?_
  show AW FT prog_23_method_2_code 2 (some .char) "java/lang/StringLatin1" kd (d + 1) [(0, .ref (n0 + 11 + i)), (1, .int x)] 0 [] M (some (.int (h_sc i x))) M
  refine a_iload_n dL_charAt_0 rfl rfl ?_
  refine a_aload_n dL_charAt_1 rfl rfl ?_
  refine a_slenB hi hn dL_charAt_2 ?_
  refine a_callS0 [] yyS_checkIndex ml_StringLatin1_9 (sS_checkIndex hn d hd0 (fun q => hx (Or.inl q)) (h_ltlen (h_lenlt i hi) hx)) rfl rfl (Nat.le_of_ble_eq_true rfl) dL_charAt_3 ?_
  refine a_aload_n dL_charAt_6 rfl rfl ?_
  refine a_iload_n dL_charAt_7 rfl rfl ?_
  refine a_sbald hi hx hn dL_charAt_8 ?_
  refine a_sipush dL_charAt_9 sq_255 ?_
  refine a_iand dL_charAt_12 ?_
  refine a_i2c dL_charAt_13 ?_
  have hz := h_ch0 i hi x.toNatClampNeg (h_in_lt hx)
  rw [hz.1]
  exact a_nret hz.2 dL_charAt_14
theorem sS_charAt (hn : kd.length = n0) (d : Nat) (hd : 3 ≤ d) {i : Nat} {x : Int32} (hi : i < 11) (hx : vp_in x (h_len.getD i 0)) : HMet FT yS_charAt prog_22_method_56_code 2 (some .char) kd d [.ref (n0 + i), .int x] M (some (.int (h_sc i x))) M := by
  obtain ⟨d, rfl, hd0⟩ := h_mono (D := 2) hd
  refine HMet.of (by decide) (Nat.le_of_ble_eq_true rfl) ?_
  show AW FT prog_22_method_56_code 2 (some .char) "java/lang/String" kd (d + 1) [(0, .ref (n0 + i)), (1, .int x)] 0 [] M (some (.int (h_sc i x))) M
  refine a_aload_n dS_charAt_0 rfl rfl ?_
  refine a_callVS [] yyS_isLatin1 rfl ml_String_492 hi hn (sS_isLatin1 hn d hi) rfl rfl (Nat.le_of_ble_eq_true rfl) dS_charAt_1 ?_
  refine a_if_eq (tgt := 16) dS_charAt_4 (by decide) (fun c => absurd c (by decide)) (fun c => ?_)
  refine a_aload_n dS_charAt_7 rfl rfl ?_
  refine a_sval hi hn dS_charAt_8 ?_
  refine a_iload_n dS_charAt_11 rfl rfl ?_
  refine a_callS1 [] yyL_charAt ml_String_495 (sL_charAt hn d hd0 hi hx) rfl rfl (Nat.le_of_ble_eq_true rfl) dS_charAt_12 ?_
  exact a_nret (h_ch0 i hi x.toNatClampNeg (h_in_lt hx)).2 dS_charAt_15
def mJ_compare (x y : Int64) : Int32 := if y ≤ x then (if x = y then 0 else 1) else -1
theorem sJ_compare (d : Nat) (hd : 0 ≤ d) (v0 v1 : Int64) : HMet FT yJ_compare prog_19_method_42_code 4 (some .int) kd d [.long v0, .long v1] M (some (.int (mJ_compare v0 v1))) M := by
  refine HMet.of (by decide) (Nat.le_of_ble_eq_true rfl) ?_
  show AW FT prog_19_method_42_code 4 (some .int) "java/lang/Long" kd d [(0, .long v0), (2, .long v1)] 0 [] M (some (.int (mJ_compare v0 v1))) M
  obtain ⟨q, h⟩ : ∃ q, mJ_compare v0 v1 = q := ⟨_, rfl⟩
  rw [h]
  unfold mJ_compare at h
  refine a_lload_n dJ_compare_0 rfl rfl ?_
  refine a_lload_n dJ_compare_1 rfl rfl ?_
  refine a_lcmp_ge (tgt := 10) dJ_compare_2 dJ_compare_3 (by decide) (fun c => ?_) (fun c => ?_)
  · replace h := h_iteT c h
    refine a_lload_n dJ_compare_10 rfl rfl ?_
    refine a_lload_n dJ_compare_11 rfl rfl ?_
    refine a_lcmp_ne (tgt := 20) dJ_compare_12 dJ_compare_13 (by decide) (fun c => ?_) (fun c => ?_)
    · replace h := h_iteF c h
      refine a_iconst dJ_compare_20 ic_1 ?_
      cases h
      exact a_iret dJ_compare_21
    · replace h := h_iteT c h
      refine a_iconst dJ_compare_16 ic_0 ?_
      refine a_goto (tgt := 21) dJ_compare_17 (by decide) ?_
      cases h
      exact a_iret dJ_compare_21
  · replace h := h_iteF c h
    refine a_iconst dJ_compare_6 ic_m1 ?_
    refine a_goto (tgt := 21) dJ_compare_7 (by decide) ?_
    cases h
    exact a_iret dJ_compare_21
def mJ_bitCount (v0 : Int32) : Int32 :=
  h_let (v0 - ((v0.toUInt32 >>> ((1 : Int32).toUInt32 &&& Int32.toUInt32 31)).toInt32 &&& 1431655765)) fun a =>
  h_let ((a &&& 858993459) + ((a.toUInt32 >>> ((2 : Int32).toUInt32 &&& Int32.toUInt32 31)).toInt32 &&& 858993459)) fun b =>
  h_let ((b + (b.toUInt32 >>> ((4 : Int32).toUInt32 &&& Int32.toUInt32 31)).toInt32) &&& 252645135) fun c =>
  h_let (c + (c.toUInt32 >>> ((8 : Int32).toUInt32 &&& Int32.toUInt32 31)).toInt32) fun e =>
  h_let (e + (e.toUInt32 >>> ((16 : Int32).toUInt32 &&& Int32.toUInt32 31)).toInt32) fun f =>
  f &&& 63
theorem sJ_bitCount (d : Nat) (hd : 0 ≤ d) (v0 : Int32) : HMet FT yJ_bitCount prog_18_method_49_code 1 (some .int) kd d [.int v0] M (some (.int (mJ_bitCount v0))) M := by
  refine HMet.of (by decide) (Nat.le_of_ble_eq_true rfl) ?_
  show AW FT prog_18_method_49_code 1 (some .int) "java/lang/Integer" kd d [(0, .int v0)] 0 [] M (some (.int (mJ_bitCount v0))) M
  obtain ⟨q, h⟩ : ∃ q, mJ_bitCount v0 = q := ⟨_, rfl⟩
  rw [h]
  unfold mJ_bitCount at h
  refine a_iload_n dJ_bitCount_0 rfl rfl ?_
  refine a_iload_n dJ_bitCount_1 rfl rfl ?_
  refine a_iconst dJ_bitCount_2 ic_1 ?_
  refine a_iushr dJ_bitCount_3 ?_
  refine a_ldc_w cn_Integer_265 dJ_bitCount_4 ?_
  refine a_iand dJ_bitCount_7 ?_
  refine a_isub dJ_bitCount_8 ?_
  obtain ⟨a, ea, h⟩ := h_letS h
  refine a_topI ea ?_
  refine a_istore_n (lv' := [(0, .int a)]) dJ_bitCount_9 rfl (by decide) rfl ?_
  refine a_iload_n dJ_bitCount_10 rfl rfl ?_
  refine a_ldc_w cn_Integer_266 dJ_bitCount_11 ?_
  refine a_iand dJ_bitCount_14 ?_
  refine a_iload_n dJ_bitCount_15 rfl rfl ?_
  refine a_iconst dJ_bitCount_16 ic_2 ?_
  refine a_iushr dJ_bitCount_17 ?_
  refine a_ldc_w cn_Integer_266 dJ_bitCount_18 ?_
  refine a_iand dJ_bitCount_21 ?_
  refine a_iadd dJ_bitCount_22 ?_
  obtain ⟨b, eb, h⟩ := h_letS h
  refine a_topI eb ?_
  refine a_istore_n (lv' := [(0, .int b)]) dJ_bitCount_23 rfl (by decide) rfl ?_
  refine a_iload_n dJ_bitCount_24 rfl rfl ?_
  refine a_iload_n dJ_bitCount_25 rfl rfl ?_
  refine a_iconst dJ_bitCount_26 ic_4 ?_
  refine a_iushr dJ_bitCount_27 ?_
  refine a_iadd dJ_bitCount_28 ?_
  refine a_ldc_w cn_Integer_267 dJ_bitCount_29 ?_
  refine a_iand dJ_bitCount_32 ?_
  obtain ⟨c, ec, h⟩ := h_letS h
  refine a_topI ec ?_
  refine a_istore_n (lv' := [(0, .int c)]) dJ_bitCount_33 rfl (by decide) rfl ?_
  refine a_iload_n dJ_bitCount_34 rfl rfl ?_
  refine a_iload_n dJ_bitCount_35 rfl rfl ?_
  refine a_bipush dJ_bitCount_36 bp_8 ?_
  refine a_iushr dJ_bitCount_38 ?_
  refine a_iadd dJ_bitCount_39 ?_
  obtain ⟨e, ee, h⟩ := h_letS h
  refine a_topI ee ?_
  refine a_istore_n (lv' := [(0, .int e)]) dJ_bitCount_40 rfl (by decide) rfl ?_
  refine a_iload_n dJ_bitCount_41 rfl rfl ?_
  refine a_iload_n dJ_bitCount_42 rfl rfl ?_
  refine a_bipush dJ_bitCount_43 bp_16 ?_
  refine a_iushr dJ_bitCount_45 ?_
  refine a_iadd dJ_bitCount_46 ?_
  obtain ⟨f, ef, h⟩ := h_letS h
  refine a_topI ef ?_
  refine a_istore_n (lv' := [(0, .int f)]) dJ_bitCount_47 rfl (by decide) rfl ?_
  refine a_iload_n dJ_bitCount_48 rfl rfl ?_
  refine a_bipush dJ_bitCount_49 bp_63 ?_
  refine a_iand dJ_bitCount_51 ?_
  cases h
  exact a_iret dJ_bitCount_52
end HSw
section HSx
variable {FT : Nat → List Nat} {cc : ByteArray} {nL : Nat} {ret : Option FieldType} {own : String} {kd : List (Nat × Nat)} {d : Nat} {lv : List (Nat × Value)} {pc n0 : Nat} {st : List Value} {M : hMem} {r : Option Value} {M' : hMem}
theorem a_slen {i idx : Nat} (hi : i < 11) (hn : kd.length = n0) (hl : Cond.methodLink own idx yS_length ∈ h_T) (hw : (st.map fun v => v.category).sum ≤ 8) (h6 : 6 ≤ d) (hd : decode cc pc = .ok (.invokevirtual idx, 3)) (k : AW FT cc nL ret own kd (d + 1) lv (pc + 3) (.int (h_sl i) :: st) M r M') : AW FT cc nL ret own kd (d + 1) lv pc (.ref (n0 + i) :: st) M r M' := a_callVS st yyS_length rfl hl hi hn (sS_length hn d (by omega) hi) rfl rfl hw hd k
theorem a_schar {i idx : Nat} {x : Int32} (hi : i < 11) (hn : kd.length = n0) (hl : Cond.methodLink own idx yS_charAt ∈ h_T) (hx : vp_in x (h_len.getD i 0)) (hw : (st.map fun v => v.category).sum ≤ 8) (h6 : 6 ≤ d) (hd : decode cc pc = .ok (.invokevirtual idx, 3)) (k : AW FT cc nL ret own kd (d + 1) lv (pc + 3) (.int (h_sc i x) :: st) M r M') : AW FT cc nL ret own kd (d + 1) lv pc (.int x :: .ref (n0 + i) :: st) M r M' := a_callVS st yyS_charAt rfl hl hi hn (sS_charAt hn d (by omega) hi hx) rfl rfl hw hd k
theorem w_ac1 : Cond.static arraycopyName ∈ h_T := hs_5 118 rfl rfl
theorem w_ac2 : Cond.native arraycopyName ∈ h_T := hs_5 119 rfl rfl
theorem w_ac3 : Cond.initialized "java/lang/System" ∈ h_T := hs_1 23 rfl rfl
theorem a_copyJ {I : Nat → Nat → Int32} {J : Nat → Nat → Int64} {Rf : Nat → Nat → Option Nat} {a0 a1 n0 n1 idx : Nat} {n : Int32} (hk0 : kd[a0]? = some (1, n0)) (hk1 : kd[a1]? = some (1, n1)) (hl : Cond.methodLink own idx arraycopyName ∈ h_T) (h3 : ¬ n < 0) (h4 : n.toNatClampNeg ≤ n0) (h5 : n.toNatClampNeg ≤ n1) (hw : (st.map fun v => v.category).sum ≤ 8) (hd : decode cc pc = .ok (.invokestatic idx, 3)) (k : AW FT cc nL ret own kd (d + 1) lv (pc + 3) st (I, h_cp J a0 0 a1 0 n.toNatClampNeg, Rf) r M') : AW FT cc nL ret own kd (d + 1) lv pc (.int n :: .int 0 :: .ref a1 :: .int 0 :: .ref a0 :: st) (I, J, Rf) r M' := by
  intro p l e R s m args below meth c H ls locs α D cy A hC hP hS hl2
  have hD := h_wD (FT := FT) (cy := cy) (I, J, Rf) hC.2.2.2.2.2.2.2.2.2.2.1 hC.2.2.2.2.2.2.2.2.2.2.2.1
  have hR := hC.2.2.2.2.2.2.2.2.2.1
  have hc8 := h_cats (α := α) hw
  have hnf : nativeFrameWords "java/lang/System" "arraycopy" 5 ≤ 20 := by decide +kernel
  have hR1 := hR.1
  have hR2 := hR.2
  have z0 : ((0 : Int32).toNatClampNeg) = 0 := by decide
  refine va_copyl (sp := 0) (dp := 0) (n := n) hC.1 hC.2.1 (hC.2.2.1.trans hl2.1.symm) hC.2.2.2.1 (hC.2.2.2.2.1 _ hl) (hC.2.2.2.2.1 _ w_ac2) (hC.2.2.2.2.1 _ w_ac1) (hC.2.2.2.2.1 _ w_ac3) hC.2.2.2.2.2.2.2.2.1 hP hD hS a0 a1 1 1 (h_w_at hk0) (h_w_at hk1) rfl rfl rfl (by decide) (by decide) h3 (by rw [z0]; omega) (by rw [z0]; omega) (fun _ _ => rfl) (by omega) (by omega) hd (fun H locs hP1 _ hS => ?_)
  have e1 : (h_w FT kd cy α (I, J, Rf)).set a1 (α a1, .inl (cy 1, n1, .inr (.inl (va_cpy (J a0) (J a1) 0 0 n.toNatClampNeg)))) = h_w FT kd cy α (I, h_cp J a0 0 a1 0 n.toNatClampNeg, Rf) := by
    refine h_w_set hk1 ?_ ?_
    · show (Sum.inl (cy 1, n1, .inr (.inl (h_cp J a0 0 a1 0 n.toNatClampNeg a1))) : va_E) = _
      have : h_cp J a0 0 a1 0 n.toNatClampNeg a1 = va_cpy (J a0) (J a1) 0 0 n.toNatClampNeg := by funext j; simp [h_cp]
      rw [this]
    · intro j u hj
      have ho : h_cp J a0 0 a1 0 n.toNatClampNeg j = J j := by funext i; simp [h_cp, hj]
      obtain ⟨u1, u2⟩ := u
      have hfs : ∀ l, h_fs α (I, h_cp J a0 0 a1 0 n.toNatClampNeg, Rf) j l = h_fs α (I, J, Rf) j l := by
        intro l
        unfold h_fs
        congr 1
        funext q
        obtain ⟨t, i0⟩ := q
        match t with
        | 0 => simp [h_fv]
        | 1 => simp [h_fv, ho]
        | t + 2 => simp [h_fv]
      match u1 with
      | 0 => simp [h_cell]
      | 1 => simp [h_cell, ho]
      | 2 => simp [h_cell]
      | 3 => simp [h_cell]
      | 4 => simp [h_cell]
      | c + 5 => simp [h_cell, hfs]
  rw [z0, e1] at hP1
  exact k p l e R s m args below meth c H ls locs α D cy A hC hP1 hS hl2
end HSx
theorem h_tb4 {x : Int32} (n0 : ¬ x = 0) (n1 : ¬ x = 1) (n2 : ¬ x = 2) (n3 : ¬ x = 3) : x.toInt < 0 ∨ 3 < x.toInt := by
  have t : ∀ k : Int32, ¬ x = k → x.toInt ≠ k.toInt := fun k h e => h (Int32.toInt_inj.mp e)
  have z0 : x.toInt ≠ 0 := t 0 n0
  have z1 : x.toInt ≠ 1 := t 1 n1
  have z2 : x.toInt ≠ 2 := t 2 n2
  have z3 : x.toInt ≠ 3 := t 3 n3
  omega
theorem h_tb6 {x : Int32} (n0 : ¬ x = 0) (n1 : ¬ x = 1) (n2 : ¬ x = 2) (n3 : ¬ x = 3) (n4 : ¬ x = 4) (n5 : ¬ x = 5) : x.toInt < 0 ∨ 5 < x.toInt := by
  have t : ∀ k : Int32, ¬ x = k → x.toInt ≠ k.toInt := fun k h e => h (Int32.toInt_inj.mp e)
  have z0 : x.toInt ≠ 0 := t 0 n0
  have z1 : x.toInt ≠ 1 := t 1 n1
  have z2 : x.toInt ≠ 2 := t 2 n2
  have z3 : x.toInt ≠ 3 := t 3 n3
  have z4 : x.toInt ≠ 4 := t 4 n4
  have z5 : x.toInt ≠ 5 := t 5 n5
  omega
theorem h_tb8 {x : Int32} (n0 : ¬ x = 0) (n1 : ¬ x = 1) (n2 : ¬ x = 2) (n3 : ¬ x = 3) (n4 : ¬ x = 4) (n5 : ¬ x = 5) (n6 : ¬ x = 6) (n7 : ¬ x = 7) : x.toInt < 0 ∨ 7 < x.toInt := by
  have t : ∀ k : Int32, ¬ x = k → x.toInt ≠ k.toInt := fun k h e => h (Int32.toInt_inj.mp e)
  have z0 : x.toInt ≠ 0 := t 0 n0
  have z1 : x.toInt ≠ 1 := t 1 n1
  have z2 : x.toInt ≠ 2 := t 2 n2
  have z3 : x.toInt ≠ 3 := t 3 n3
  have z4 : x.toInt ≠ 4 := t 4 n4
  have z5 : x.toInt ≠ 5 := t 5 n5
  have z6 : x.toInt ≠ 6 := t 6 n6
  have z7 : x.toInt ≠ 7 := t 7 n7
  omega
theorem h_tb258_7 {x : Int32} (n258 : ¬ x = 258) (n259 : ¬ x = 259) (n260 : ¬ x = 260) (n261 : ¬ x = 261) (n262 : ¬ x = 262) (n263 : ¬ x = 263) (n264 : ¬ x = 264) : x.toInt < 258 ∨ 264 < x.toInt := by
  have t : ∀ k : Int32, ¬ x = k → x.toInt ≠ k.toInt := fun k h e => h (Int32.toInt_inj.mp e)
  have z258 : x.toInt ≠ 258 := t 258 n258
  have z259 : x.toInt ≠ 259 := t 259 n259
  have z260 : x.toInt ≠ 260 := t 260 n260
  have z261 : x.toInt ≠ 261 := t 261 n261
  have z262 : x.toInt ≠ 262 := t 262 n262
  have z263 : x.toInt ≠ 263 := t 263 n263
  have z264 : x.toInt ≠ 264 := t 264 n264
  omega
theorem h_tb258_8 {x : Int32} (n258 : ¬ x = 258) (n259 : ¬ x = 259) (n260 : ¬ x = 260) (n261 : ¬ x = 261) (n262 : ¬ x = 262) (n263 : ¬ x = 263) (n264 : ¬ x = 264) (n265 : ¬ x = 265) : x.toInt < 258 ∨ 265 < x.toInt := by
  have t : ∀ k : Int32, ¬ x = k → x.toInt ≠ k.toInt := fun k h e => h (Int32.toInt_inj.mp e)
  have z258 : x.toInt ≠ 258 := t 258 n258
  have z259 : x.toInt ≠ 259 := t 259 n259
  have z260 : x.toInt ≠ 260 := t 260 n260
  have z261 : x.toInt ≠ 261 := t 261 n261
  have z262 : x.toInt ≠ 262 := t 262 n262
  have z263 : x.toInt ≠ 263 := t 263 n263
  have z264 : x.toInt ≠ 264 := t 264 n264
  have z265 : x.toInt ≠ 265 := t 265 n265
  omega
