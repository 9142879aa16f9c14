/-! the JDK's methods that the law reaches: names, words, decode rows; the law's constants: by program (wip/p32/jdk.py) -/
abbrev b_JS_length : ByteArray := prog_12_method_54_code
def y_JS_length : MethodName := ⟨R_JS, "length", "()I"⟩
theorem mi_JS_length : MIv y_JS_length 0 b_JS_length 1 (some .int) := ⟨⟨⟨by decide +kernel, by decide +kernel, by decide +kernel⟩, tb_t 31 (by decide +kernel) rfl, tb_t 435 (by decide +kernel) rfl⟩, tb_t 433 (by decide +kernel) rfl, tb_t 434 (by decide +kernel) rfl⟩
theorem d_JS_length_0 : decode b_JS_length 0 = .ok (.aload_n 0, 1) := by decide +kernel
theorem d_JS_length_1 : decode b_JS_length 1 = .ok (.getfield 9, 3) := by decide +kernel
theorem d_JS_length_4 : decode b_JS_length 4 = .ok (.arraylength, 1) := by decide +kernel
theorem d_JS_length_5 : decode b_JS_length 5 = .ok (.aload_n 0, 1) := by decide +kernel
theorem d_JS_length_6 : decode b_JS_length 6 = .ok (.invokevirtual 335, 3) := by decide +kernel
theorem d_JS_length_9 : decode b_JS_length 9 = .ok (.ishr, 1) := by decide +kernel
theorem d_JS_length_10 : decode b_JS_length 10 = .ok (.ireturn, 1) := by decide +kernel
abbrev b_JS_coder : ByteArray := prog_12_method_152_code
def y_JS_coder : MethodName := ⟨R_JS, "coder", "()B"⟩
theorem mi_JS_coder : MIv y_JS_coder 0 b_JS_coder 1 (some .byte) := ⟨⟨⟨by decide +kernel, by decide +kernel, by decide +kernel⟩, tb_t 31 (by decide +kernel) rfl, tb_t 439 (by decide +kernel) rfl⟩, tb_t 437 (by decide +kernel) rfl, tb_t 438 (by decide +kernel) rfl⟩
theorem d_JS_coder_0 : decode b_JS_coder 0 = .ok (.getstatic 38, 3) := by decide +kernel
theorem d_JS_coder_3 : decode b_JS_coder 3 = .ok (.ifCond .eq 10, 3) := by decide +kernel
theorem d_JS_coder_6 : decode b_JS_coder 6 = .ok (.aload_n 0, 1) := by decide +kernel
theorem d_JS_coder_7 : decode b_JS_coder 7 = .ok (.getfield 15, 3) := by decide +kernel
theorem d_JS_coder_10 : decode b_JS_coder 10 = .ok (.goto 4, 3) := by decide +kernel
theorem d_JS_coder_13 : decode b_JS_coder 13 = .ok (.iconst 1, 1) := by decide +kernel
theorem d_JS_coder_14 : decode b_JS_coder 14 = .ok (.ireturn, 1) := by decide +kernel
abbrev b_JS_charAt : ByteArray := prog_12_method_56_code
def y_JS_charAt : MethodName := ⟨R_JS, "charAt", "(I)C"⟩
theorem mi_JS_charAt : MIv y_JS_charAt 1 b_JS_charAt 2 (some .char) := ⟨⟨⟨by decide +kernel, by decide +kernel, by decide +kernel⟩, tb_t 31 (by decide +kernel) rfl, tb_t 445 (by decide +kernel) rfl⟩, tb_t 443 (by decide +kernel) rfl, tb_t 444 (by decide +kernel) rfl⟩
theorem d_JS_charAt_0 : decode b_JS_charAt 0 = .ok (.aload_n 0, 1) := by decide +kernel
theorem d_JS_charAt_1 : decode b_JS_charAt 1 = .ok (.invokevirtual 492, 3) := by decide +kernel
theorem d_JS_charAt_4 : decode b_JS_charAt 4 = .ok (.ifCond .eq 12, 3) := by decide +kernel
theorem d_JS_charAt_7 : decode b_JS_charAt 7 = .ok (.aload_n 0, 1) := by decide +kernel
theorem d_JS_charAt_8 : decode b_JS_charAt 8 = .ok (.getfield 9, 3) := by decide +kernel
theorem d_JS_charAt_11 : decode b_JS_charAt 11 = .ok (.iload_n 1, 1) := by decide +kernel
theorem d_JS_charAt_12 : decode b_JS_charAt 12 = .ok (.invokestatic 495, 3) := by decide +kernel
theorem d_JS_charAt_15 : decode b_JS_charAt 15 = .ok (.ireturn, 1) := by decide +kernel
theorem d_JS_charAt_16 : decode b_JS_charAt 16 = .ok (.aload_n 0, 1) := by decide +kernel
theorem d_JS_charAt_17 : decode b_JS_charAt 17 = .ok (.getfield 9, 3) := by decide +kernel
theorem d_JS_charAt_20 : decode b_JS_charAt 20 = .ok (.iload_n 1, 1) := by decide +kernel
theorem d_JS_charAt_21 : decode b_JS_charAt 21 = .ok (.invokestatic 498, 3) := by decide +kernel
theorem d_JS_charAt_24 : decode b_JS_charAt 24 = .ok (.ireturn, 1) := by decide +kernel
abbrev b_JS_isLatin1 : ByteArray := prog_12_method_154_code
def y_JS_isLatin1 : MethodName := ⟨R_JS, "isLatin1", "()Z"⟩
theorem mi_JS_isLatin1 : MIv y_JS_isLatin1 0 b_JS_isLatin1 1 (some .boolean) := ⟨⟨⟨by decide +kernel, by decide +kernel, by decide +kernel⟩, tb_t 31 (by decide +kernel) rfl, tb_t 449 (by decide +kernel) rfl⟩, tb_t 447 (by decide +kernel) rfl, tb_t 448 (by decide +kernel) rfl⟩
theorem d_JS_isLatin1_0 : decode b_JS_isLatin1 0 = .ok (.getstatic 38, 3) := by decide +kernel
theorem d_JS_isLatin1_3 : decode b_JS_isLatin1 3 = .ok (.ifCond .eq 14, 3) := by decide +kernel
theorem d_JS_isLatin1_6 : decode b_JS_isLatin1 6 = .ok (.aload_n 0, 1) := by decide +kernel
theorem d_JS_isLatin1_7 : decode b_JS_isLatin1 7 = .ok (.getfield 15, 3) := by decide +kernel
theorem d_JS_isLatin1_10 : decode b_JS_isLatin1 10 = .ok (.ifCond .ne 7, 3) := by decide +kernel
theorem d_JS_isLatin1_13 : decode b_JS_isLatin1 13 = .ok (.iconst 1, 1) := by decide +kernel
theorem d_JS_isLatin1_14 : decode b_JS_isLatin1 14 = .ok (.goto 4, 3) := by decide +kernel
theorem d_JS_isLatin1_17 : decode b_JS_isLatin1 17 = .ok (.iconst 0, 1) := by decide +kernel
theorem d_JS_isLatin1_18 : decode b_JS_isLatin1 18 = .ok (.ireturn, 1) := by decide +kernel
abbrev b_JS_checkIndex : ByteArray := prog_12_method_155_code
def y_JS_checkIndex : MethodName := ⟨R_JS, "checkIndex", "(II)V"⟩
theorem mi_JS_checkIndex : MIs y_JS_checkIndex 2 b_JS_checkIndex 2 none := ⟨⟨⟨by decide +kernel, by decide +kernel, by decide +kernel⟩, tb_t 31 (by decide +kernel) rfl, tb_t 455 (by decide +kernel) rfl⟩, tb_t 454 (by decide +kernel) rfl⟩
theorem d_JS_checkIndex_0 : decode b_JS_checkIndex 0 = .ok (.iload_n 0, 1) := by decide +kernel
theorem d_JS_checkIndex_1 : decode b_JS_checkIndex 1 = .ok (.iload_n 1, 1) := by decide +kernel
theorem d_JS_checkIndex_2 : decode b_JS_checkIndex 2 = .ok (.getstatic 1053, 3) := by decide +kernel
theorem d_JS_checkIndex_5 : decode b_JS_checkIndex 5 = .ok (.invokestatic 1059, 3) := by decide +kernel
theorem d_JS_checkIndex_8 : decode b_JS_checkIndex 8 = .ok (.pop, 1) := by decide +kernel
theorem d_JS_checkIndex_9 : decode b_JS_checkIndex 9 = .ok (.return_, 1) := by decide +kernel
abbrev b_JL_charAt : ByteArray := prog_13_method_2_code
def y_JL_charAt : MethodName := ⟨R_JL, "charAt", "([BI)C"⟩
theorem mi_JL_charAt : MIs y_JL_charAt 2 b_JL_charAt 2 (some .char) := ⟨⟨⟨by decide +kernel, by decide +kernel, by decide +kernel⟩, tb_t 32 (by decide +kernel) rfl, tb_t 452 (by decide +kernel) rfl⟩, tb_t 451 (by decide +kernel) rfl⟩
theorem d_JL_charAt_0 : decode b_JL_charAt 0 = .ok (.iload_n 1, 1) := by decide +kernel
theorem d_JL_charAt_1 : decode b_JL_charAt 1 = .ok (.aload_n 0, 1) := by decide +kernel
theorem d_JL_charAt_2 : decode b_JL_charAt 2 = .ok (.arraylength, 1) := by decide +kernel
theorem d_JL_charAt_3 : decode b_JL_charAt 3 = .ok (.invokestatic 9, 3) := by decide +kernel
theorem d_JL_charAt_6 : decode b_JL_charAt 6 = .ok (.aload_n 0, 1) := by decide +kernel
theorem d_JL_charAt_7 : decode b_JL_charAt 7 = .ok (.iload_n 1, 1) := by decide +kernel
theorem d_JL_charAt_8 : decode b_JL_charAt 8 = .ok (.baload, 1) := by decide +kernel
theorem d_JL_charAt_9 : decode b_JL_charAt 9 = .ok (.sipush 255, 3) := by decide +kernel
theorem d_JL_charAt_12 : decode b_JL_charAt 12 = .ok (.iand, 1) := by decide +kernel
theorem d_JL_charAt_13 : decode b_JL_charAt 13 = .ok (.i2c, 1) := by decide +kernel
theorem d_JL_charAt_14 : decode b_JL_charAt 14 = .ok (.ireturn, 1) := by decide +kernel
abbrev b_JP_checkIndex : ByteArray := prog_15_method_11_code
def y_JP_checkIndex : MethodName := ⟨R_JP, "checkIndex", "(IILjava/util/function/BiFunction;)I"⟩
theorem mi_JP_checkIndex : MIs y_JP_checkIndex 3 b_JP_checkIndex 3 (some .int) := ⟨⟨⟨by decide +kernel, by decide +kernel, by decide +kernel⟩, tb_t 33 (by decide +kernel) rfl, tb_t 460 (by decide +kernel) rfl⟩, tb_t 459 (by decide +kernel) rfl⟩
theorem d_JP_checkIndex_0 : decode b_JP_checkIndex 0 = .ok (.iload_n 0, 1) := by decide +kernel
theorem d_JP_checkIndex_1 : decode b_JP_checkIndex 1 = .ok (.ifCond .lt 8, 3) := by decide +kernel
theorem d_JP_checkIndex_4 : decode b_JP_checkIndex 4 = .ok (.iload_n 0, 1) := by decide +kernel
theorem d_JP_checkIndex_5 : decode b_JP_checkIndex 5 = .ok (.iload_n 1, 1) := by decide +kernel
theorem d_JP_checkIndex_6 : decode b_JP_checkIndex 6 = .ok (.if_icmp .lt 10, 3) := by decide +kernel
theorem d_JP_checkIndex_9 : decode b_JP_checkIndex 9 = .ok (.aload_n 2, 1) := by decide +kernel
theorem d_JP_checkIndex_10 : decode b_JP_checkIndex 10 = .ok (.iload_n 0, 1) := by decide +kernel
theorem d_JP_checkIndex_11 : decode b_JP_checkIndex 11 = .ok (.iload_n 1, 1) := by decide +kernel
theorem d_JP_checkIndex_12 : decode b_JP_checkIndex 12 = .ok (.invokestatic 95, 3) := by decide +kernel
theorem d_JP_checkIndex_15 : decode b_JP_checkIndex 15 = .ok (.athrow, 1) := by decide +kernel
theorem d_JP_checkIndex_16 : decode b_JP_checkIndex 16 = .ok (.iload_n 0, 1) := by decide +kernel
theorem d_JP_checkIndex_17 : decode b_JP_checkIndex 17 = .ok (.ireturn, 1) := by decide +kernel
abbrev b_JM_abs : ByteArray := prog_11_method_64_code
def y_JM_abs : MethodName := ⟨R_JM, "abs", "(D)D"⟩
theorem mi_JM_abs : MIs y_JM_abs 1 b_JM_abs 2 (some .double) := ⟨⟨⟨by decide +kernel, by decide +kernel, by decide +kernel⟩, tb_t 30 (by decide +kernel) rfl, tb_t 780 (by decide +kernel) rfl⟩, tb_t 779 (by decide +kernel) rfl⟩
theorem d_JM_abs_0 : decode b_JM_abs 0 = .ok (.dload_n 0, 1) := by decide +kernel
theorem d_JM_abs_1 : decode b_JM_abs 1 = .ok (.invokestatic 79, 3) := by decide +kernel
theorem d_JM_abs_4 : decode b_JM_abs 4 = .ok (.ldc2_w 135, 3) := by decide +kernel
theorem d_JM_abs_7 : decode b_JM_abs 7 = .ok (.land, 1) := by decide +kernel
theorem d_JM_abs_8 : decode b_JM_abs 8 = .ok (.invokestatic 166, 3) := by decide +kernel
theorem d_JM_abs_11 : decode b_JM_abs 11 = .ok (.dreturn, 1) := by decide +kernel
theorem kc_L_7 : Cond.constant R_L 7 (65535) ∈ TB := tb_t 382 (by decide +kernel) rfl
theorem kd_L_130 : Cond.constantDouble R_L 130 (4652007308841189376) ∈ TB := tb_t 788 (by decide +kernel) rfl
theorem kd_L_132 : Cond.constantDouble R_L 132 (4517329193108106637) ∈ TB := tb_t 789 (by decide +kernel) rfl
theorem st_doubleToRawLongBits : Cond.static ⟨"java/lang/Double", "doubleToRawLongBits", "(D)J"⟩ ∈ TB := tb_t 782 (by decide +kernel) rfl
theorem na_doubleToRawLongBits : Cond.native ⟨"java/lang/Double", "doubleToRawLongBits", "(D)J"⟩ ∈ TB := tb_t 783 (by decide +kernel) rfl
theorem st_longBitsToDouble : Cond.static ⟨"java/lang/Double", "longBitsToDouble", "(J)D"⟩ ∈ TB := tb_t 786 (by decide +kernel) rfl
theorem na_longBitsToDouble : Cond.native ⟨"java/lang/Double", "longBitsToDouble", "(J)D"⟩ ∈ TB := tb_t 787 (by decide +kernel) rfl
def TLN : List Nat := [15, 9, 6, 14, 7, 11, 11, 5, 1, 9]
def TBY : List (List Int32) := [[119, 32, 50, 48, 59, 119, 32, 51, 48, 59, 116, 32, 48, 44, 49], [119, 32, 45, 54, 48, 59, 112, 32, 50], [120, 59, 119, 32, 49, 55], [115, 32, 48, 44, 45, 50, 48, 59, 115, 32, 49, 44, 51, 48], [112, 32, 48, 59, 119, 32, 57], [116, 32, 48, 44, 49, 59, 116, 32, 49, 44, 48], [116, 32, 48, 44, 50, 59, 116, 32, 50, 44, 49], [119, 32, 50, 48, 48], [119], [115, 32, 48, 44, 49, 48, 49, 59, 120]]
def tLen (k : Nat) : Nat := TLN.getD k 0
def tCh (k j : Nat) : Int32 := ((((TBY.getD k []).getD j 0) &&& 255).toUInt32 % 65536).toInt32
-- string words at [792, 794, 795, 796, 797, 798, 799, 800, 801, 802]
