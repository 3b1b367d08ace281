def RJ0 : String := "java/lang/String"
abbrev cJ0_length_8abf5 : ByteArray := prog_18_method_54_code
def yJ0_length_8abf5 : MethodName := ⟨RJ0, "length", "()I"⟩
abbrev cJ0_charAt_5068e : ByteArray := prog_18_method_56_code
def yJ0_charAt_5068e : MethodName := ⟨RJ0, "charAt", "(I)C"⟩
abbrev cJ0_indexOf_0f7a4 : ByteArray := prog_18_method_79_code
def yJ0_indexOf_0f7a4 : MethodName := ⟨RJ0, "indexOf", "(I)I"⟩
abbrev cJ0_indexOf_7cf53 : ByteArray := prog_18_method_80_code
def yJ0_indexOf_7cf53 : MethodName := ⟨RJ0, "indexOf", "(II)I"⟩
abbrev cJ0_coder_7d493 : ByteArray := prog_18_method_152_code
def yJ0_coder_7d493 : MethodName := ⟨RJ0, "coder", "()B"⟩
abbrev cJ0_isLatin1_aae02 : ByteArray := prog_18_method_154_code
def yJ0_isLatin1_aae02 : MethodName := ⟨RJ0, "isLatin1", "()Z"⟩
abbrev cJ0_checkIndex_df160 : ByteArray := prog_18_method_155_code
def yJ0_checkIndex_df160 : MethodName := ⟨RJ0, "checkIndex", "(II)V"⟩
def RJ1 : String := "java/lang/StringLatin1"
abbrev cJ1_charAt_3b067 : ByteArray := prog_19_method_2_code
def yJ1_charAt_3b067 : MethodName := ⟨RJ1, "charAt", "([BI)C"⟩
abbrev cJ1_canEncode_9a6ad : ByteArray := prog_19_method_4_code
def yJ1_canEncode_9a6ad : MethodName := ⟨RJ1, "canEncode", "(I)Z"⟩
abbrev cJ1_indexOf_4cfef : ByteArray := prog_19_method_22_code
def yJ1_indexOf_4cfef : MethodName := ⟨RJ1, "indexOf", "([BIII)I"⟩
abbrev cJ1_indexOfChar_4cfef : ByteArray := prog_19_method_23_code
def yJ1_indexOfChar_4cfef : MethodName := ⟨RJ1, "indexOfChar", "([BIII)I"⟩
def RJ3 : String := "jdk/internal/util/Preconditions"
abbrev cJ3_checkIndex_8e157 : ByteArray := prog_22_method_11_code
def yJ3_checkIndex_8e157 : MethodName := ⟨RJ3, "checkIndex", "(IILjava/util/function/BiFunction;)I"⟩
def mJ0_length_8abf5 : XM := (yJ0_length_8abf5, cJ0_length_8abf5, 1, some Jvm.ClassFile.FieldType.int)
def mJ0_charAt_5068e : XM := (yJ0_charAt_5068e, cJ0_charAt_5068e, 2, some Jvm.ClassFile.FieldType.char)
def mJ0_indexOf_0f7a4 : XM := (yJ0_indexOf_0f7a4, cJ0_indexOf_0f7a4, 2, some Jvm.ClassFile.FieldType.int)
def mJ0_indexOf_7cf53 : XM := (yJ0_indexOf_7cf53, cJ0_indexOf_7cf53, 3, some Jvm.ClassFile.FieldType.int)
def mJ0_coder_7d493 : XM := (yJ0_coder_7d493, cJ0_coder_7d493, 1, some Jvm.ClassFile.FieldType.byte)
def mJ0_isLatin1_aae02 : XM := (yJ0_isLatin1_aae02, cJ0_isLatin1_aae02, 1, some Jvm.ClassFile.FieldType.boolean)
def mJ0_checkIndex_df160 : XM := (yJ0_checkIndex_df160, cJ0_checkIndex_df160, 2, none)
def mJ1_charAt_3b067 : XM := (yJ1_charAt_3b067, cJ1_charAt_3b067, 2, some Jvm.ClassFile.FieldType.char)
def mJ1_canEncode_9a6ad : XM := (yJ1_canEncode_9a6ad, cJ1_canEncode_9a6ad, 1, some Jvm.ClassFile.FieldType.boolean)
def mJ1_indexOf_4cfef : XM := (yJ1_indexOf_4cfef, cJ1_indexOf_4cfef, 4, some Jvm.ClassFile.FieldType.int)
def mJ1_indexOfChar_4cfef : XM := (yJ1_indexOfChar_4cfef, cJ1_indexOfChar_4cfef, 6, some Jvm.ClassFile.FieldType.int)
def mJ3_checkIndex_8e157 : XM := (yJ3_checkIndex_8e157, cJ3_checkIndex_8e157, 3, some Jvm.ClassFile.FieldType.int)
def tJ0_length_8abf5 : XT := [(0, .aload_n 0, 1), (1, .getfield 9, 3), (4, .arraylength, 1), (5, .aload_n 0, 1), (6, .invokevirtual 335, 3), (9, .ishr, 1), (10, .ireturn, 1)]
theorem kJ0_length_8abf5 : xtOK cJ0_length_8abf5 tJ0_length_8abf5 = true := by decide +kernel
def tJ0_charAt_5068e : XT := [(0, .aload_n 0, 1), (1, .invokevirtual 492, 3), (4, .ifCond .eq 12, 3), (7, .aload_n 0, 1), (8, .getfield 9, 3), (11, .iload_n 1, 1), (12, .invokestatic 495, 3), (15, .ireturn, 1), (16, .aload_n 0, 1), (17, .getfield 9, 3), (20, .iload_n 1, 1), (21, .invokestatic 498, 3), (24, .ireturn, 1)]
theorem kJ0_charAt_5068e : xtOK cJ0_charAt_5068e tJ0_charAt_5068e = true := by decide +kernel
def tJ0_indexOf_0f7a4 : XT := [(0, .aload_n 0, 1), (1, .iload_n 1, 1), (2, .iconst 0, 1), (3, .invokevirtual 633, 3), (6, .ireturn, 1)]
theorem kJ0_indexOf_0f7a4 : xtOK cJ0_indexOf_0f7a4 tJ0_indexOf_0f7a4 = true := by decide +kernel
def tJ0_indexOf_7cf53 : XT := [(0, .aload_n 0, 1), (1, .invokevirtual 492, 3), (4, .ifCond .eq 19, 3), (7, .aload_n 0, 1), (8, .getfield 9, 3), (11, .iload_n 1, 1), (12, .iload_n 2, 1), (13, .aload_n 0, 1), (14, .invokevirtual 505, 3), (17, .invokestatic 637, 3), (20, .goto 16, 3), (23, .aload_n 0, 1), (24, .getfield 9, 3), (27, .iload_n 1, 1), (28, .iload_n 2, 1), (29, .aload_n 0, 1), (30, .invokevirtual 505, 3), (33, .invokestatic 640, 3), (36, .ireturn, 1)]
theorem kJ0_indexOf_7cf53 : xtOK cJ0_indexOf_7cf53 tJ0_indexOf_7cf53 = true := by decide +kernel
def tJ0_coder_7d493 : XT := [(0, .getstatic 38, 3), (3, .ifCond .eq 10, 3), (6, .aload_n 0, 1), (7, .getfield 15, 3), (10, .goto 4, 3), (13, .iconst 1, 1), (14, .ireturn, 1)]
theorem kJ0_coder_7d493 : xtOK cJ0_coder_7d493 tJ0_coder_7d493 = true := by decide +kernel
def tJ0_isLatin1_aae02 : XT := [(0, .getstatic 38, 3), (3, .ifCond .eq 14, 3), (6, .aload_n 0, 1), (7, .getfield 15, 3), (10, .ifCond .ne 7, 3), (13, .iconst 1, 1), (14, .goto 4, 3), (17, .iconst 0, 1), (18, .ireturn, 1)]
theorem kJ0_isLatin1_aae02 : xtOK cJ0_isLatin1_aae02 tJ0_isLatin1_aae02 = true := by decide +kernel
def tJ0_checkIndex_df160 : XT := [(0, .iload_n 0, 1), (1, .iload_n 1, 1), (2, .getstatic 1053, 3), (5, .invokestatic 1059, 3), (8, .pop, 1), (9, .return_, 1)]
theorem kJ0_checkIndex_df160 : xtOK cJ0_checkIndex_df160 tJ0_checkIndex_df160 = true := by decide +kernel
def tJ1_charAt_3b067 : XT := [(0, .iload_n 1, 1), (1, .aload_n 0, 1), (2, .arraylength, 1), (3, .invokestatic 9, 3), (6, .aload_n 0, 1), (7, .iload_n 1, 1), (8, .baload, 1), (9, .sipush 255, 3), (12, .iand, 1), (13, .i2c, 1), (14, .ireturn, 1)]
theorem kJ1_charAt_3b067 : xtOK cJ1_charAt_3b067 tJ1_charAt_3b067 = true := by decide +kernel
def tJ1_canEncode_9a6ad : XT := [(0, .iload_n 0, 1), (1, .ifCond .lt 14, 3), (4, .iload_n 0, 1), (5, .sipush 255, 3), (8, .if_icmp .gt 7, 3), (11, .iconst 1, 1), (12, .goto 4, 3), (15, .iconst 0, 1), (16, .ireturn, 1)]
theorem kJ1_canEncode_9a6ad : xtOK cJ1_canEncode_9a6ad tJ1_canEncode_9a6ad = true := by decide +kernel
def tJ1_indexOf_4cfef : XT := [(0, .iload_n 1, 1), (1, .invokestatic 88, 3), (4, .ifCond .ne 5, 3), (7, .iconst (-1), 1), (8, .ireturn, 1), (9, .iload_n 2, 1), (10, .iconst 0, 1), (11, .invokestatic 92, 3), (14, .istore_n 2, 1), (15, .iload_n 3, 1), (16, .aload_n 0, 1), (17, .arraylength, 1), (18, .invokestatic 38, 3), (21, .istore_n 3, 1), (22, .iload_n 2, 1), (23, .iload_n 3, 1), (24, .if_icmp .lt 5, 3), (27, .iconst (-1), 1), (28, .ireturn, 1), (29, .aload_n 0, 1), (30, .iload_n 1, 1), (31, .iload_n 2, 1), (32, .iload_n 3, 1), (33, .invokestatic 95, 3), (36, .ireturn, 1)]
theorem kJ1_indexOf_4cfef : xtOK cJ1_indexOf_4cfef tJ1_indexOf_4cfef = true := by decide +kernel
def tJ1_indexOfChar_4cfef : XT := [(0, .iload_n 1, 1), (1, .i2b, 1), (2, .istore 4, 2), (4, .iload_n 2, 1), (5, .istore 5, 2), (7, .iload 5, 2), (9, .iload_n 3, 1), (10, .if_icmp .ge 21, 3), (13, .aload_n 0, 1), (14, .iload 5, 2), (16, .baload, 1), (17, .iload 4, 2), (19, .if_icmp .ne 6, 3), (22, .iload 5, 2), (24, .ireturn, 1), (25, .iinc 5 1, 3), (28, .goto (-21), 3), (31, .iconst (-1), 1), (32, .ireturn, 1)]
theorem kJ1_indexOfChar_4cfef : xtOK cJ1_indexOfChar_4cfef tJ1_indexOfChar_4cfef = true := by decide +kernel
def tJ3_checkIndex_8e157 : XT := [(0, .iload_n 0, 1), (1, .ifCond .lt 8, 3), (4, .iload_n 0, 1), (5, .iload_n 1, 1), (6, .if_icmp .lt 10, 3), (9, .aload_n 2, 1), (10, .iload_n 0, 1), (11, .iload_n 1, 1), (12, .invokestatic 95, 3), (15, .athrow, 1), (16, .iload_n 0, 1), (17, .ireturn, 1)]
theorem kJ3_checkIndex_8e157 : xtOK cJ3_checkIndex_8e157 tJ3_checkIndex_8e157 = true := by decide +kernel
