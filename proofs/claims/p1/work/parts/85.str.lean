/-! ===== STRINGS: the JDK methods that a text's reading calls (names and rows printed) ===== -/
abbrev b_J0_isLatin1_aae02 : ByteArray := prog_23_method_154_code
def y_J0_isLatin1_aae02 : MethodName := ⟨"java/lang/String", "isLatin1", "()Z"⟩
theorem dd_J0_isLatin1_aae02 : (parseMethodDescriptor y_J0_isLatin1_aae02.desc).map (fun d => d.parameters.length) = some 0 := by decide +kernel
theorem d_J0_isLatin1_aae02_0 : decode b_J0_isLatin1_aae02 0 = .ok (.getstatic 38, 3) := by decide +kernel
theorem d_J0_isLatin1_aae02_3 : decode b_J0_isLatin1_aae02 3 = .ok (.ifCond .eq 14, 3) := by decide +kernel
theorem d_J0_isLatin1_aae02_6 : decode b_J0_isLatin1_aae02 6 = .ok (.aload_n 0, 1) := by decide +kernel
theorem d_J0_isLatin1_aae02_7 : decode b_J0_isLatin1_aae02 7 = .ok (.getfield 15, 3) := by decide +kernel
theorem d_J0_isLatin1_aae02_10 : decode b_J0_isLatin1_aae02 10 = .ok (.ifCond .ne 7, 3) := by decide +kernel
theorem d_J0_isLatin1_aae02_13 : decode b_J0_isLatin1_aae02 13 = .ok (.iconst 1, 1) := by decide +kernel
theorem d_J0_isLatin1_aae02_14 : decode b_J0_isLatin1_aae02 14 = .ok (.goto 4, 3) := by decide +kernel
theorem d_J0_isLatin1_aae02_17 : decode b_J0_isLatin1_aae02 17 = .ok (.iconst 0, 1) := by decide +kernel
theorem d_J0_isLatin1_aae02_18 : decode b_J0_isLatin1_aae02 18 = .ok (.ireturn, 1) := by decide +kernel
abbrev b_J0_coder_7d493 : ByteArray := prog_23_method_152_code
def y_J0_coder_7d493 : MethodName := ⟨"java/lang/String", "coder", "()B"⟩
theorem dd_J0_coder_7d493 : (parseMethodDescriptor y_J0_coder_7d493.desc).map (fun d => d.parameters.length) = some 0 := by decide +kernel
theorem d_J0_coder_7d493_0 : decode b_J0_coder_7d493 0 = .ok (.getstatic 38, 3) := by decide +kernel
theorem d_J0_coder_7d493_3 : decode b_J0_coder_7d493 3 = .ok (.ifCond .eq 10, 3) := by decide +kernel
theorem d_J0_coder_7d493_6 : decode b_J0_coder_7d493 6 = .ok (.aload_n 0, 1) := by decide +kernel
theorem d_J0_coder_7d493_7 : decode b_J0_coder_7d493 7 = .ok (.getfield 15, 3) := by decide +kernel
theorem d_J0_coder_7d493_10 : decode b_J0_coder_7d493 10 = .ok (.goto 4, 3) := by decide +kernel
theorem d_J0_coder_7d493_13 : decode b_J0_coder_7d493 13 = .ok (.iconst 1, 1) := by decide +kernel
theorem d_J0_coder_7d493_14 : decode b_J0_coder_7d493 14 = .ok (.ireturn, 1) := by decide +kernel
abbrev b_J0_length_8abf5 : ByteArray := prog_23_method_54_code
def y_J0_length_8abf5 : MethodName := ⟨"java/lang/String", "length", "()I"⟩
theorem dd_J0_length_8abf5 : (parseMethodDescriptor y_J0_length_8abf5.desc).map (fun d => d.parameters.length) = some 0 := by decide +kernel
theorem d_J0_length_8abf5_0 : decode b_J0_length_8abf5 0 = .ok (.aload_n 0, 1) := by decide +kernel
theorem d_J0_length_8abf5_1 : decode b_J0_length_8abf5 1 = .ok (.getfield 9, 3) := by decide +kernel
theorem d_J0_length_8abf5_4 : decode b_J0_length_8abf5 4 = .ok (.arraylength, 1) := by decide +kernel
theorem d_J0_length_8abf5_5 : decode b_J0_length_8abf5 5 = .ok (.aload_n 0, 1) := by decide +kernel
theorem d_J0_length_8abf5_6 : decode b_J0_length_8abf5 6 = .ok (.invokevirtual 335, 3) := by decide +kernel
theorem d_J0_length_8abf5_9 : decode b_J0_length_8abf5 9 = .ok (.ishr, 1) := by decide +kernel
theorem d_J0_length_8abf5_10 : decode b_J0_length_8abf5 10 = .ok (.ireturn, 1) := by decide +kernel
abbrev b_J0_charAt_5068e : ByteArray := prog_23_method_56_code
def y_J0_charAt_5068e : MethodName := ⟨"java/lang/String", "charAt", "(I)C"⟩
theorem dd_J0_charAt_5068e : (parseMethodDescriptor y_J0_charAt_5068e.desc).map (fun d => d.parameters.length) = some 1 := by decide +kernel
theorem d_J0_charAt_5068e_0 : decode b_J0_charAt_5068e 0 = .ok (.aload_n 0, 1) := by decide +kernel
theorem d_J0_charAt_5068e_1 : decode b_J0_charAt_5068e 1 = .ok (.invokevirtual 492, 3) := by decide +kernel
theorem d_J0_charAt_5068e_4 : decode b_J0_charAt_5068e 4 = .ok (.ifCond .eq 12, 3) := by decide +kernel
theorem d_J0_charAt_5068e_7 : decode b_J0_charAt_5068e 7 = .ok (.aload_n 0, 1) := by decide +kernel
theorem d_J0_charAt_5068e_8 : decode b_J0_charAt_5068e 8 = .ok (.getfield 9, 3) := by decide +kernel
theorem d_J0_charAt_5068e_11 : decode b_J0_charAt_5068e 11 = .ok (.iload_n 1, 1) := by decide +kernel
theorem d_J0_charAt_5068e_12 : decode b_J0_charAt_5068e 12 = .ok (.invokestatic 495, 3) := by decide +kernel
theorem d_J0_charAt_5068e_15 : decode b_J0_charAt_5068e 15 = .ok (.ireturn, 1) := by decide +kernel
theorem d_J0_charAt_5068e_16 : decode b_J0_charAt_5068e 16 = .ok (.aload_n 0, 1) := by decide +kernel
theorem d_J0_charAt_5068e_17 : decode b_J0_charAt_5068e 17 = .ok (.getfield 9, 3) := by decide +kernel
theorem d_J0_charAt_5068e_20 : decode b_J0_charAt_5068e 20 = .ok (.iload_n 1, 1) := by decide +kernel
theorem d_J0_charAt_5068e_21 : decode b_J0_charAt_5068e 21 = .ok (.invokestatic 498, 3) := by decide +kernel
theorem d_J0_charAt_5068e_24 : decode b_J0_charAt_5068e 24 = .ok (.ireturn, 1) := by decide +kernel
abbrev b_J1_charAt_3b067 : ByteArray := prog_24_method_2_code
def y_J1_charAt_3b067 : MethodName := ⟨"java/lang/StringLatin1", "charAt", "([BI)C"⟩
theorem dd_J1_charAt_3b067 : (parseMethodDescriptor y_J1_charAt_3b067.desc).map (fun d => d.parameters.length) = some 2 := by decide +kernel
theorem d_J1_charAt_3b067_0 : decode b_J1_charAt_3b067 0 = .ok (.iload_n 1, 1) := by decide +kernel
theorem d_J1_charAt_3b067_1 : decode b_J1_charAt_3b067 1 = .ok (.aload_n 0, 1) := by decide +kernel
theorem d_J1_charAt_3b067_2 : decode b_J1_charAt_3b067 2 = .ok (.arraylength, 1) := by decide +kernel
theorem d_J1_charAt_3b067_3 : decode b_J1_charAt_3b067 3 = .ok (.invokestatic 9, 3) := by decide +kernel
theorem d_J1_charAt_3b067_6 : decode b_J1_charAt_3b067 6 = .ok (.aload_n 0, 1) := by decide +kernel
theorem d_J1_charAt_3b067_7 : decode b_J1_charAt_3b067 7 = .ok (.iload_n 1, 1) := by decide +kernel
theorem d_J1_charAt_3b067_8 : decode b_J1_charAt_3b067 8 = .ok (.baload, 1) := by decide +kernel
theorem d_J1_charAt_3b067_9 : decode b_J1_charAt_3b067 9 = .ok (.sipush 255, 3) := by decide +kernel
theorem d_J1_charAt_3b067_12 : decode b_J1_charAt_3b067 12 = .ok (.iand, 1) := by decide +kernel
theorem d_J1_charAt_3b067_13 : decode b_J1_charAt_3b067 13 = .ok (.i2c, 1) := by decide +kernel
theorem d_J1_charAt_3b067_14 : decode b_J1_charAt_3b067 14 = .ok (.ireturn, 1) := by decide +kernel
abbrev b_J0_checkIndex_df160 : ByteArray := prog_23_method_155_code
def y_J0_checkIndex_df160 : MethodName := ⟨"java/lang/String", "checkIndex", "(II)V"⟩
theorem dd_J0_checkIndex_df160 : (parseMethodDescriptor y_J0_checkIndex_df160.desc).map (fun d => d.parameters.length) = some 2 := by decide +kernel
theorem d_J0_checkIndex_df160_0 : decode b_J0_checkIndex_df160 0 = .ok (.iload_n 0, 1) := by decide +kernel
theorem d_J0_checkIndex_df160_1 : decode b_J0_checkIndex_df160 1 = .ok (.iload_n 1, 1) := by decide +kernel
theorem d_J0_checkIndex_df160_2 : decode b_J0_checkIndex_df160 2 = .ok (.getstatic 1053, 3) := by decide +kernel
theorem d_J0_checkIndex_df160_5 : decode b_J0_checkIndex_df160 5 = .ok (.invokestatic 1059, 3) := by decide +kernel
theorem d_J0_checkIndex_df160_8 : decode b_J0_checkIndex_df160 8 = .ok (.pop, 1) := by decide +kernel
theorem d_J0_checkIndex_df160_9 : decode b_J0_checkIndex_df160 9 = .ok (.return_, 1) := by decide +kernel
abbrev b_J3_checkIndex_8e157 : ByteArray := prog_29_method_11_code
def y_J3_checkIndex_8e157 : MethodName := ⟨"jdk/internal/util/Preconditions", "checkIndex", "(IILjava/util/function/BiFunction;)I"⟩
theorem dd_J3_checkIndex_8e157 : (parseMethodDescriptor y_J3_checkIndex_8e157.desc).map (fun d => d.parameters.length) = some 3 := by decide +kernel
theorem d_J3_checkIndex_8e157_0 : decode b_J3_checkIndex_8e157 0 = .ok (.iload_n 0, 1) := by decide +kernel
theorem d_J3_checkIndex_8e157_1 : decode b_J3_checkIndex_8e157 1 = .ok (.ifCond .lt 8, 3) := by decide +kernel
theorem d_J3_checkIndex_8e157_4 : decode b_J3_checkIndex_8e157 4 = .ok (.iload_n 0, 1) := by decide +kernel
theorem d_J3_checkIndex_8e157_5 : decode b_J3_checkIndex_8e157 5 = .ok (.iload_n 1, 1) := by decide +kernel
theorem d_J3_checkIndex_8e157_6 : decode b_J3_checkIndex_8e157 6 = .ok (.if_icmp .lt 10, 3) := by decide +kernel
theorem d_J3_checkIndex_8e157_9 : decode b_J3_checkIndex_8e157 9 = .ok (.aload_n 2, 1) := by decide +kernel
theorem d_J3_checkIndex_8e157_10 : decode b_J3_checkIndex_8e157 10 = .ok (.iload_n 0, 1) := by decide +kernel
theorem d_J3_checkIndex_8e157_11 : decode b_J3_checkIndex_8e157 11 = .ok (.iload_n 1, 1) := by decide +kernel
theorem d_J3_checkIndex_8e157_12 : decode b_J3_checkIndex_8e157 12 = .ok (.invokestatic 95, 3) := by decide +kernel
theorem d_J3_checkIndex_8e157_15 : decode b_J3_checkIndex_8e157 15 = .ok (.athrow, 1) := by decide +kernel
theorem d_J3_checkIndex_8e157_16 : decode b_J3_checkIndex_8e157 16 = .ok (.iload_n 0, 1) := by decide +kernel
theorem d_J3_checkIndex_8e157_17 : decode b_J3_checkIndex_8e157 17 = .ok (.ireturn, 1) := by decide +kernel
abbrev b_J0_indexOf_0f7a4 : ByteArray := prog_23_method_79_code
def y_J0_indexOf_0f7a4 : MethodName := ⟨"java/lang/String", "indexOf", "(I)I"⟩
theorem dd_J0_indexOf_0f7a4 : (parseMethodDescriptor y_J0_indexOf_0f7a4.desc).map (fun d => d.parameters.length) = some 1 := by decide +kernel
theorem d_J0_indexOf_0f7a4_0 : decode b_J0_indexOf_0f7a4 0 = .ok (.aload_n 0, 1) := by decide +kernel
theorem d_J0_indexOf_0f7a4_1 : decode b_J0_indexOf_0f7a4 1 = .ok (.iload_n 1, 1) := by decide +kernel
theorem d_J0_indexOf_0f7a4_2 : decode b_J0_indexOf_0f7a4 2 = .ok (.iconst 0, 1) := by decide +kernel
theorem d_J0_indexOf_0f7a4_3 : decode b_J0_indexOf_0f7a4 3 = .ok (.invokevirtual 633, 3) := by decide +kernel
theorem d_J0_indexOf_0f7a4_6 : decode b_J0_indexOf_0f7a4 6 = .ok (.ireturn, 1) := by decide +kernel
abbrev b_J0_indexOf_7cf53 : ByteArray := prog_23_method_80_code
def y_J0_indexOf_7cf53 : MethodName := ⟨"java/lang/String", "indexOf", "(II)I"⟩
theorem dd_J0_indexOf_7cf53 : (parseMethodDescriptor y_J0_indexOf_7cf53.desc).map (fun d => d.parameters.length) = some 2 := by decide +kernel
theorem d_J0_indexOf_7cf53_0 : decode b_J0_indexOf_7cf53 0 = .ok (.aload_n 0, 1) := by decide +kernel
theorem d_J0_indexOf_7cf53_1 : decode b_J0_indexOf_7cf53 1 = .ok (.invokevirtual 492, 3) := by decide +kernel
theorem d_J0_indexOf_7cf53_4 : decode b_J0_indexOf_7cf53 4 = .ok (.ifCond .eq 19, 3) := by decide +kernel
theorem d_J0_indexOf_7cf53_7 : decode b_J0_indexOf_7cf53 7 = .ok (.aload_n 0, 1) := by decide +kernel
theorem d_J0_indexOf_7cf53_8 : decode b_J0_indexOf_7cf53 8 = .ok (.getfield 9, 3) := by decide +kernel
theorem d_J0_indexOf_7cf53_11 : decode b_J0_indexOf_7cf53 11 = .ok (.iload_n 1, 1) := by decide +kernel
theorem d_J0_indexOf_7cf53_12 : decode b_J0_indexOf_7cf53 12 = .ok (.iload_n 2, 1) := by decide +kernel
theorem d_J0_indexOf_7cf53_13 : decode b_J0_indexOf_7cf53 13 = .ok (.aload_n 0, 1) := by decide +kernel
theorem d_J0_indexOf_7cf53_14 : decode b_J0_indexOf_7cf53 14 = .ok (.invokevirtual 505, 3) := by decide +kernel
theorem d_J0_indexOf_7cf53_17 : decode b_J0_indexOf_7cf53 17 = .ok (.invokestatic 637, 3) := by decide +kernel
theorem d_J0_indexOf_7cf53_20 : decode b_J0_indexOf_7cf53 20 = .ok (.goto 16, 3) := by decide +kernel
theorem d_J0_indexOf_7cf53_23 : decode b_J0_indexOf_7cf53 23 = .ok (.aload_n 0, 1) := by decide +kernel
theorem d_J0_indexOf_7cf53_24 : decode b_J0_indexOf_7cf53 24 = .ok (.getfield 9, 3) := by decide +kernel
theorem d_J0_indexOf_7cf53_27 : decode b_J0_indexOf_7cf53 27 = .ok (.iload_n 1, 1) := by decide +kernel
theorem d_J0_indexOf_7cf53_28 : decode b_J0_indexOf_7cf53 28 = .ok (.iload_n 2, 1) := by decide +kernel
theorem d_J0_indexOf_7cf53_29 : decode b_J0_indexOf_7cf53 29 = .ok (.aload_n 0, 1) := by decide +kernel
theorem d_J0_indexOf_7cf53_30 : decode b_J0_indexOf_7cf53 30 = .ok (.invokevirtual 505, 3) := by decide +kernel
theorem d_J0_indexOf_7cf53_33 : decode b_J0_indexOf_7cf53 33 = .ok (.invokestatic 640, 3) := by decide +kernel
theorem d_J0_indexOf_7cf53_36 : decode b_J0_indexOf_7cf53 36 = .ok (.ireturn, 1) := by decide +kernel
abbrev b_J1_indexOf_4cfef : ByteArray := prog_24_method_22_code
def y_J1_indexOf_4cfef : MethodName := ⟨"java/lang/StringLatin1", "indexOf", "([BIII)I"⟩
theorem dd_J1_indexOf_4cfef : (parseMethodDescriptor y_J1_indexOf_4cfef.desc).map (fun d => d.parameters.length) = some 4 := by decide +kernel
theorem d_J1_indexOf_4cfef_0 : decode b_J1_indexOf_4cfef 0 = .ok (.iload_n 1, 1) := by decide +kernel
theorem d_J1_indexOf_4cfef_1 : decode b_J1_indexOf_4cfef 1 = .ok (.invokestatic 88, 3) := by decide +kernel
theorem d_J1_indexOf_4cfef_4 : decode b_J1_indexOf_4cfef 4 = .ok (.ifCond .ne 5, 3) := by decide +kernel
theorem d_J1_indexOf_4cfef_7 : decode b_J1_indexOf_4cfef 7 = .ok (.iconst (-1), 1) := by decide +kernel
theorem d_J1_indexOf_4cfef_8 : decode b_J1_indexOf_4cfef 8 = .ok (.ireturn, 1) := by decide +kernel
theorem d_J1_indexOf_4cfef_9 : decode b_J1_indexOf_4cfef 9 = .ok (.iload_n 2, 1) := by decide +kernel
theorem d_J1_indexOf_4cfef_10 : decode b_J1_indexOf_4cfef 10 = .ok (.iconst 0, 1) := by decide +kernel
theorem d_J1_indexOf_4cfef_11 : decode b_J1_indexOf_4cfef 11 = .ok (.invokestatic 92, 3) := by decide +kernel
theorem d_J1_indexOf_4cfef_14 : decode b_J1_indexOf_4cfef 14 = .ok (.istore_n 2, 1) := by decide +kernel
theorem d_J1_indexOf_4cfef_15 : decode b_J1_indexOf_4cfef 15 = .ok (.iload_n 3, 1) := by decide +kernel
theorem d_J1_indexOf_4cfef_16 : decode b_J1_indexOf_4cfef 16 = .ok (.aload_n 0, 1) := by decide +kernel
theorem d_J1_indexOf_4cfef_17 : decode b_J1_indexOf_4cfef 17 = .ok (.arraylength, 1) := by decide +kernel
theorem d_J1_indexOf_4cfef_18 : decode b_J1_indexOf_4cfef 18 = .ok (.invokestatic 38, 3) := by decide +kernel
theorem d_J1_indexOf_4cfef_21 : decode b_J1_indexOf_4cfef 21 = .ok (.istore_n 3, 1) := by decide +kernel
theorem d_J1_indexOf_4cfef_22 : decode b_J1_indexOf_4cfef 22 = .ok (.iload_n 2, 1) := by decide +kernel
theorem d_J1_indexOf_4cfef_23 : decode b_J1_indexOf_4cfef 23 = .ok (.iload_n 3, 1) := by decide +kernel
theorem d_J1_indexOf_4cfef_24 : decode b_J1_indexOf_4cfef 24 = .ok (.if_icmp .lt 5, 3) := by decide +kernel
theorem d_J1_indexOf_4cfef_27 : decode b_J1_indexOf_4cfef 27 = .ok (.iconst (-1), 1) := by decide +kernel
theorem d_J1_indexOf_4cfef_28 : decode b_J1_indexOf_4cfef 28 = .ok (.ireturn, 1) := by decide +kernel
theorem d_J1_indexOf_4cfef_29 : decode b_J1_indexOf_4cfef 29 = .ok (.aload_n 0, 1) := by decide +kernel
theorem d_J1_indexOf_4cfef_30 : decode b_J1_indexOf_4cfef 30 = .ok (.iload_n 1, 1) := by decide +kernel
theorem d_J1_indexOf_4cfef_31 : decode b_J1_indexOf_4cfef 31 = .ok (.iload_n 2, 1) := by decide +kernel
theorem d_J1_indexOf_4cfef_32 : decode b_J1_indexOf_4cfef 32 = .ok (.iload_n 3, 1) := by decide +kernel
theorem d_J1_indexOf_4cfef_33 : decode b_J1_indexOf_4cfef 33 = .ok (.invokestatic 95, 3) := by decide +kernel
theorem d_J1_indexOf_4cfef_36 : decode b_J1_indexOf_4cfef 36 = .ok (.ireturn, 1) := by decide +kernel
abbrev b_J1_canEncode_9a6ad : ByteArray := prog_24_method_4_code
def y_J1_canEncode_9a6ad : MethodName := ⟨"java/lang/StringLatin1", "canEncode", "(I)Z"⟩
theorem dd_J1_canEncode_9a6ad : (parseMethodDescriptor y_J1_canEncode_9a6ad.desc).map (fun d => d.parameters.length) = some 1 := by decide +kernel
theorem d_J1_canEncode_9a6ad_0 : decode b_J1_canEncode_9a6ad 0 = .ok (.iload_n 0, 1) := by decide +kernel
theorem d_J1_canEncode_9a6ad_1 : decode b_J1_canEncode_9a6ad 1 = .ok (.ifCond .lt 14, 3) := by decide +kernel
theorem d_J1_canEncode_9a6ad_4 : decode b_J1_canEncode_9a6ad 4 = .ok (.iload_n 0, 1) := by decide +kernel
theorem d_J1_canEncode_9a6ad_5 : decode b_J1_canEncode_9a6ad 5 = .ok (.sipush 255, 3) := by decide +kernel
theorem d_J1_canEncode_9a6ad_8 : decode b_J1_canEncode_9a6ad 8 = .ok (.if_icmp .gt 7, 3) := by decide +kernel
theorem d_J1_canEncode_9a6ad_11 : decode b_J1_canEncode_9a6ad 11 = .ok (.iconst 1, 1) := by decide +kernel
theorem d_J1_canEncode_9a6ad_12 : decode b_J1_canEncode_9a6ad 12 = .ok (.goto 4, 3) := by decide +kernel
theorem d_J1_canEncode_9a6ad_15 : decode b_J1_canEncode_9a6ad 15 = .ok (.iconst 0, 1) := by decide +kernel
theorem d_J1_canEncode_9a6ad_16 : decode b_J1_canEncode_9a6ad 16 = .ok (.ireturn, 1) := by decide +kernel
abbrev b_J1_indexOfChar_4cfef : ByteArray := prog_24_method_23_code
def y_J1_indexOfChar_4cfef : MethodName := ⟨"java/lang/StringLatin1", "indexOfChar", "([BIII)I"⟩
theorem dd_J1_indexOfChar_4cfef : (parseMethodDescriptor y_J1_indexOfChar_4cfef.desc).map (fun d => d.parameters.length) = some 4 := by decide +kernel
theorem d_J1_indexOfChar_4cfef_0 : decode b_J1_indexOfChar_4cfef 0 = .ok (.iload_n 1, 1) := by decide +kernel
theorem d_J1_indexOfChar_4cfef_1 : decode b_J1_indexOfChar_4cfef 1 = .ok (.i2b, 1) := by decide +kernel
theorem d_J1_indexOfChar_4cfef_2 : decode b_J1_indexOfChar_4cfef 2 = .ok (.istore 4, 2) := by decide +kernel
theorem d_J1_indexOfChar_4cfef_4 : decode b_J1_indexOfChar_4cfef 4 = .ok (.iload_n 2, 1) := by decide +kernel
theorem d_J1_indexOfChar_4cfef_5 : decode b_J1_indexOfChar_4cfef 5 = .ok (.istore 5, 2) := by decide +kernel
theorem d_J1_indexOfChar_4cfef_7 : decode b_J1_indexOfChar_4cfef 7 = .ok (.iload 5, 2) := by decide +kernel
theorem d_J1_indexOfChar_4cfef_9 : decode b_J1_indexOfChar_4cfef 9 = .ok (.iload_n 3, 1) := by decide +kernel
theorem d_J1_indexOfChar_4cfef_10 : decode b_J1_indexOfChar_4cfef 10 = .ok (.if_icmp .ge 21, 3) := by decide +kernel
theorem d_J1_indexOfChar_4cfef_13 : decode b_J1_indexOfChar_4cfef 13 = .ok (.aload_n 0, 1) := by decide +kernel
theorem d_J1_indexOfChar_4cfef_14 : decode b_J1_indexOfChar_4cfef 14 = .ok (.iload 5, 2) := by decide +kernel
theorem d_J1_indexOfChar_4cfef_16 : decode b_J1_indexOfChar_4cfef 16 = .ok (.baload, 1) := by decide +kernel
theorem d_J1_indexOfChar_4cfef_17 : decode b_J1_indexOfChar_4cfef 17 = .ok (.iload 4, 2) := by decide +kernel
theorem d_J1_indexOfChar_4cfef_19 : decode b_J1_indexOfChar_4cfef 19 = .ok (.if_icmp .ne 6, 3) := by decide +kernel
theorem d_J1_indexOfChar_4cfef_22 : decode b_J1_indexOfChar_4cfef 22 = .ok (.iload 5, 2) := by decide +kernel
theorem d_J1_indexOfChar_4cfef_24 : decode b_J1_indexOfChar_4cfef 24 = .ok (.ireturn, 1) := by decide +kernel
theorem d_J1_indexOfChar_4cfef_25 : decode b_J1_indexOfChar_4cfef 25 = .ok (.iinc 5 1, 3) := by decide +kernel
theorem d_J1_indexOfChar_4cfef_28 : decode b_J1_indexOfChar_4cfef 28 = .ok (.goto (-21), 3) := by decide +kernel
theorem d_J1_indexOfChar_4cfef_31 : decode b_J1_indexOfChar_4cfef 31 = .ok (.iconst (-1), 1) := by decide +kernel
theorem d_J1_indexOfChar_4cfef_32 : decode b_J1_indexOfChar_4cfef 32 = .ok (.ireturn, 1) := by decide +kernel
theorem w_code_J0_isLatin1_aae02 : (Cond.code y_J0_isLatin1_aae02 b_J0_isLatin1_aae02 1 (some .boolean)) ∈ TsT := TsT_o _ (List.mem_append_right _ (wa_x_4 _ (wm_x_4 80 (by decide) rfl rfl)))
theorem w_code_J0_coder_7d493 : (Cond.code y_J0_coder_7d493 b_J0_coder_7d493 1 (some .byte)) ∈ TsT := TsT_o _ (List.mem_append_right _ (wa_x_4 _ (wm_x_4 90 (by decide) rfl rfl)))
theorem w_code_J0_length_8abf5 : (Cond.code y_J0_length_8abf5 b_J0_length_8abf5 1 (some .int)) ∈ TsT := TsT_o _ (List.mem_append_right _ (wa_x_4 _ (wm_x_4 86 (by decide) rfl rfl)))
theorem w_code_J0_charAt_5068e : (Cond.code y_J0_charAt_5068e b_J0_charAt_5068e 2 (some .char)) ∈ TsT := TsT_o _ (List.mem_append_right _ (wa_x_4 _ (wm_x_4 157 (by decide) rfl rfl)))
theorem w_code_J1_charAt_3b067 : (Cond.code y_J1_charAt_3b067 b_J1_charAt_3b067 2 (some .char)) ∈ TsT := TsT_o _ (List.mem_append_right _ (wa_x_4 _ (wm_x_4 160 (by decide) rfl rfl)))
theorem w_code_J0_checkIndex_df160 : (Cond.code y_J0_checkIndex_df160 b_J0_checkIndex_df160 2 none) ∈ TsT := TsT_o _ (List.mem_append_right _ (wa_x_4 _ (wm_x_4 163 (by decide) rfl rfl)))
theorem w_code_J3_checkIndex_8e157 : (Cond.code y_J3_checkIndex_8e157 b_J3_checkIndex_8e157 3 (some .int)) ∈ TsT := TsT_o _ (List.mem_append_right _ (wa_x_4 _ (wm_x_4 166 (by decide) rfl rfl)))
theorem w_code_J0_indexOf_0f7a4 : (Cond.code y_J0_indexOf_0f7a4 b_J0_indexOf_0f7a4 2 (some .int)) ∈ TsT := TsT_o _ (List.mem_append_right _ (wa_x_4 _ (wm_x_4 72 (by decide) rfl rfl)))
theorem w_code_J0_indexOf_7cf53 : (Cond.code y_J0_indexOf_7cf53 b_J0_indexOf_7cf53 3 (some .int)) ∈ TsT := TsT_o _ (List.mem_append_right _ (wa_x_4 _ (wm_x_4 76 (by decide) rfl rfl)))
theorem w_code_J1_indexOf_4cfef : (Cond.code y_J1_indexOf_4cfef b_J1_indexOf_4cfef 4 (some .int)) ∈ TsT := TsT_o _ (List.mem_append_right _ (wa_x_4 _ (wm_x_4 93 (by decide) rfl rfl)))
theorem w_code_J1_canEncode_9a6ad : (Cond.code y_J1_canEncode_9a6ad b_J1_canEncode_9a6ad 1 (some .boolean)) ∈ TsT := TsT_o _ (List.mem_append_right _ (wa_x_4 _ (wm_x_4 96 (by decide) rfl rfl)))
theorem w_code_J1_indexOfChar_4cfef : (Cond.code y_J1_indexOfChar_4cfef b_J1_indexOfChar_4cfef 6 (some .int)) ∈ TsT := TsT_o _ (List.mem_append_right _ (wa_x_4 _ (wm_x_4 103 (by decide) rfl rfl)))
theorem w_ini_String : (Cond.initialized "java/lang/String") ∈ TsT := TsT_o _ (List.mem_append_right _ (wa_x_1 _ (wm_x_1 22 (by decide) rfl rfl)))
theorem w_ini_StringLatin1 : (Cond.initialized "java/lang/StringLatin1") ∈ TsT := TsT_o _ (List.mem_append_right _ (wa_x_1 _ (wm_x_1 23 (by decide) rfl rfl)))
theorem w_ini_Preconditions : (Cond.initialized "jdk/internal/util/Preconditions") ∈ TsT := TsT_o _ (List.mem_append_right _ (wa_x_1 _ (wm_x_1 25 (by decide) rfl rfl)))
theorem w_lk_Tape_38_J0_length_8abf5 : (Cond.methodLink "PostHouse$Tape" 38 y_J0_length_8abf5) ∈ TsT := TsT_o _ (List.mem_append_right _ (wa_x_4 _ (wm_x_4 153 (by decide) rfl rfl)))
theorem w_inst_J0_length_8abf5 : (Cond.instanceMethod y_J0_length_8abf5) ∈ TsT := TsT_o _ (List.mem_append_right _ (wa_x_4 _ (wm_x_4 84 (by decide) rfl rfl)))
theorem w_sel_J0_length_8abf5 : (Cond.selects "java/lang/String" y_J0_length_8abf5 y_J0_length_8abf5) ∈ TsT := TsT_o _ (List.mem_append_right _ (wa_x_4 _ (wm_x_4 85 (by decide) rfl rfl)))
theorem w_lk_Tape_41_J0_charAt_5068e : (Cond.methodLink "PostHouse$Tape" 41 y_J0_charAt_5068e) ∈ TsT := TsT_o _ (List.mem_append_right _ (wa_x_4 _ (wm_x_4 154 (by decide) rfl rfl)))
theorem w_inst_J0_charAt_5068e : (Cond.instanceMethod y_J0_charAt_5068e) ∈ TsT := TsT_o _ (List.mem_append_right _ (wa_x_4 _ (wm_x_4 155 (by decide) rfl rfl)))
theorem w_sel_J0_charAt_5068e : (Cond.selects "java/lang/String" y_J0_charAt_5068e y_J0_charAt_5068e) ∈ TsT := TsT_o _ (List.mem_append_right _ (wa_x_4 _ (wm_x_4 156 (by decide) rfl rfl)))
theorem w_lk_Tape_33_J0_indexOf_0f7a4 : (Cond.methodLink "PostHouse$Tape" 33 y_J0_indexOf_0f7a4) ∈ TsT := TsT_o _ (List.mem_append_right _ (wa_x_4 _ (wm_x_4 69 (by decide) rfl rfl)))
theorem w_inst_J0_indexOf_0f7a4 : (Cond.instanceMethod y_J0_indexOf_0f7a4) ∈ TsT := TsT_o _ (List.mem_append_right _ (wa_x_4 _ (wm_x_4 70 (by decide) rfl rfl)))
theorem w_sel_J0_indexOf_0f7a4 : (Cond.selects "java/lang/String" y_J0_indexOf_0f7a4 y_J0_indexOf_0f7a4) ∈ TsT := TsT_o _ (List.mem_append_right _ (wa_x_4 _ (wm_x_4 71 (by decide) rfl rfl)))
theorem w_lk_String_335_J0_coder_7d493 : (Cond.methodLink "java/lang/String" 335 y_J0_coder_7d493) ∈ TsT := TsT_o _ (List.mem_append_right _ (wa_x_4 _ (wm_x_4 87 (by decide) rfl rfl)))
theorem w_inst_J0_coder_7d493 : (Cond.instanceMethod y_J0_coder_7d493) ∈ TsT := TsT_o _ (List.mem_append_right _ (wa_x_4 _ (wm_x_4 88 (by decide) rfl rfl)))
theorem w_sel_J0_coder_7d493 : (Cond.selects "java/lang/String" y_J0_coder_7d493 y_J0_coder_7d493) ∈ TsT := TsT_o _ (List.mem_append_right _ (wa_x_4 _ (wm_x_4 89 (by decide) rfl rfl)))
theorem w_lk_String_492_J0_isLatin1_aae02 : (Cond.methodLink "java/lang/String" 492 y_J0_isLatin1_aae02) ∈ TsT := TsT_o _ (List.mem_append_right _ (wa_x_4 _ (wm_x_4 77 (by decide) rfl rfl)))
theorem w_inst_J0_isLatin1_aae02 : (Cond.instanceMethod y_J0_isLatin1_aae02) ∈ TsT := TsT_o _ (List.mem_append_right _ (wa_x_4 _ (wm_x_4 78 (by decide) rfl rfl)))
theorem w_sel_J0_isLatin1_aae02 : (Cond.selects "java/lang/String" y_J0_isLatin1_aae02 y_J0_isLatin1_aae02) ∈ TsT := TsT_o _ (List.mem_append_right _ (wa_x_4 _ (wm_x_4 79 (by decide) rfl rfl)))
theorem w_lk_String_495_J1_charAt_3b067 : (Cond.methodLink "java/lang/String" 495 y_J1_charAt_3b067) ∈ TsT := TsT_o _ (List.mem_append_right _ (wa_x_4 _ (wm_x_4 158 (by decide) rfl rfl)))
theorem w_stat_J1_charAt_3b067 : (Cond.static y_J1_charAt_3b067) ∈ TsT := TsT_o _ (List.mem_append_right _ (wa_x_4 _ (wm_x_4 159 (by decide) rfl rfl)))
theorem w_lk_StringLatin1_9_J0_checkIndex_df160 : (Cond.methodLink "java/lang/StringLatin1" 9 y_J0_checkIndex_df160) ∈ TsT := TsT_o _ (List.mem_append_right _ (wa_x_4 _ (wm_x_4 161 (by decide) rfl rfl)))
theorem w_stat_J0_checkIndex_df160 : (Cond.static y_J0_checkIndex_df160) ∈ TsT := TsT_o _ (List.mem_append_right _ (wa_x_4 _ (wm_x_4 162 (by decide) rfl rfl)))
theorem w_lk_String_1059_J3_checkIndex_8e157 : (Cond.methodLink "java/lang/String" 1059 y_J3_checkIndex_8e157) ∈ TsT := TsT_o _ (List.mem_append_right _ (wa_x_4 _ (wm_x_4 164 (by decide) rfl rfl)))
theorem w_stat_J3_checkIndex_8e157 : (Cond.static y_J3_checkIndex_8e157) ∈ TsT := TsT_o _ (List.mem_append_right _ (wa_x_4 _ (wm_x_4 165 (by decide) rfl rfl)))
theorem w_lk_String_633_J0_indexOf_7cf53 : (Cond.methodLink "java/lang/String" 633 y_J0_indexOf_7cf53) ∈ TsT := TsT_o _ (List.mem_append_right _ (wa_x_4 _ (wm_x_4 73 (by decide) rfl rfl)))
theorem w_inst_J0_indexOf_7cf53 : (Cond.instanceMethod y_J0_indexOf_7cf53) ∈ TsT := TsT_o _ (List.mem_append_right _ (wa_x_4 _ (wm_x_4 74 (by decide) rfl rfl)))
theorem w_sel_J0_indexOf_7cf53 : (Cond.selects "java/lang/String" y_J0_indexOf_7cf53 y_J0_indexOf_7cf53) ∈ TsT := TsT_o _ (List.mem_append_right _ (wa_x_4 _ (wm_x_4 75 (by decide) rfl rfl)))
theorem w_lk_String_505_J0_length_8abf5 : (Cond.methodLink "java/lang/String" 505 y_J0_length_8abf5) ∈ TsT := TsT_o _ (List.mem_append_right _ (wa_x_4 _ (wm_x_4 83 (by decide) rfl rfl)))
theorem w_lk_String_637_J1_indexOf_4cfef : (Cond.methodLink "java/lang/String" 637 y_J1_indexOf_4cfef) ∈ TsT := TsT_o _ (List.mem_append_right _ (wa_x_4 _ (wm_x_4 91 (by decide) rfl rfl)))
theorem w_stat_J1_indexOf_4cfef : (Cond.static y_J1_indexOf_4cfef) ∈ TsT := TsT_o _ (List.mem_append_right _ (wa_x_4 _ (wm_x_4 92 (by decide) rfl rfl)))
theorem w_lk_StringLatin1_88_J1_canEncode_9a6ad : (Cond.methodLink "java/lang/StringLatin1" 88 y_J1_canEncode_9a6ad) ∈ TsT := TsT_o _ (List.mem_append_right _ (wa_x_4 _ (wm_x_4 94 (by decide) rfl rfl)))
theorem w_stat_J1_canEncode_9a6ad : (Cond.static y_J1_canEncode_9a6ad) ∈ TsT := TsT_o _ (List.mem_append_right _ (wa_x_4 _ (wm_x_4 95 (by decide) rfl rfl)))
theorem w_lk_StringLatin1_95_J1_indexOfChar_4cfef : (Cond.methodLink "java/lang/StringLatin1" 95 y_J1_indexOfChar_4cfef) ∈ TsT := TsT_o _ (List.mem_append_right _ (wa_x_4 _ (wm_x_4 101 (by decide) rfl rfl)))
theorem w_stat_J1_indexOfChar_4cfef : (Cond.static y_J1_indexOfChar_4cfef) ∈ TsT := TsT_o _ (List.mem_append_right _ (wa_x_4 _ (wm_x_4 102 (by decide) rfl rfl)))
theorem w_fl_38 : (Cond.fieldLink "java/lang/String" 38 "java/lang/String" "COMPACT_STRINGS" "Z") ∈ TsT := TsT_o _ (List.mem_append_right _ (wa_x_4 _ (wm_x_4 81 (by decide) rfl rfl)))
theorem w_fl_15 : (Cond.fieldLink "java/lang/String" 15 "java/lang/String" "coder" "B") ∈ TsT := TsT_o _ (List.mem_append_right _ (wa_x_16 _ (wm_x_16 12 (by decide) rfl rfl)))
theorem w_fl_9 : (Cond.fieldLink "java/lang/String" 9 "java/lang/String" "value" "[B") ∈ TsT := TsT_o _ (List.mem_append_right _ (wa_x_16 _ (wm_x_16 13 (by decide) rfl rfl)))
theorem w_fl_1053 : (Cond.fieldLink "java/lang/String" 1053 "jdk/internal/util/Preconditions" "SIOOBE_FORMATTER" "Ljava/util/function/BiFunction;") ∈ TsT := TsT_o _ (List.mem_append_right _ (wa_x_4 _ (wm_x_4 122 (by decide) rfl rfl)))
theorem w_lk_max : Cond.methodLink "java/lang/StringLatin1" 92 Lib.Math.max.name ∈ TsT := TsT_o _ (List.mem_append_right _ (wa_x_4 _ (wm_x_4 97 (by decide) rfl rfl)))
theorem w_lk_min : Cond.methodLink "java/lang/StringLatin1" 38 Lib.Math.min.name ∈ TsT := TsT_o _ (List.mem_append_right _ (wa_x_4 _ (wm_x_4 100 (by decide) rfl rfl)))
theorem w_stat_max : Cond.static Lib.Math.max.name ∈ TsT := TsT_stat 534 (by decide)
theorem w_code_max : Cond.code Lib.Math.max.name Lib.Math.max.code 2 (some .int) ∈ TsT := TsT_code 534 (by decide)
theorem w_stat_min : Cond.static Lib.Math.min.name ∈ TsT := TsT_stat 535 (by decide)
theorem w_code_min : Cond.code Lib.Math.min.name Lib.Math.min.code 2 (some .int) ∈ TsT := TsT_code 535 (by decide)
theorem w_ini_Math : Cond.initialized "java/lang/Math" ∈ TsT := TsT_ini 15 (by decide)
/-! ===== contracts of theirs ===== -/
section STR
/-- a text: its object, its bytes, and the statics that its methods ask -/
def sj_W (sa va N : Nat) (f : Nat → Int32) (A : Nat → Prop) (U : State) (H : Heap) : Prop := va_O "java/lang/String" sa A U H ∧ va_OF "java/lang/String" "coder" "B" (.int 0) sa A U H ∧ va_OF "java/lang/String" "value" "[B" (.ref va) sa A U H ∧ va_T .byte va N (fun j => .int (f j)) A U H ∧ va_Z "java/lang/String" "COMPACT_STRINGS" "Z" (.int 1) A U H ∧ va_Zq "jdk/internal/util/Preconditions" "SIOOBE_FORMATTER" "Ljava/util/function/BiFunction;" A U H
variable {sa va N : Nat} {f : Nat → Int32} {A : Nat → Prop} {u U s : State} {H H1 H0 : Heap} {r : Int32} {av : List Value}
theorem sj_W.moved (hvm : u.vm.Alike U.vm) (h : sj_W sa va N f A u H) : sj_W sa va N f A U H := ⟨va_O.moved hvm h.1, va_OF.moved hvm h.2.1, va_OF.moved hvm h.2.2.1, va_T.moved hvm h.2.2.2.1, va_Z.moved hvm h.2.2.2.2.1, va_Zq.moved hvm h.2.2.2.2.2⟩
theorem sj_W.kept (h : sj_W sa va N f A U H) (hq : ∀ a : Nat, a < H.size → ¬ A a → H1[a]? = H[a]?) : sj_W sa va N f A U H1 := ⟨h.1.kept hq, h.2.1.kept hq, h.2.2.1.kept hq, h.2.2.2.1.kept hq, h.2.2.2.2.1.kept hq, h.2.2.2.2.2.kept hq⟩
def sj_P (sa va N : Nat) (f : Nat → Int32) (A : Nat → Prop) (H0 : Heap) (av : List Value) : Array Value → State → Prop := va_Pc av (fun U => U.heap = H0 ∧ sj_W sa va N f A U H0)
def sj_Q (r : Int32) (H0 : Heap) : Array Value → State → Outcome → State → Prop := va_Qi (fun x (_ : Unit) => x = r) (fun _ t => t.heap = H0) (fun _ => False)
abbrev sj_M (l : Launch) (y : MethodName) (b : ByteArray) (n : Nat) (ret : Option FieldType) (fr lo : Nat) (sa va N : Nat) (f : Nat → Int32) (A : Nat → Prop) (H0 : Heap) (av : List Value) (r : Int32) : Prop := Met l y (Cond.code y b n ret :: TsT) { frames := fr, cells := 0, slots := 0, locals := lo } (sj_P sa va N f A H0 av) (sj_Q r H0) 0 0 (fun _ => False)
theorem sj_blind : FrameBlind (sj_P sa va N f A H0 av) := fun a U g mk h => ⟨h.1, h.2.1, sj_W.moved (State.WarmedH.refl U).alike h.2.2⟩
theorem sj_met {l : Launch} {y : MethodName} {b : ByteArray} {n : Nat} {ret : Option FieldType} {fr lo : Nat} (hy : plainFor y = true) (hn : (lg_sl av).length ≤ n)
    (body : ∀ (p : Program) (e : Env) (s : State) (m : MethodId) (below : List Frame) (meth : Method) (c : Code) (ls : Array Slot), CallFix p m c b n s av.toArray TsT y.cls → meth.sig.returnType = ret → meth.locks = false → s.heap = H0 → sj_W sa va N f A s s.heap → lv_has ls n (lv_args 0 av) → W p l e { frames := fr, cells := 0, slots := 0, locals := lo } s m av.toArray below meth c s.heap [] 0 0 (MQ below (sj_Q r H0) av.toArray s 0 0 (fun _ => False)) (F0 m 0 ls [])) : sj_M l y b n ret fr lo sa va N f A H0 av r := by
  refine so_ofW (cc := b) (maxL := n) (ret := ret) hy rfl ?_
  intro p e s m args below meth c s₁ B hml hv
  obtain ⟨rfl, hH, hW⟩ := hv
  have hts0 := atoms_spec (ws := Cond.code y b n ret :: TsT) B.pre
  rw [lg_entry_eq]
  have hl := lv_entry av (n := n) hn
  generalize (lg_sl av ++ List.replicate (n - (lg_sl av).length) Slot.unset).toArray = ls at hl ⊢
  exact body p e s m below meth c ls ⟨B.exec, B.bytes, hml, findClass_of_methodNamed B.named, fun w hw => hts0 w (List.mem_cons_of_mem _ hw)⟩ B.returns B.notSynchronized hH (by rw [hH]; exact hW) hl
theorem sj_good {y : MethodName} {b : ByteArray} {n : Nat} {ret : Option FieldType} (hc : Cond.code y b n ret ∈ TsT) : GoodIn TsT (Cond.code y b n ret :: TsT) := fun w hw => by
  have h1 : w ∈ TsT := (List.mem_cons.mp hw).elim (fun e => e ▸ hc) id
  exact ⟨h1, good_of_word (TsT_good w h1)⟩
theorem sj_end {s t : State} (hH : s.heap = H0) (ht : t.heap = s.heap) {st : State} (hs : st.heap = s.heap) {args : Array Value} : sj_Q r H0 args st (.returned (some (.int r))) t := ⟨⟨r, (), rfl, rfl, ht.trans hH⟩, by rw [ht, hs]; exact Nat.le_refl _, fun q _ _ => by rw [ht, hs]⟩
variable {p : Program} {l : Launch} {e : Env} {R : Room} {m : MethodId} {args : Array Value} {below : List Frame} {meth : Method} {c : Code} {Q : State → Prop} {cc b : ByteArray} {nL n idx pc fr lo cells slots : Nat} {own : String} {y : MethodName} {ret : Option FieldType} {ls : Array Slot} {rest : List Value} {A0 : Nat → Prop} {locs : List Loc}
theorem sj_callS (F : CallFix p m c cc nL s args TsT own) (hM : sj_M l y b n ret fr lo sa va N f A H av r) (hcode : Cond.code y b n ret ∈ TsT) (hini : Cond.initialized y.cls ∈ TsT) (hlk : Cond.methodLink own idx y ∈ TsT) (hst : Cond.static y ∈ TsT) (hdd : y.cls ≠ "java/lang/invoke/MethodHandle" ∧ y.cls ≠ "java/lang/invoke/VarHandle" ∧ (parseMethodDescriptor y.desc).map (fun d => d.parameters.length) = some av.length) (hR : fr + 1 ≤ R.frames ∧ 8 + (n + 11) + lo ≤ R.locals) (hW : ∀ U : State, U.heap = H → s.WarmedH U.vm → sj_W sa va N f A U H) (hS : va_S A0 s.heap H locs) (hsz : ls.size = nL) (hrest : (rest.map fun v => v.category).sum ≤ 8) (hcs : cells ≤ R.cells ∧ slots ≤ R.slots) (hd : decode cc pc = .ok (.invokestatic idx, 3)) (kk : ∀ locs1 : List Loc, va_S A0 s.heap H locs1 → W p l e R s m args below meth c H locs1 cells slots Q (F0 m (pc + 3) ls (.int r :: rest))) : W p l e R s m args below meth c H locs cells slots Q (F0 m pc ls (av.reverse ++ rest)) := by
  refine va_calli (mc := 0) (ms := 0) (va_runS (As := av) (rest := rest) F hM ⟨callB_of av.length F.2.2.2.2 (sj_good hcode) rfl rfl rfl (F.2.2.2.2 _ hini) (F.2.2.2.2 _ hlk) hdd hR, F.2.2.2.2 _ hst⟩ ⟨sj_blind, fun U hU hw => ⟨rfl, hU, hW U hU hw⟩⟩ rfl rfl hsz rfl (lv_room hrest) hd hcs) hS (fun _ _ h => h.elim) (fun _ h => h.elim) ?_
  intro r' u t H1 locs1 e1 _ hp hb _ _ hS1
  have e2 : H1 = H := by rw [← e1]; exact hb
  subst e2
  have e3 : r' = r := hp
  subst e3
  exact kk locs1 hS1
theorem sj_callV (F : CallFix p m c cc nL s args TsT own) (hM : sj_M l y b n ret fr lo sa va N f A H (.ref sa :: av) r) (hcode : Cond.code y b n ret ∈ TsT) (hini : Cond.initialized y.cls ∈ TsT) (hlk : Cond.methodLink own idx y ∈ TsT) (hin : Cond.instanceMethod y ∈ TsT) (hsel : Cond.selects y.cls y y ∈ TsT) (hcl : y.cls = "java/lang/String") (hdd : y.cls ≠ "java/lang/invoke/MethodHandle" ∧ y.cls ≠ "java/lang/invoke/VarHandle" ∧ (parseMethodDescriptor y.desc).map (fun d => d.parameters.length) = some av.length) (hR : fr + 1 ≤ R.frames ∧ 8 + (n + 11) + lo ≤ R.locals) (hW : ∀ U : State, U.heap = H → s.WarmedH U.vm → sj_W sa va N f A U H) (hrv : ∃ cell : Cell, H[sa]? = some cell ∧ cell.vm.isStatics = false ∧ s.vm.findClass "java/lang/String" = some cell.cls) (hS : va_S A0 s.heap H locs) (hsz : ls.size = nL) (hrest : (rest.map fun v => v.category).sum ≤ 8) (hcs : cells ≤ R.cells ∧ slots ≤ R.slots) (hd : decode cc pc = .ok (.invokevirtual idx, 3)) (kk : ∀ locs1 : List Loc, va_S A0 s.heap H locs1 → W p l e R s m args below meth c H locs1 cells slots Q (F0 m (pc + 3) ls (.int r :: rest))) : W p l e R s m args below meth c H locs cells slots Q (F0 m pc ls (av.reverse ++ .ref sa :: rest)) := by
  rw [← hcl] at hrv
  refine va_calli (mc := 0) (ms := 0) (va_runV (As := av) (rest := rest) F hM ⟨callB_of av.length F.2.2.2.2 (sj_good hcode) rfl rfl rfl (F.2.2.2.2 _ hini) (F.2.2.2.2 _ hlk) hdd hR, F.2.2.2.2 _ hin, F.2.2.2.2 _ hsel⟩ ⟨sj_blind, hrv, fun U hU hw => ⟨rfl, hU, hW U hU hw⟩⟩ rfl rfl hsz rfl (lv_room hrest) hd hcs) hS (fun _ _ h => h.elim) (fun _ h => h.elim) ?_
  intro r' u t H1 locs1 e1 _ hp hb _ _ hS1
  have e2 : H1 = H := by rw [← e1]; exact hb
  subst e2
  have e3 : r' = r := hp
  subst e3
  exact kk locs1 hS1
theorem sj_S {s : State} {locs : List Loc} (h : va_S (fun _ => False) s.heap s.heap locs) : va_S A s.heap s.heap locs := ⟨h.1, fun _ _ _ => rfl, fun l hl => (h.2.2 l hl).elim⟩
theorem sj_isLatin1 : sj_M l y_J0_isLatin1_aae02 b_J0_isLatin1_aae02 1 (some .boolean) 0 0 sa va N f A H0 [.ref sa] 1 := sj_met (by decide +kernel) (Nat.le_of_ble_eq_true rfl) fun p e s m below meth c ls F hr hlk hH hW hl => by
  obtain ⟨hx, hb, hml, hown, hts⟩ := id F
  obtain ⟨hO, hC, hV, hT, hZ, hq⟩ := hW
  refine va_gets hx hb hZ va_S.rf hown (hts _ w_fl_38) (fun _ h => h) d_J0_isLatin1_aae02_0 ?_
  refine lv_if_eq hx hb d_J0_isLatin1_aae02_3 (tgt := 17) rfl (fun h => absurd h (by decide)) (fun _ => ?_)
  refine lv_aload_n hx hb d_J0_isLatin1_aae02_6 rfl (lv_at hl 0 rfl) ?_
  refine vk_getf hx hb hC va_S.rf hown (hts _ w_fl_15) (fun _ h => h) d_J0_isLatin1_aae02_7 ?_
  refine lv_if_ne hx hb d_J0_isLatin1_aae02_10 (tgt := 17) rfl (fun h => absurd rfl h) (fun _ => ?_)
  refine lv_iconst (v := 1) hx hb d_J0_isLatin1_aae02_13 rfl ?_
  refine lv_goto hx hb d_J0_isLatin1_aae02_14 (tgt := 18) rfl ?_
  exact W.zret (v := 1) hx hb hr rfl (fun t ht hW => sj_end hH ht rfl) (fun _ h => by cases h) d_J0_isLatin1_aae02_18 hlk
theorem sj_coder : sj_M l y_J0_coder_7d493 b_J0_coder_7d493 1 (some .byte) 0 0 sa va N f A H0 [.ref sa] 0 := sj_met (by decide +kernel) (Nat.le_of_ble_eq_true rfl) fun p e s m below meth c ls F hr hlk hH hW hl => by
  obtain ⟨hx, hb, hml, hown, hts⟩ := id F
  obtain ⟨hO, hC, hV, hT, hZ, hq⟩ := hW
  refine va_gets hx hb hZ va_S.rf hown (hts _ w_fl_38) (fun _ h => h) d_J0_coder_7d493_0 ?_
  refine lv_if_eq hx hb d_J0_coder_7d493_3 (tgt := 13) rfl (fun h => absurd h (by decide)) (fun _ => ?_)
  refine lv_aload_n hx hb d_J0_coder_7d493_6 rfl (lv_at hl 0 rfl) ?_
  refine vk_getf hx hb hC va_S.rf hown (hts _ w_fl_15) (fun _ h => h) d_J0_coder_7d493_7 ?_
  refine lv_goto hx hb d_J0_coder_7d493_10 (tgt := 14) rfl ?_
  exact W.zret (v := 0) hx hb hr rfl (fun t ht hW => sj_end hH ht rfl) (fun _ h => by cases h) d_J0_coder_7d493_14 hlk
theorem sj_recv (h : va_O "java/lang/String" sa A s s.heap) : ∃ cell : Cell, s.heap[sa]? = some cell ∧ cell.vm.isStatics = false ∧ s.vm.findClass "java/lang/String" = some cell.cls := va_Orecv h (locs := []) va_S.rf
theorem sj_here (h : sj_W sa va N f A s s.heap) : ∀ U : State, U.heap = s.heap → s.WarmedH U.vm → sj_W sa va N f A U s.heap := fun U _ hw => sj_W.moved hw.alike h
theorem sj_length (hN : N < 2 ^ 31) : sj_M l y_J0_length_8abf5 b_J0_length_8abf5 1 (some .int) 1 20 sa va N f A H0 [.ref sa] (nI N) := sj_met (by decide +kernel) (Nat.le_of_ble_eq_true rfl) fun p e s m below meth c ls F hr hlk hH hW hl => by
  have hW0 := hW
  obtain ⟨hx, hb, hml, hown, hts⟩ := id F
  obtain ⟨hO, hC, hV, hT, hZ, hq⟩ := hW
  refine lv_aload_n hx hb d_J0_length_8abf5_0 rfl (lv_at hl 0 rfl) ?_
  refine vk_getf hx hb hV va_S.rf hown (hts _ w_fl_9) (fun _ h => h) d_J0_length_8abf5_1 ?_
  refine va_tlen hx hb hT va_S.rf (v := nI N) rfl d_J0_length_8abf5_4 ?_
  refine lv_aload_n hx hb d_J0_length_8abf5_5 rfl (lv_at hl 0 rfl) ?_
  refine sj_callV (av := []) F sj_coder w_code_J0_coder_7d493 w_ini_String w_lk_String_335_J0_coder_7d493 w_inst_J0_coder_7d493 w_sel_J0_coder_7d493 rfl ⟨by decide, by decide, dd_J0_coder_7d493⟩ (by decide) (sj_here hW0) (sj_recv hO) (va_S.rf (A := fun _ => False)) hl.1 (Nat.le_of_ble_eq_true rfl) (by decide) d_J0_length_8abf5_6 (fun locs1 hS1 => ?_)
  refine lv_ishr hx hb d_J0_length_8abf5_9 ?_
  rw [show nI N >>> ((0 : Int32) &&& 31) = nI N from sc_shr0 hN]
  exact W.iret (v := nI N) hx hb hr (fun t ht hW => sj_end hH ht rfl) hS1.2.2 d_J0_length_8abf5_10 hlk
theorem sj_chk3 {i : Int32} (h : vp_in i N) (hN : N < 2 ^ 31) (q : Value) (hq : q.category = 1) : sj_M l y_J3_checkIndex_8e157 b_J3_checkIndex_8e157 3 (some .int) 0 0 sa va N f A H0 [.int i, .int (nI N), q] i := sj_met (by decide +kernel) (by
    have e : (lg_sl [Value.int i, .int (nI N), q]).length = 3 := by
      unfold lg_sl
      simp [List.flatMap_cons, hq, Value.category]
      first | done | (cases q <;> simp_all [Value.category])
    omega) fun p e s m below meth c ls F hr hlk hH hW hl => by
  obtain ⟨hx, hb, hml, hown, hts⟩ := id F
  have h2 := vp_in_iff.mp h
  refine lv_iload_n hx hb d_J3_checkIndex_8e157_0 rfl (lv_at hl 0 rfl) ?_
  refine lv_if_lt hx hb d_J3_checkIndex_8e157_1 (tgt := 9) rfl (fun z => absurd (lt_i.mp z) (by rw [i32_0]; omega)) (fun _ => ?_)
  refine lv_iload_n hx hb d_J3_checkIndex_8e157_4 rfl (lv_at hl 0 rfl) ?_
  refine lv_iload_n hx hb d_J3_checkIndex_8e157_5 rfl (lv_at hl 1 rfl) ?_
  refine lv_icmp_lt hx hb d_J3_checkIndex_8e157_6 (tgt := 16) rfl (fun _ => ?_) (fun z => absurd (lt_i.mpr (by rw [nI_toInt hN]; omega)) z)
  refine lv_iload_n hx hb d_J3_checkIndex_8e157_16 rfl (lv_at hl 0 rfl) ?_
  exact W.iret (v := i) hx hb hr (fun t ht hW => sj_end hH ht rfl) (fun _ h => by cases h) d_J3_checkIndex_8e157_17 hlk
def sj_Qv (H0 : Heap) : Array Value → State → Outcome → State → Prop := va_Qv (fun (_ : Unit) => True) (fun _ t => t.heap = H0) (fun _ => False)
theorem sj_endv {s t : State} (hH : s.heap = H0) (ht : t.heap = s.heap) {st : State} (hs : st.heap = s.heap) {args : Array Value} : sj_Qv H0 args st (.returned none) t := ⟨⟨(), rfl, trivial, ht.trans hH⟩, by rw [ht, hs]; exact Nat.le_refl _, fun q _ _ => by rw [ht, hs]⟩
theorem sj_checkIndex {i : Int32} (h : vp_in i N) (hN : N < 2 ^ 31) : Met l y_J0_checkIndex_df160 (Cond.code y_J0_checkIndex_df160 b_J0_checkIndex_df160 2 none :: TsT) { frames := 1, cells := 0, slots := 0, locals := 22 } (sj_P sa va N f A H0 [.int i, .int (nI N)]) (sj_Qv H0) 0 0 (fun _ => False) := by
  refine so_ofW (cc := b_J0_checkIndex_df160) (maxL := 2) (ret := none) (by decide +kernel) rfl ?_
  intro p e s m args below meth c s₁ B hml hv
  obtain ⟨rfl, hH, hW⟩ := hv
  have hts0 := atoms_spec (ws := Cond.code y_J0_checkIndex_df160 b_J0_checkIndex_df160 2 none :: TsT) B.pre
  rw [lg_entry_eq]
  have hl := lv_entry [.int i, .int (nI N)] (n := 2) (Nat.le_of_ble_eq_true rfl)
  generalize (lg_sl [Value.int i, .int (nI N)] ++ List.replicate (2 - (lg_sl [Value.int i, .int (nI N)]).length) Slot.unset).toArray = ls at hl ⊢
  have F : CallFix p m c b_J0_checkIndex_df160 2 s _ TsT _ := ⟨B.exec, B.bytes, hml, findClass_of_methodNamed B.named, fun w hw => hts0 w (List.mem_cons_of_mem _ hw)⟩
  have hW : sj_W sa va N f A s s.heap := by rw [hH]; exact hW
  obtain ⟨hx, hb, -, hown, hts⟩ := id F
  refine lv_iload_n hx hb d_J0_checkIndex_df160_0 rfl (lv_at hl 0 rfl) ?_
  refine lv_iload_n hx hb d_J0_checkIndex_df160_1 rfl (lv_at hl 1 rfl) ?_
  obtain ⟨q, hq, hz⟩ : ∃ q : Value, q.category = 1 ∧ va_Z "jdk/internal/util/Preconditions" "SIOOBE_FORMATTER" "Ljava/util/function/BiFunction;" q A s s.heap := by
    rcases hW.2.2.2.2.2 with hz | ⟨q, hz⟩
    · exact ⟨.null, rfl, hz⟩
    · exact ⟨.ref q, rfl, hz⟩
  refine va_gets hx hb hz va_S.rf hown (hts _ w_fl_1053) (fun _ h => h) d_J0_checkIndex_df160_2 ?_
  refine sj_callS (av := [.int i, .int (nI N), q]) (rest := []) F (sj_chk3 h hN q hq) w_code_J3_checkIndex_8e157 w_ini_Preconditions w_lk_String_1059_J3_checkIndex_8e157 w_stat_J3_checkIndex_8e157 ⟨by decide, by decide, dd_J3_checkIndex_8e157⟩ (by decide) (sj_here hW) (va_S.rf (A := fun _ => False)) hl.1 (Nat.le_of_ble_eq_true rfl) (by decide) d_J0_checkIndex_df160_5 (fun locs1 hS1 => ?_)
  refine lv_pop hx hb d_J0_checkIndex_df160_8 rfl ?_
  exact W.vret hx hb B.returns (fun t ht hW => sj_endv hH ht rfl) hS1.2.2 d_J0_checkIndex_df160_9 B.notSynchronized
theorem sj_charAt1 {i : Int32} (h : vp_in i N) (hN : N < 2 ^ 31) : sj_M l y_J1_charAt_3b067 b_J1_charAt_3b067 2 (some .char) 2 43 sa va N f A H0 [.ref va, .int i] (((f i.toNatClampNeg &&& 255).toUInt32 % 65536).toInt32) := sj_met (by decide +kernel) (Nat.le_of_ble_eq_true rfl) fun p e s m below meth c ls F hr hlk hH hW hl => by
  have hW0 := hW
  obtain ⟨hx, hb, hml, hown, hts⟩ := id F
  obtain ⟨hO, hC, hV, hT, hZ, hq⟩ := hW
  refine lv_iload_n hx hb d_J1_charAt_3b067_0 rfl (lv_at hl 1 rfl) ?_
  refine lv_aload_n hx hb d_J1_charAt_3b067_1 rfl (lv_at hl 0 rfl) ?_
  refine va_tlen hx hb hT va_S.rf (v := nI N) rfl d_J1_charAt_3b067_2 ?_
  refine va_callv (mc := 0) (ms := 0) (va_runS (As := [.int i, .int (nI N)]) (rest := []) F (sj_checkIndex (sa := sa) (va := va) (f := f) (A := A) h hN) ⟨callB_of 2 F.2.2.2.2 (sj_good w_code_J0_checkIndex_df160) rfl rfl rfl (F.2.2.2.2 _ w_ini_String) (F.2.2.2.2 _ w_lk_StringLatin1_9_J0_checkIndex_df160) ⟨by decide, by decide, dd_J0_checkIndex_df160⟩ (by decide), F.2.2.2.2 _ w_stat_J0_checkIndex_df160⟩ ⟨sj_blind, fun U hU hw => ⟨rfl, hU, sj_here hW0 U hU hw⟩⟩ rfl rfl hl.1 rfl (lv_room (Nat.le_of_ble_eq_true rfl)) d_J1_charAt_3b067_3 (by decide)) (va_S.rf (A := fun _ => False)) (fun _ _ h => h.elim) (fun _ h => h.elim) ?_
  intro u t H1 locs1 e1 _ _ hb2 _ _ hS1
  have e2 : H1 = s.heap := by rw [← e1]; exact hb2
  subst e2
  refine lv_aload_n hx hb d_J1_charAt_3b067_6 rfl (lv_at hl 0 rfl) ?_
  refine lv_iload_n hx hb d_J1_charAt_3b067_7 rfl (lv_at hl 1 rfl) ?_
  refine va_tb hx hb hT (sj_S hS1) h (v := .int (f i.toNatClampNeg)) rfl d_J1_charAt_3b067_8 ?_
  refine lv_sipush (v := 255) hx hb d_J1_charAt_3b067_9 rfl ?_
  refine lv_iand hx hb d_J1_charAt_3b067_12 ?_
  refine lv_i2c hx hb d_J1_charAt_3b067_13 rfl ?_
  exact W.zret hx hb hr (pk_nc _) (fun t ht hW => sj_end hH ht rfl) hS1.2.2 d_J1_charAt_3b067_14 hlk
theorem sj_charAt {i : Int32} (h : vp_in i N) (hN : N < 2 ^ 31) : sj_M l y_J0_charAt_5068e b_J0_charAt_5068e 2 (some .char) 3 64 sa va N f A H0 [.ref sa, .int i] (((f i.toNatClampNeg &&& 255).toUInt32 % 65536).toInt32) := sj_met (by decide +kernel) (Nat.le_of_ble_eq_true rfl) fun p e s m below meth c ls F hr hlk hH hW hl => by
  have hW0 := hW
  obtain ⟨hx, hb, hml, hown, hts⟩ := id F
  obtain ⟨hO, hC, hV, hT, hZ, hq⟩ := hW
  refine lv_aload_n hx hb d_J0_charAt_5068e_0 rfl (lv_at hl 0 rfl) ?_
  refine sj_callV (av := []) F sj_isLatin1 w_code_J0_isLatin1_aae02 w_ini_String w_lk_String_492_J0_isLatin1_aae02 w_inst_J0_isLatin1_aae02 w_sel_J0_isLatin1_aae02 rfl ⟨by decide, by decide, dd_J0_isLatin1_aae02⟩ (by decide) (sj_here hW0) (sj_recv hO) (va_S.rf (A := fun _ => False)) hl.1 (Nat.le_of_ble_eq_true rfl) (by decide) d_J0_charAt_5068e_1 (fun locs1 hS1 => ?_)
  refine lv_if_eq hx hb d_J0_charAt_5068e_4 (tgt := 16) rfl (fun h => absurd h (by decide)) (fun _ => ?_)
  refine lv_aload_n hx hb d_J0_charAt_5068e_7 rfl (lv_at hl 0 rfl) ?_
  refine vk_getf hx hb hV (sj_S hS1) hown (hts _ w_fl_9) (fun _ h => h) d_J0_charAt_5068e_8 ?_
  refine lv_iload_n hx hb d_J0_charAt_5068e_11 rfl (lv_at hl 1 rfl) ?_
  refine sj_callS (av := [.ref va, .int i]) (rest := []) F (sj_charAt1 h hN) w_code_J1_charAt_3b067 w_ini_StringLatin1 w_lk_String_495_J1_charAt_3b067 w_stat_J1_charAt_3b067 ⟨by decide, by decide, dd_J1_charAt_3b067⟩ (by decide) (sj_here hW0) hS1 hl.1 (Nat.le_of_ble_eq_true rfl) (by decide) d_J0_charAt_5068e_12 (fun locs2 hS2 => ?_)
  exact W.zret hx hb hr (pk_nc _) (fun t ht hW => sj_end hH ht rfl) hS2.2.2 d_J0_charAt_5068e_15 hlk
theorem sj_canEncode {ch : Int32} (h0 : ¬ ch < 0) (h1 : ch ≤ 255) : sj_M l y_J1_canEncode_9a6ad b_J1_canEncode_9a6ad 1 (some .boolean) 0 0 sa va N f A H0 [.int ch] 1 := sj_met (by decide +kernel) (Nat.le_of_ble_eq_true rfl) fun p e s m below meth c ls F hr hlk hH hW hl => by
  obtain ⟨hx, hb, hml, hown, hts⟩ := id F
  refine lv_iload_n hx hb d_J1_canEncode_9a6ad_0 rfl (lv_at hl 0 rfl) ?_
  refine lv_if_lt hx hb d_J1_canEncode_9a6ad_1 (tgt := 15) rfl (fun z => absurd z h0) (fun _ => ?_)
  refine lv_iload_n hx hb d_J1_canEncode_9a6ad_4 rfl (lv_at hl 0 rfl) ?_
  refine lv_sipush (v := 255) hx hb d_J1_canEncode_9a6ad_5 rfl ?_
  refine lv_icmp_gt hx hb d_J1_canEncode_9a6ad_8 (tgt := 15) rfl (fun z => absurd (lt_i.mp z) (by have := le_i.mp h1; omega)) (fun _ => ?_)
  refine lv_iconst (v := 1) hx hb d_J1_canEncode_9a6ad_11 rfl ?_
  refine lv_goto hx hb d_J1_canEncode_9a6ad_12 (tgt := 16) rfl ?_
  exact W.zret (v := 1) hx hb hr rfl (fun t ht hW => sj_end hH ht rfl) (fun _ h => by cases h) d_J1_canEncode_9a6ad_16 hlk
def sj_pos (f : Nat → Int32) (ch : Int32) : Nat → Nat → Int32
  | _, 0 => -1
  | k, n + 1 => if f k = ch then nI k else sj_pos f ch (k + 1) n
theorem sj_indexOfChar {ch : Int32} (hN : N < 2 ^ 31) : sj_M l y_J1_indexOfChar_4cfef b_J1_indexOfChar_4cfef 6 (some .int) 0 0 sa va N f A H0 [.ref va, .int ch, .int 0, .int (nI N)] (sj_pos f ch.toInt8.toInt32 0 N) := sj_met (by decide +kernel) (Nat.le_of_ble_eq_true rfl) fun p e s m below meth c ls F hr hlk hH hW hl => by
  obtain ⟨hx, hb, hml, hown, hts⟩ := id F
  obtain ⟨hO, hC, hV, hT, hZ, hq⟩ := hW
  refine lv_iload_n hx hb d_J1_indexOfChar_4cfef_0 rfl (lv_at hl 1 rfl) ?_
  refine lv_i2b hx hb d_J1_indexOfChar_4cfef_1 rfl ?_
  refine lv_istore hx hb d_J1_indexOfChar_4cfef_2 hl (by decide) rfl (fun ls hl => ?_)
  refine lv_iload_n hx hb d_J1_indexOfChar_4cfef_4 rfl (lv_at hl 3 rfl) ?_
  refine lv_istore hx hb d_J1_indexOfChar_4cfef_5 hl (by decide) rfl (fun ls hl => ?_)
  have loop : ∀ (n k : Nat) (ls : Array Slot), k + n = N → lv_has ls 6 [(5, .int (nI k)), (4, .int ch.toInt8.toInt32), (0, .ref va), (3, .int (nI N))] → sj_pos f ch.toInt8.toInt32 k n = sj_pos f ch.toInt8.toInt32 0 N → W p l e { frames := 0, cells := 0, slots := 0, locals := 0 } s m [Value.ref va, .int ch, .int 0, .int (nI N)].toArray below meth c s.heap [] 0 0 (MQ below (sj_Q (sj_pos f ch.toInt8.toInt32 0 N) H0) [Value.ref va, .int ch, .int 0, .int (nI N)].toArray s 0 0 (fun _ => False)) (F0 m 7 ls []) := by
    intro n
    induction n with
    | zero =>
      intro k ls hk hl he
      refine lv_iload hx hb d_J1_indexOfChar_4cfef_7 (lv_at hl 0 rfl) ?_
      refine lv_iload_n hx hb d_J1_indexOfChar_4cfef_9 rfl (lv_at hl 3 rfl) ?_
      refine lv_icmp_ge hx hb d_J1_indexOfChar_4cfef_10 (tgt := 31) rfl (fun _ => ?_) (fun z => absurd (nI_le (by omega) (by omega)) z)
      refine lv_iconst (v := -1) hx hb d_J1_indexOfChar_4cfef_31 rfl ?_
      rw [← he]
      exact W.iret hx hb hr (fun t ht hW => sj_end hH ht rfl) (fun _ h => by cases h) d_J1_indexOfChar_4cfef_32 hlk
    | succ n ih =>
      intro k ls hk hl he
      refine lv_iload hx hb d_J1_indexOfChar_4cfef_7 (lv_at hl 0 rfl) ?_
      refine lv_iload_n hx hb d_J1_indexOfChar_4cfef_9 rfl (lv_at hl 3 rfl) ?_
      refine lv_icmp_ge hx hb d_J1_indexOfChar_4cfef_10 (tgt := 31) rfl (fun z => absurd z (nI_ge (by omega) hN)) (fun _ => ?_)
      refine lv_aload_n hx hb d_J1_indexOfChar_4cfef_13 rfl (lv_at hl 2 rfl) ?_
      refine lv_iload hx hb d_J1_indexOfChar_4cfef_14 (lv_at hl 0 rfl) ?_
      refine va_tb hx hb hT va_S.rf (vp_in_nI (by omega) hN) (v := .int (f k)) (by rw [nI_clamp (by omega)]) d_J1_indexOfChar_4cfef_16 ?_
      refine lv_iload hx hb d_J1_indexOfChar_4cfef_17 (lv_at hl 1 rfl) ?_
      have he2 : (if f k = ch.toInt8.toInt32 then nI k else sj_pos f ch.toInt8.toInt32 (k + 1) n) = sj_pos f ch.toInt8.toInt32 0 N := he
      refine lv_icmp_ne hx hb d_J1_indexOfChar_4cfef_19 (tgt := 25) rfl (fun z => ?_) (fun z => ?_)
      · rw [if_neg z] at he2
        refine lv_iinc (v := nI (k + 1)) hx hb d_J1_indexOfChar_4cfef_25 hl (k := 0) rfl (nI_1 k) (by decide) rfl (fun ls hl => ?_)
        refine lv_goto hx hb d_J1_indexOfChar_4cfef_28 (tgt := 7) rfl ?_
        exact ih (k + 1) ls (by omega) (lv_sub hl [0, 1, 2, 3] rfl) he2
      · rw [if_pos z] at he2
        refine lv_iload hx hb d_J1_indexOfChar_4cfef_22 (lv_at hl 0 rfl) ?_
        rw [← he2]
        exact W.iret hx hb hr (fun t ht hW => sj_end hH ht rfl) (fun _ h => by cases h) d_J1_indexOfChar_4cfef_24 hlk
  exact loop N 0 ls (by omega) (lv_sub hl [0, 1, 2, 5] rfl) rfl
theorem sj_indexOf1 {ch : Int32} (hN : N < 2 ^ 31) (hp : 0 < N) (h0 : ¬ ch < 0) (h1 : ch ≤ 255) : sj_M l y_J1_indexOf_4cfef b_J1_indexOf_4cfef 4 (some .int) 1 40 sa va N f A H0 [.ref va, .int ch, .int 0, .int (nI N)] (sj_pos f ch.toInt8.toInt32 0 N) := sj_met (by decide +kernel) (Nat.le_of_ble_eq_true rfl) fun p e s m below meth c ls F hr hlk hH hW hl => by
  have hW0 := hW
  obtain ⟨hx, hb, hml, hown, hts⟩ := id F
  obtain ⟨hO, hC, hV, hT, hZ, hq⟩ := hW
  refine lv_iload_n hx hb d_J1_indexOf_4cfef_0 rfl (lv_at hl 1 rfl) ?_
  refine sj_callS (av := [.int ch]) (rest := []) F (sj_canEncode h0 h1) w_code_J1_canEncode_9a6ad w_ini_StringLatin1 w_lk_StringLatin1_88_J1_canEncode_9a6ad w_stat_J1_canEncode_9a6ad ⟨by decide, by decide, dd_J1_canEncode_9a6ad⟩ (by decide) (sj_here hW0) (va_S.rf (A := fun _ => False)) hl.1 (Nat.le_of_ble_eq_true rfl) (by decide) d_J1_indexOf_4cfef_1 (fun locs1 hS1 => ?_)
  refine lv_if_ne hx hb d_J1_indexOf_4cfef_4 (tgt := 9) rfl (fun _ => ?_) (fun z => absurd z (by decide))
  refine lv_iload_n hx hb d_J1_indexOf_4cfef_9 rfl (lv_at hl 2 rfl) ?_
  refine lv_iconst (v := 0) hx hb d_J1_indexOf_4cfef_10 rfl ?_
  refine va_mmax hx hb (by rw [hml]; exact hl.1.symm) hown (hts _ w_lk_max) (hts _ w_stat_max) (hts _ w_ini_Math) (hts _ w_code_max) (by decide) (by decide) (by decide) (by decide) d_J1_indexOf_4cfef_11 ?_
  refine lv_istore_n hx hb d_J1_indexOf_4cfef_14 rfl hl (by decide) rfl (fun ls hl => ?_)
  refine lv_iload_n hx hb d_J1_indexOf_4cfef_15 rfl (lv_at hl 3 rfl) ?_
  refine lv_aload_n hx hb d_J1_indexOf_4cfef_16 rfl (lv_at hl 1 rfl) ?_
  refine va_tlen hx hb hT (sj_S hS1) (v := nI N) rfl d_J1_indexOf_4cfef_17 ?_
  refine va_mmin hx hb (by rw [hml]; exact hl.1.symm) hown (hts _ w_lk_min) (hts _ w_stat_min) (hts _ w_ini_Math) (hts _ w_code_min) (by decide) (by decide) (by decide) (by decide) d_J1_indexOf_4cfef_18 ?_
  rw [ite_self]
  refine lv_istore_n hx hb d_J1_indexOf_4cfef_21 rfl hl (by decide) rfl (fun ls hl => ?_)
  refine lv_iload_n hx hb d_J1_indexOf_4cfef_22 rfl (lv_at hl 1 rfl) ?_
  refine lv_iload_n hx hb d_J1_indexOf_4cfef_23 rfl (lv_at hl 0 rfl) ?_
  refine lv_icmp_lt hx hb d_J1_indexOf_4cfef_24 (tgt := 29) rfl (fun _ => ?_) (fun z => absurd (by rw [ite_self]; exact nI_lt (a := 0) hp hN) z)
  refine lv_aload_n hx hb d_J1_indexOf_4cfef_29 rfl (lv_at hl 2 rfl) ?_
  refine lv_iload_n hx hb d_J1_indexOf_4cfef_30 rfl (lv_at hl 3 rfl) ?_
  refine lv_iload_n hx hb d_J1_indexOf_4cfef_31 rfl (lv_at hl 1 rfl) ?_
  refine lv_iload_n hx hb d_J1_indexOf_4cfef_32 rfl (lv_at hl 0 rfl) ?_
  rw [ite_self]
  refine sj_callS (av := [.ref va, .int ch, .int 0, .int (nI N)]) (rest := []) F (sj_indexOfChar hN) w_code_J1_indexOfChar_4cfef w_ini_StringLatin1 w_lk_StringLatin1_95_J1_indexOfChar_4cfef w_stat_J1_indexOfChar_4cfef ⟨by decide, by decide, dd_J1_indexOfChar_4cfef⟩ (by decide) (sj_here hW0) hS1 hl.1 (Nat.le_of_ble_eq_true rfl) (by decide) d_J1_indexOf_4cfef_33 (fun locs2 hS2 => ?_)
  exact W.iret hx hb hr (fun t ht hW => sj_end hH ht rfl) hS2.2.2 d_J1_indexOf_4cfef_36 hlk
theorem sj_indexOf2 {ch : Int32} (hN : N < 2 ^ 31) (hp : 0 < N) (h0 : ¬ ch < 0) (h1 : ch ≤ 255) : sj_M l y_J0_indexOf_7cf53 b_J0_indexOf_7cf53 3 (some .int) 2 63 sa va N f A H0 [.ref sa, .int ch, .int 0] (sj_pos f ch.toInt8.toInt32 0 N) := sj_met (by decide +kernel) (Nat.le_of_ble_eq_true rfl) fun p e s m below meth c ls F hr hlk hH hW hl => by
  have hW0 := hW
  obtain ⟨hx, hb, hml, hown, hts⟩ := id F
  obtain ⟨hO, hC, hV, hT, hZ, hq⟩ := hW
  refine lv_aload_n hx hb d_J0_indexOf_7cf53_0 rfl (lv_at hl 0 rfl) ?_
  refine sj_callV (av := []) F sj_isLatin1 w_code_J0_isLatin1_aae02 w_ini_String w_lk_String_492_J0_isLatin1_aae02 w_inst_J0_isLatin1_aae02 w_sel_J0_isLatin1_aae02 rfl ⟨by decide, by decide, dd_J0_isLatin1_aae02⟩ (by decide) (sj_here hW0) (sj_recv hO) (va_S.rf (A := fun _ => False)) hl.1 (Nat.le_of_ble_eq_true rfl) (by decide) d_J0_indexOf_7cf53_1 (fun locs1 hS1 => ?_)
  refine lv_if_eq hx hb d_J0_indexOf_7cf53_4 (tgt := 23) rfl (fun h => absurd h (by decide)) (fun _ => ?_)
  refine lv_aload_n hx hb d_J0_indexOf_7cf53_7 rfl (lv_at hl 0 rfl) ?_
  refine vk_getf hx hb hV (sj_S hS1) hown (hts _ w_fl_9) (fun _ h => h) d_J0_indexOf_7cf53_8 ?_
  refine lv_iload_n hx hb d_J0_indexOf_7cf53_11 rfl (lv_at hl 1 rfl) ?_
  refine lv_iload_n hx hb d_J0_indexOf_7cf53_12 rfl (lv_at hl 2 rfl) ?_
  refine lv_aload_n hx hb d_J0_indexOf_7cf53_13 rfl (lv_at hl 0 rfl) ?_
  refine sj_callV (av := []) F (sj_length hN) w_code_J0_length_8abf5 w_ini_String w_lk_String_505_J0_length_8abf5 w_inst_J0_length_8abf5 w_sel_J0_length_8abf5 rfl ⟨by decide, by decide, dd_J0_length_8abf5⟩ (by decide) (sj_here hW0) (sj_recv hO) hS1 hl.1 (Nat.le_of_ble_eq_true rfl) (by decide) d_J0_indexOf_7cf53_14 (fun locs2 hS2 => ?_)
  refine sj_callS (av := [.ref va, .int ch, .int 0, .int (nI N)]) (rest := []) F (sj_indexOf1 hN hp h0 h1) w_code_J1_indexOf_4cfef w_ini_StringLatin1 w_lk_String_637_J1_indexOf_4cfef w_stat_J1_indexOf_4cfef ⟨by decide, by decide, dd_J1_indexOf_4cfef⟩ (by decide) (sj_here hW0) hS2 hl.1 (Nat.le_of_ble_eq_true rfl) (by decide) d_J0_indexOf_7cf53_17 (fun locs3 hS3 => ?_)
  refine lv_goto hx hb d_J0_indexOf_7cf53_20 (tgt := 36) rfl ?_
  exact W.iret hx hb hr (fun t ht hW => sj_end hH ht rfl) hS3.2.2 d_J0_indexOf_7cf53_36 hlk
theorem sj_indexOf {ch : Int32} (hN : N < 2 ^ 31) (hp : 0 < N) (h0 : ¬ ch < 0) (h1 : ch ≤ 255) : sj_M l y_J0_indexOf_0f7a4 b_J0_indexOf_0f7a4 2 (some .int) 3 85 sa va N f A H0 [.ref sa, .int ch] (sj_pos f ch.toInt8.toInt32 0 N) := sj_met (by decide +kernel) (Nat.le_of_ble_eq_true rfl) fun p e s m below meth c ls F hr hlk hH hW hl => by
  have hW0 := hW
  obtain ⟨hx, hb, hml, hown, hts⟩ := id F
  obtain ⟨hO, hC, hV, hT, hZ, hq⟩ := hW
  refine lv_aload_n hx hb d_J0_indexOf_0f7a4_0 rfl (lv_at hl 0 rfl) ?_
  refine lv_iload_n hx hb d_J0_indexOf_0f7a4_1 rfl (lv_at hl 1 rfl) ?_
  refine lv_iconst (v := 0) hx hb d_J0_indexOf_0f7a4_2 rfl ?_
  refine sj_callV (av := [.int ch, .int 0]) (rest := []) F (sj_indexOf2 hN hp h0 h1) w_code_J0_indexOf_7cf53 w_ini_String w_lk_String_633_J0_indexOf_7cf53 w_inst_J0_indexOf_7cf53 w_sel_J0_indexOf_7cf53 rfl ⟨by decide, by decide, dd_J0_indexOf_7cf53⟩ (by decide) (sj_here hW0) (sj_recv hO) (va_S.rf (A := fun _ => False)) hl.1 (Nat.le_of_ble_eq_true rfl) (by decide) d_J0_indexOf_0f7a4_3 (fun locs1 hS1 => ?_)
  exact W.iret hx hb hr (fun t ht hW => sj_end hH ht rfl) hS1.2.2 d_J0_indexOf_0f7a4_6 hlk
end STR
