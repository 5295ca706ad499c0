theorem od_119_33 : decode (ov_byt 119) 33 = .ok (.ireturn, 1) := by decide +kernel
theorem od_119_24 : decode (ov_byt 119) 24 = .ok (.lload_n 0, 1) := by decide +kernel
theorem od_119_25 : decode (ov_byt 119) 25 = .ok (.goto 4, 3) := by decide +kernel
theorem od_119_21 : decode (ov_byt 119) 21 = .ok (.ifCond .eq 7, 3) := by decide +kernel
theorem od_119_17 : decode (ov_byt 119) 17 = .ok (.iconst 0, 1) := by decide +kernel
theorem od_119_18 : decode (ov_byt 119) 18 = .ok (.ireturn, 1) := by decide +kernel
theorem od_119_14 : decode (ov_byt 119) 14 = .ok (.ifCond .ne 5, 3) := by decide +kernel
theorem od_123_0 : decode (ov_byt 123) 0 = .ok (.iload_n 1, 1) := by decide +kernel
theorem oc_123_1 : ov_CL 123 1 0 49 := ⟨208, (606, 453, 0), (by show decode (ov_byt 123) 1 = Except.ok (Instr.invokestatic 208, 3); decide +kernel), by decide +kernel⟩
theorem od_123_9 : decode (ov_byt 123) 9 = .ok (.iload_n 2, 1) := by decide +kernel
theorem od_123_19 : decode (ov_byt 123) 19 = .ok (.bipush (-2), 2) := by decide +kernel
theorem od_123_21 : decode (ov_byt 123) 21 = .ok (.ireturn, 1) := by decide +kernel
theorem od_123_13 : decode (ov_byt 123) 13 = .ok (.iload_n 2, 1) := by decide +kernel
theorem od_123_14 : decode (ov_byt 123) 14 = .ok (.bipush 9, 2) := by decide +kernel
theorem od_123_22 : decode (ov_byt 123) 22 = .ok (.aload_n 0, 1) := by decide +kernel
theorem og_123_23 : ov_GF 123 23 0 6 := ⟨48, true, 268, by decide +kernel, by decide +kernel⟩
theorem od_123_26 : decode (ov_byt 123) 26 = .ok (.iload_n 1, 1) := by decide +kernel
theorem od_123_27 : decode (ov_byt 123) 27 = .ok (.iload_n 2, 1) := by decide +kernel
theorem oc_123_28 : ov_CL 123 28 1 124 := ⟨307, (785, 786, 787), (by show decode (ov_byt 123) 28 = Except.ok (Instr.invokevirtual 307, 3); decide +kernel), by decide +kernel⟩
theorem od_123_44 : decode (ov_byt 123) 44 = .ok (.bipush (-4), 2) := by decide +kernel
theorem od_123_46 : decode (ov_byt 123) 46 = .ok (.ireturn, 1) := by decide +kernel
theorem od_123_34 : decode (ov_byt 123) 34 = .ok (.aload_n 0, 1) := by decide +kernel
theorem og_123_35 : ov_GF 123 35 0 6 := ⟨48, true, 268, by decide +kernel, by decide +kernel⟩
theorem oc_123_38 : ov_CL 123 38 1 56 := ⟨135, (477, 478, 479), (by show decode (ov_byt 123) 38 = Except.ok (Instr.invokevirtual 135, 3); decide +kernel), by decide +kernel⟩
theorem od_123_41 : decode (ov_byt 123) 41 = .ok (.goto 5, 3) := by decide +kernel
theorem od_123_31 : decode (ov_byt 123) 31 = .ok (.ifCond .eq 13, 3) := by decide +kernel
theorem od_123_16 : decode (ov_byt 123) 16 = .ok (.if_icmp .le 6, 3) := by decide +kernel
theorem od_123_10 : decode (ov_byt 123) 10 = .ok (.ifCond .lt 9, 3) := by decide +kernel
theorem od_123_7 : decode (ov_byt 123) 7 = .ok (.iconst (-1), 1) := by decide +kernel
theorem od_123_8 : decode (ov_byt 123) 8 = .ok (.ireturn, 1) := by decide +kernel
theorem od_123_4 : decode (ov_byt 123) 4 = .ok (.ifCond .ne 5, 3) := by decide +kernel
theorem od_125_0 : decode (ov_byt 125) 0 = .ok (.aload_n 0, 1) := by decide +kernel
theorem og_125_1 : ov_GF 125 1 0 6 := ⟨48, true, 268, by decide +kernel, by decide +kernel⟩
theorem oc_125_4 : ov_CL 125 4 1 56 := ⟨135, (477, 478, 479), (by show decode (ov_byt 125) 4 = Except.ok (Instr.invokevirtual 135, 3); decide +kernel), by decide +kernel⟩
theorem od_125_7 : decode (ov_byt 125) 7 = .ok (.istore_n 1, 1) := by decide +kernel
theorem od_125_8 : decode (ov_byt 125) 8 = .ok (.aload_n 0, 1) := by decide +kernel
theorem og_125_9 : ov_GF 125 9 0 6 := ⟨48, true, 268, by decide +kernel, by decide +kernel⟩
theorem oc_125_12 : ov_CL 125 12 1 126 := ⟨309, (793, 794, 795), (by show decode (ov_byt 125) 12 = Except.ok (Instr.invokevirtual 309, 3); decide +kernel), by decide +kernel⟩
theorem od_125_15 : decode (ov_byt 125) 15 = .ok (.iload_n 1, 1) := by decide +kernel
theorem od_125_16 : decode (ov_byt 125) 16 = .ok (.ireturn, 1) := by decide +kernel
theorem od_140_0 : decode (ov_byt 140) 0 = .ok (.iload_n 1, 1) := by decide +kernel
theorem od_140_9 : decode (ov_byt 140) 9 = .ok (.iconst (-1), 1) := by decide +kernel
theorem od_140_10 : decode (ov_byt 140) 10 = .ok (.ireturn, 1) := by decide +kernel
theorem od_140_4 : decode (ov_byt 140) 4 = .ok (.iload_n 1, 1) := by decide +kernel
theorem od_140_5 : decode (ov_byt 140) 5 = .ok (.iconst 2, 1) := by decide +kernel
theorem od_140_11 : decode (ov_byt 140) 11 = .ok (.aload_n 0, 1) := by decide +kernel
theorem og_140_12 : ov_GF 140 12 0 9 := ⟨70, true, 271, by decide +kernel, by decide +kernel⟩
theorem od_140_15 : decode (ov_byt 140) 15 = .ok (.iload_n 1, 1) := by decide +kernel
theorem od_140_17 : decode (ov_byt 140) 17 = .ok (.aload_n 0, 1) := by decide +kernel
theorem og_140_18 : ov_GF 140 18 0 3 := ⟨31, true, 265, by decide +kernel, by decide +kernel⟩
theorem oc_140_21 : ov_CL 140 21 1 97 := ⟨242, (664, 665, 666), (by show decode (ov_byt 140) 21 = Except.ok (Instr.invokevirtual 242, 3); decide +kernel), by decide +kernel⟩
theorem od_140_24 : decode (ov_byt 140) 24 = .ok (.aload_n 0, 1) := by decide +kernel
theorem od_140_25 : decode (ov_byt 140) 25 = .ok (.aload_n 0, 1) := by decide +kernel
theorem og_140_26 : ov_GF 140 26 0 10 := ⟨74, false, 272, by decide +kernel, by decide +kernel⟩
theorem od_140_29 : decode (ov_byt 140) 29 = .ok (.iload_n 1, 1) := by decide +kernel
theorem oc_140_30 : ov_CL 140 30 0 27 := ⟨304, (780, 361, 0), (by show decode (ov_byt 140) 30 = Except.ok (Instr.invokestatic 304, 3); decide +kernel), by decide +kernel⟩
theorem op_140_33 : ov_PF 140 33 0 10 := ⟨74, 272, by decide +kernel, by decide +kernel⟩
theorem od_140_36 : decode (ov_byt 140) 36 = .ok (.aload_n 0, 1) := by decide +kernel
theorem og_140_37 : ov_GF 140 37 0 3 := ⟨31, true, 265, by decide +kernel, by decide +kernel⟩
theorem oc_140_40 : ov_CL 140 40 1 54 := ⟨131, (469, 470, 471), (by show decode (ov_byt 140) 40 = Except.ok (Instr.invokevirtual 131, 3); decide +kernel), by decide +kernel⟩
theorem od_140_43 : decode (ov_byt 140) 43 = .ok (.ireturn, 1) := by decide +kernel
theorem od_140_16 : decode (ov_byt 140) 16 = .ok (.aaload, 1) := by decide +kernel
theorem od_140_6 : decode (ov_byt 140) 6 = .ok (.if_icmp .lt 5, 3) := by decide +kernel
theorem od_140_1 : decode (ov_byt 140) 1 = .ok (.ifCond .lt 8, 3) := by decide +kernel
theorem od_141_0 : decode (ov_byt 141) 0 = .ok (.iload_n 1, 1) := by decide +kernel
theorem od_141_9 : decode (ov_byt 141) 9 = .ok (.iconst (-1), 1) := by decide +kernel
theorem od_141_10 : decode (ov_byt 141) 10 = .ok (.ireturn, 1) := by decide +kernel
theorem od_141_4 : decode (ov_byt 141) 4 = .ok (.iload_n 1, 1) := by decide +kernel
theorem od_141_5 : decode (ov_byt 141) 5 = .ok (.iconst 2, 1) := by decide +kernel
theorem od_141_11 : decode (ov_byt 141) 11 = .ok (.aload_n 0, 1) := by decide +kernel
theorem og_141_12 : ov_GF 141 12 0 10 := ⟨74, false, 272, by decide +kernel, by decide +kernel⟩
theorem od_141_15 : decode (ov_byt 141) 15 = .ok (.iload_n 1, 1) := by decide +kernel
theorem oc_141_16 : ov_CL 141 16 0 23 := ⟨186, (548, 346, 0), (by show decode (ov_byt 141) 16 = Except.ok (Instr.invokestatic 186, 3); decide +kernel), by decide +kernel⟩
theorem od_141_25 : decode (ov_byt 141) 25 = .ok (.aload_n 0, 1) := by decide +kernel
theorem og_141_26 : ov_GF 141 26 0 3 := ⟨31, true, 265, by decide +kernel, by decide +kernel⟩
theorem od_141_29 : decode (ov_byt 141) 29 = .ok (.aload_n 0, 1) := by decide +kernel
theorem og_141_30 : ov_GF 141 30 0 9 := ⟨70, true, 271, by decide +kernel, by decide +kernel⟩
theorem od_141_33 : decode (ov_byt 141) 33 = .ok (.iload_n 1, 1) := by decide +kernel
theorem oc_141_35 : ov_CL 141 35 1 97 := ⟨242, (664, 665, 666), (by show decode (ov_byt 141) 35 = Except.ok (Instr.invokevirtual 242, 3); decide +kernel), by decide +kernel⟩
theorem od_141_38 : decode (ov_byt 141) 38 = .ok (.aload_n 0, 1) := by decide +kernel
theorem og_141_39 : ov_GF 141 39 0 5 := ⟨41, true, 267, by decide +kernel, by decide +kernel⟩
theorem oc_141_42 : ov_CL 141 42 1 31 := ⟨100, (376, 377, 378), (by show decode (ov_byt 141) 42 = Except.ok (Instr.invokevirtual 100, 3); decide +kernel), by decide +kernel⟩
theorem od_141_45 : decode (ov_byt 141) 45 = .ok (.aload_n 0, 1) := by decide +kernel
theorem og_141_46 : ov_GF 141 46 0 3 := ⟨31, true, 265, by decide +kernel, by decide +kernel⟩
theorem oc_141_49 : ov_CL 141 49 1 54 := ⟨131, (469, 470, 471), (by show decode (ov_byt 141) 49 = Except.ok (Instr.invokevirtual 131, 3); decide +kernel), by decide +kernel⟩
theorem od_141_52 : decode (ov_byt 141) 52 = .ok (.ireturn, 1) := by decide +kernel
theorem od_141_34 : decode (ov_byt 141) 34 = .ok (.aaload, 1) := by decide +kernel
theorem od_141_22 : decode (ov_byt 141) 22 = .ok (.bipush (-3), 2) := by decide +kernel
theorem od_141_24 : decode (ov_byt 141) 24 = .ok (.ireturn, 1) := by decide +kernel
theorem od_141_19 : decode (ov_byt 141) 19 = .ok (.ifCond .ne 6, 3) := by decide +kernel
theorem od_141_6 : decode (ov_byt 141) 6 = .ok (.if_icmp .lt 5, 3) := by decide +kernel
theorem od_141_1 : decode (ov_byt 141) 1 = .ok (.ifCond .lt 8, 3) := by decide +kernel
theorem od_143_0 : decode (ov_byt 143) 0 = .ok (.aload_n 0, 1) := by decide +kernel
theorem od_143_1 : decode (ov_byt 143) 1 = .ok (.iconst 0, 1) := by decide +kernel
theorem op_143_2 : ov_PF 143 2 8 0 := ⟨83, 871, by decide +kernel, by decide +kernel⟩
theorem od_143_5 : decode (ov_byt 143) 5 = .ok (.iload_n 1, 1) := by decide +kernel
theorem od_143_6 : decode (ov_byt 143) 6 = .ok (.i2l, 1) := by decide +kernel
theorem od_143_7 : decode (ov_byt 143) 7 = .ok (.lconst 0, 1) := by decide +kernel
theorem ok_143_8 : ∃ w, ov_find ov_k2t (99 * 32 + ov_oc 143) = some ((255 : Int64), w) := ⟨1005, by decide +kernel⟩
theorem od_143_8 : decode (ov_byt 143) 8 = .ok (.ldc2_w 99, 3) := by decide +kernel
theorem oc_143_11 : ov_CL 143 11 0 144 := ⟨90, (1006, 1007, 0), (by show decode (ov_byt 143) 11 = Except.ok (Instr.invokestatic 90, 3); decide +kernel), by decide +kernel⟩
theorem od_143_20 : decode (ov_byt 143) 20 = .ok (.aload_n 0, 1) := by decide +kernel
theorem og_143_21 : ov_GF 143 21 8 2 := ⟨101, false, 873, by decide +kernel, by decide +kernel⟩
theorem od_143_24 : decode (ov_byt 143) 24 = .ok (.bipush 60, 2) := by decide +kernel
theorem od_143_32 : decode (ov_byt 143) 32 = .ok (.aload_n 0, 1) := by decide +kernel
theorem og_143_33 : ov_GF 143 33 8 1 := ⟨7, true, 872, by decide +kernel, by decide +kernel⟩
theorem od_143_36 : decode (ov_byt 143) 36 = .ok (.aload_n 0, 1) := by decide +kernel
theorem og_143_37 : ov_GF 143 37 8 2 := ⟨101, false, 873, by decide +kernel, by decide +kernel⟩
theorem od_143_40 : decode (ov_byt 143) 40 = .ok (.iload_n 1, 1) := by decide +kernel
theorem od_143_41 : decode (ov_byt 143) 41 = .ok (.iastore, 1) := by decide +kernel
theorem od_143_42 : decode (ov_byt 143) 42 = .ok (.aload_n 0, 1) := by decide +kernel
theorem od_143_43 : decode (ov_byt 143) 43 = .ok (.dup, 1) := by decide +kernel
theorem og_143_44 : ov_GF 143 44 8 2 := ⟨101, false, 873, by decide +kernel, by decide +kernel⟩
theorem od_143_47 : decode (ov_byt 143) 47 = .ok (.iconst 1, 1) := by decide +kernel
theorem od_143_48 : decode (ov_byt 143) 48 = .ok (.iadd, 1) := by decide +kernel
theorem op_143_49 : ov_PF 143 49 8 2 := ⟨101, 873, by decide +kernel, by decide +kernel⟩
theorem od_143_52 : decode (ov_byt 143) 52 = .ok (.aload_n 0, 1) := by decide +kernel
theorem og_143_53 : ov_GF 143 53 8 2 := ⟨101, false, 873, by decide +kernel, by decide +kernel⟩
theorem od_143_56 : decode (ov_byt 143) 56 = .ok (.ireturn, 1) := by decide +kernel
theorem od_143_29 : decode (ov_byt 143) 29 = .ok (.bipush (-4), 2) := by decide +kernel
theorem od_143_31 : decode (ov_byt 143) 31 = .ok (.ireturn, 1) := by decide +kernel
theorem od_143_26 : decode (ov_byt 143) 26 = .ok (.if_icmp .ne 6, 3) := by decide +kernel
theorem od_143_17 : decode (ov_byt 143) 17 = .ok (.bipush (-2), 2) := by decide +kernel
theorem od_143_19 : decode (ov_byt 143) 19 = .ok (.ireturn, 1) := by decide +kernel
theorem od_143_14 : decode (ov_byt 143) 14 = .ok (.ifCond .ne 6, 3) := by decide +kernel
theorem od_151_0 : decode (ov_byt 151) 0 = .ok (.aload_n 0, 1) := by decide +kernel
theorem og_151_1 : ov_GF 151 1 8 3 := ⟨104, false, 874, by decide +kernel, by decide +kernel⟩
theorem od_151_4 : decode (ov_byt 151) 4 = .ok (.aload_n 0, 1) := by decide +kernel
theorem og_151_5 : ov_GF 151 5 8 2 := ⟨101, false, 873, by decide +kernel, by decide +kernel⟩
theorem od_151_16 : decode (ov_byt 151) 16 = .ok (.aload_n 0, 1) := by decide +kernel
theorem og_151_17 : ov_GF 151 17 8 1 := ⟨7, true, 872, by decide +kernel, by decide +kernel⟩
theorem od_151_20 : decode (ov_byt 151) 20 = .ok (.aload_n 0, 1) := by decide +kernel
theorem og_151_21 : ov_GF 151 21 8 3 := ⟨104, false, 874, by decide +kernel, by decide +kernel⟩
theorem od_151_24 : decode (ov_byt 151) 24 = .ok (.iaload, 1) := by decide +kernel
theorem od_151_25 : decode (ov_byt 151) 25 = .ok (.bipush 97, 2) := by decide +kernel
theorem od_151_27 : decode (ov_byt 151) 27 = .ok (.isub, 1) := by decide +kernel
theorem od_151_28 : decode (ov_byt 151) 28 = .ok (.istore_n 2, 1) := by decide +kernel
theorem od_151_29 : decode (ov_byt 151) 29 = .ok (.iload_n 2, 1) := by decide +kernel
theorem od_151_30 : decode (ov_byt 151) 30 = .ok (.i2l, 1) := by decide +kernel
theorem od_151_31 : decode (ov_byt 151) 31 = .ok (.iload_n 1, 1) := by decide +kernel
theorem od_151_32 : decode (ov_byt 151) 32 = .ok (.i2l, 1) := by decide +kernel
theorem ok_151_33 : ∃ w, ov_find ov_k2t (97 * 32 + ov_oc 151) = some ((17 : Int64), w) := ⟨1037, by decide +kernel⟩
theorem od_151_33 : decode (ov_byt 151) 33 = .ok (.ldc2_w 97, 3) := by decide +kernel
theorem oc_151_36 : ov_CL 151 36 0 144 := ⟨90, (1006, 1007, 0), (by show decode (ov_byt 151) 36 = Except.ok (Instr.invokestatic 90, 3); decide +kernel), by decide +kernel⟩
theorem od_151_53 : decode (ov_byt 151) 53 = .ok (.bipush (-9), 2) := by decide +kernel
theorem od_151_55 : decode (ov_byt 151) 55 = .ok (.ireturn, 1) := by decide +kernel
theorem od_151_42 : decode (ov_byt 151) 42 = .ok (.aload_n 0, 1) := by decide +kernel
theorem oc_151_43 : ov_CL 151 43 1 149 := ⟨113, (1025, 1027, 18), (by show decode (ov_byt 151) 43 = Except.ok (Instr.invokevirtual 113, 3); decide +kernel), by decide +kernel⟩
theorem od_151_46 : decode (ov_byt 151) 46 = .ok (.iload_n 2, 1) := by decide +kernel
theorem oc_151_47 : ov_CL 151 47 0 152 := ⟨117, (1038, 1039, 0), (by show decode (ov_byt 151) 47 = Except.ok (Instr.invokestatic 117, 3); decide +kernel), by decide +kernel⟩
theorem od_151_56 : decode (ov_byt 151) 56 = .ok (.aload_n 0, 1) := by decide +kernel
theorem od_151_57 : decode (ov_byt 151) 57 = .ok (.dup, 1) := by decide +kernel
theorem og_151_58 : ov_GF 151 58 8 3 := ⟨104, false, 874, by decide +kernel, by decide +kernel⟩
theorem od_151_61 : decode (ov_byt 151) 61 = .ok (.iconst 1, 1) := by decide +kernel
theorem od_151_62 : decode (ov_byt 151) 62 = .ok (.iadd, 1) := by decide +kernel
theorem op_151_63 : ov_PF 151 63 8 3 := ⟨104, 874, by decide +kernel, by decide +kernel⟩
theorem od_151_66 : decode (ov_byt 151) 66 = .ok (.iload_n 2, 1) := by decide +kernel
theorem od_151_67 : decode (ov_byt 151) 67 = .ok (.ireturn, 1) := by decide +kernel
theorem od_151_50 : decode (ov_byt 151) 50 = .ok (.ifCond .eq 6, 3) := by decide +kernel
theorem od_151_39 : decode (ov_byt 151) 39 = .ok (.ifCond .eq 14, 3) := by decide +kernel
theorem od_151_11 : decode (ov_byt 151) 11 = .ok (.bipush (-9), 2) := by decide +kernel
theorem od_151_13 : decode (ov_byt 151) 13 = .ok (.goto 15, 3) := by decide +kernel
theorem od_151_8 : decode (ov_byt 151) 8 = .ok (.if_icmp .ne 8, 3) := by decide +kernel
theorem od_155_0 : decode (ov_byt 155) 0 = .ok (.aload_n 0, 1) := by decide +kernel
theorem og_155_1 : ov_GF 155 1 8 3 := ⟨104, false, 874, by decide +kernel, by decide +kernel⟩
theorem od_155_4 : decode (ov_byt 155) 4 = .ok (.aload_n 0, 1) := by decide +kernel
theorem og_155_5 : ov_GF 155 5 8 2 := ⟨101, false, 873, by decide +kernel, by decide +kernel⟩
theorem od_155_34 : decode (ov_byt 155) 34 = .ok (.bipush (-9), 2) := by decide +kernel
theorem od_155_36 : decode (ov_byt 155) 36 = .ok (.ireturn, 1) := by decide +kernel
theorem od_155_11 : decode (ov_byt 155) 11 = .ok (.aload_n 0, 1) := by decide +kernel
theorem og_155_12 : ov_GF 155 12 8 1 := ⟨7, true, 872, by decide +kernel, by decide +kernel⟩
theorem od_155_15 : decode (ov_byt 155) 15 = .ok (.aload_n 0, 1) := by decide +kernel
theorem og_155_16 : ov_GF 155 16 8 3 := ⟨104, false, 874, by decide +kernel, by decide +kernel⟩
theorem od_155_19 : decode (ov_byt 155) 19 = .ok (.iaload, 1) := by decide +kernel
theorem od_155_20 : decode (ov_byt 155) 20 = .ok (.bipush 48, 2) := by decide +kernel
theorem od_155_22 : decode (ov_byt 155) 22 = .ok (.isub, 1) := by decide +kernel
theorem od_155_23 : decode (ov_byt 155) 23 = .ok (.i2l, 1) := by decide +kernel
theorem od_155_24 : decode (ov_byt 155) 24 = .ok (.iload_n 1, 1) := by decide +kernel
theorem od_155_25 : decode (ov_byt 155) 25 = .ok (.i2l, 1) := by decide +kernel
theorem od_155_26 : decode (ov_byt 155) 26 = .ok (.iload_n 2, 1) := by decide +kernel
theorem od_155_27 : decode (ov_byt 155) 27 = .ok (.i2l, 1) := by decide +kernel
theorem oc_155_28 : ov_CL 155 28 0 144 := ⟨90, (1006, 1007, 0), (by show decode (ov_byt 155) 28 = Except.ok (Instr.invokestatic 90, 3); decide +kernel), by decide +kernel⟩
theorem od_155_37 : decode (ov_byt 155) 37 = .ok (.aload_n 0, 1) := by decide +kernel
theorem od_155_38 : decode (ov_byt 155) 38 = .ok (.dup, 1) := by decide +kernel
theorem og_155_39 : ov_GF 155 39 8 3 := ⟨104, false, 874, by decide +kernel, by decide +kernel⟩
theorem od_155_42 : decode (ov_byt 155) 42 = .ok (.iconst 1, 1) := by decide +kernel
theorem od_155_43 : decode (ov_byt 155) 43 = .ok (.iadd, 1) := by decide +kernel
theorem op_155_44 : ov_PF 155 44 8 3 := ⟨104, 874, by decide +kernel, by decide +kernel⟩
theorem od_155_47 : decode (ov_byt 155) 47 = .ok (.aload_n 0, 1) := by decide +kernel
theorem og_155_48 : ov_GF 155 48 8 1 := ⟨7, true, 872, by decide +kernel, by decide +kernel⟩
theorem od_155_51 : decode (ov_byt 155) 51 = .ok (.aload_n 0, 1) := by decide +kernel
theorem og_155_52 : ov_GF 155 52 8 3 := ⟨104, false, 874, by decide +kernel, by decide +kernel⟩
theorem od_155_55 : decode (ov_byt 155) 55 = .ok (.iconst 1, 1) := by decide +kernel
theorem od_155_56 : decode (ov_byt 155) 56 = .ok (.isub, 1) := by decide +kernel
theorem od_155_57 : decode (ov_byt 155) 57 = .ok (.iaload, 1) := by decide +kernel
theorem od_155_58 : decode (ov_byt 155) 58 = .ok (.bipush 48, 2) := by decide +kernel
theorem od_155_60 : decode (ov_byt 155) 60 = .ok (.isub, 1) := by decide +kernel
theorem od_155_61 : decode (ov_byt 155) 61 = .ok (.ireturn, 1) := by decide +kernel
theorem od_155_31 : decode (ov_byt 155) 31 = .ok (.ifCond .ne 6, 3) := by decide +kernel
theorem od_155_8 : decode (ov_byt 155) 8 = .ok (.if_icmp .eq 26, 3) := by decide +kernel
theorem od_161_0 : decode (ov_byt 161) 0 = .ok (.iconst 0, 1) := by decide +kernel
theorem od_161_1 : decode (ov_byt 161) 1 = .ok (.istore_n 2, 1) := by decide +kernel
theorem od_161_2 : decode (ov_byt 161) 2 = .ok (.iconst 0, 1) := by decide +kernel
theorem od_161_3 : decode (ov_byt 161) 3 = .ok (.istore_n 3, 1) := by decide +kernel
theorem od_161_4 : decode (ov_byt 161) 4 = .ok (.iload_n 3, 1) := by decide +kernel
theorem od_161_5 : decode (ov_byt 161) 5 = .ok (.aload_n 0, 1) := by decide +kernel
theorem og_161_6 : ov_GF 161 6 8 7 := ⟨87, false, 878, by decide +kernel, by decide +kernel⟩
theorem od_161_12 : decode (ov_byt 161) 12 = .ok (.iload_n 2, 1) := by decide +kernel
theorem od_161_13 : decode (ov_byt 161) 13 = .ok (.aload_n 0, 1) := by decide +kernel
theorem od_161_14 : decode (ov_byt 161) 14 = .ok (.aload_n 1, 1) := by decide +kernel
theorem od_161_15 : decode (ov_byt 161) 15 = .ok (.iload_n 3, 1) := by decide +kernel
theorem oc_161_16 : ov_CL 161 16 1 162 := ⟨192, (1076, 1078, 27), (by show decode (ov_byt 161) 16 = Except.ok (Instr.invokevirtual 192, 3); decide +kernel), by decide +kernel⟩
theorem od_161_28 : decode (ov_byt 161) 28 = .ok (.iconst 0, 1) := by decide +kernel
theorem od_161_29 : decode (ov_byt 161) 29 = .ok (.ior, 1) := by decide +kernel
theorem od_161_30 : decode (ov_byt 161) 30 = .ok (.istore_n 2, 1) := by decide +kernel
theorem od_161_31 : decode (ov_byt 161) 31 = .ok (.iinc 3 1, 3) := by decide +kernel
theorem od_161_34 : decode (ov_byt 161) 34 = .ok (.goto (-30), 3) := by decide +kernel
theorem od_161_22 : decode (ov_byt 161) 22 = .ok (.iconst 1, 1) := by decide +kernel
theorem od_161_23 : decode (ov_byt 161) 23 = .ok (.iload_n 3, 1) := by decide +kernel
theorem od_161_24 : decode (ov_byt 161) 24 = .ok (.ishl, 1) := by decide +kernel
theorem od_161_25 : decode (ov_byt 161) 25 = .ok (.goto 4, 3) := by decide +kernel
theorem od_161_19 : decode (ov_byt 161) 19 = .ok (.ifCond .eq 9, 3) := by decide +kernel
theorem od_161_9 : decode (ov_byt 161) 9 = .ok (.if_icmp .ge 28, 3) := by decide +kernel
theorem od_161_37 : decode (ov_byt 161) 37 = .ok (.iload_n 2, 1) := by decide +kernel
theorem od_161_38 : decode (ov_byt 161) 38 = .ok (.ireturn, 1) := by decide +kernel
theorem od_166_0 : decode (ov_byt 166) 0 = .ok (.iload_n 1, 1) := by decide +kernel
theorem od_166_1 : decode (ov_byt 166) 1 = .ok (.bipush 6, 2) := by decide +kernel
theorem od_166_3 : decode (ov_byt 166) 3 = .ok (.idiv, 1) := by decide +kernel
theorem od_166_4 : decode (ov_byt 166) 4 = .ok (.iload_n 0, 1) := by decide +kernel
theorem od_166_5 : decode (ov_byt 166) 5 = .ok (.bipush 6, 2) := by decide +kernel
theorem od_166_7 : decode (ov_byt 166) 7 = .ok (.idiv, 1) := by decide +kernel
theorem od_166_8 : decode (ov_byt 166) 8 = .ok (.isub, 1) := by decide +kernel
theorem od_166_9 : decode (ov_byt 166) 9 = .ok (.istore_n 2, 1) := by decide +kernel
theorem od_166_10 : decode (ov_byt 166) 10 = .ok (.iload_n 1, 1) := by decide +kernel
theorem od_166_11 : decode (ov_byt 166) 11 = .ok (.bipush 6, 2) := by decide +kernel
theorem od_166_13 : decode (ov_byt 166) 13 = .ok (.irem, 1) := by decide +kernel
theorem od_166_14 : decode (ov_byt 166) 14 = .ok (.iload_n 0, 1) := by decide +kernel
theorem od_166_15 : decode (ov_byt 166) 15 = .ok (.bipush 6, 2) := by decide +kernel
theorem od_166_17 : decode (ov_byt 166) 17 = .ok (.irem, 1) := by decide +kernel
theorem od_166_18 : decode (ov_byt 166) 18 = .ok (.isub, 1) := by decide +kernel
theorem od_166_19 : decode (ov_byt 166) 19 = .ok (.istore_n 3, 1) := by decide +kernel
theorem od_166_20 : decode (ov_byt 166) 20 = .ok (.iload_n 0, 1) := by decide +kernel
theorem od_166_21 : decode (ov_byt 166) 21 = .ok (.iload_n 1, 1) := by decide +kernel
theorem od_166_44 : decode (ov_byt 166) 44 = .ok (.bipush (-9), 2) := by decide +kernel
theorem od_166_46 : decode (ov_byt 166) 46 = .ok (.ireturn, 1) := by decide +kernel
theorem od_166_25 : decode (ov_byt 166) 25 = .ok (.iload_n 2, 1) := by decide +kernel
theorem od_166_47 : decode (ov_byt 166) 47 = .ok (.iload_n 2, 1) := by decide +kernel
theorem od_166_56 : decode (ov_byt 166) 56 = .ok (.iload_n 2, 1) := by decide +kernel
theorem od_166_65 : decode (ov_byt 166) 65 = .ok (.iconst 0, 1) := by decide +kernel
theorem od_166_66 : decode (ov_byt 166) 66 = .ok (.iload_n 3, 1) := by decide +kernel
theorem od_166_74 : decode (ov_byt 166) 74 = .ok (.iload_n 3, 1) := by decide +kernel
theorem od_166_82 : decode (ov_byt 166) 82 = .ok (.iconst 0, 1) := by decide +kernel
theorem od_166_83 : decode (ov_byt 166) 83 = .ok (.iadd, 1) := by decide +kernel
theorem od_166_84 : decode (ov_byt 166) 84 = .ok (.istore 4, 2) := by decide +kernel
theorem od_166_86 : decode (ov_byt 166) 86 = .ok (.iconst 0, 1) := by decide +kernel
theorem od_166_87 : decode (ov_byt 166) 87 = .ok (.istore 5, 2) := by decide +kernel
theorem od_166_89 : decode (ov_byt 166) 89 = .ok (.iload_n 0, 1) := by decide +kernel
theorem od_166_90 : decode (ov_byt 166) 90 = .ok (.iload 4, 2) := by decide +kernel
theorem od_166_92 : decode (ov_byt 166) 92 = .ok (.iadd, 1) := by decide +kernel
theorem od_166_93 : decode (ov_byt 166) 93 = .ok (.istore 6, 2) := by decide +kernel
theorem od_166_95 : decode (ov_byt 166) 95 = .ok (.iload 6, 2) := by decide +kernel
theorem od_166_97 : decode (ov_byt 166) 97 = .ok (.iload_n 1, 1) := by decide +kernel
theorem od_166_101 : decode (ov_byt 166) 101 = .ok (.iload 5, 2) := by decide +kernel
theorem od_166_103 : decode (ov_byt 166) 103 = .ok (.iconst 1, 1) := by decide +kernel
theorem od_166_104 : decode (ov_byt 166) 104 = .ok (.iload 6, 2) := by decide +kernel
theorem od_166_106 : decode (ov_byt 166) 106 = .ok (.ishl, 1) := by decide +kernel
theorem od_166_107 : decode (ov_byt 166) 107 = .ok (.ior, 1) := by decide +kernel
theorem od_166_108 : decode (ov_byt 166) 108 = .ok (.istore 5, 2) := by decide +kernel
theorem od_166_110 : decode (ov_byt 166) 110 = .ok (.iload 6, 2) := by decide +kernel
theorem od_166_112 : decode (ov_byt 166) 112 = .ok (.iload 4, 2) := by decide +kernel
theorem od_166_114 : decode (ov_byt 166) 114 = .ok (.iadd, 1) := by decide +kernel
theorem od_166_115 : decode (ov_byt 166) 115 = .ok (.istore 6, 2) := by decide +kernel
theorem od_166_117 : decode (ov_byt 166) 117 = .ok (.goto (-22), 3) := by decide +kernel
theorem od_166_98 : decode (ov_byt 166) 98 = .ok (.if_icmp .eq 22, 3) := by decide +kernel
theorem od_166_120 : decode (ov_byt 166) 120 = .ok (.iload 5, 2) := by decide +kernel
theorem od_166_122 : decode (ov_byt 166) 122 = .ok (.ireturn, 1) := by decide +kernel
theorem od_166_78 : decode (ov_byt 166) 78 = .ok (.iconst (-1), 1) := by decide +kernel
theorem od_166_79 : decode (ov_byt 166) 79 = .ok (.goto 4, 3) := by decide +kernel
theorem od_166_75 : decode (ov_byt 166) 75 = .ok (.ifCond .ge 7, 3) := by decide +kernel
theorem od_166_70 : decode (ov_byt 166) 70 = .ok (.iconst 1, 1) := by decide +kernel
theorem od_166_71 : decode (ov_byt 166) 71 = .ok (.goto 12, 3) := by decide +kernel
theorem od_166_67 : decode (ov_byt 166) 67 = .ok (.ifCond .le 7, 3) := by decide +kernel
theorem od_166_60 : decode (ov_byt 166) 60 = .ok (.bipush (-6), 2) := by decide +kernel
theorem od_166_62 : decode (ov_byt 166) 62 = .ok (.goto 4, 3) := by decide +kernel
theorem od_166_57 : decode (ov_byt 166) 57 = .ok (.ifCond .ge 8, 3) := by decide +kernel
theorem od_166_51 : decode (ov_byt 166) 51 = .ok (.bipush 6, 2) := by decide +kernel
theorem od_166_53 : decode (ov_byt 166) 53 = .ok (.goto 13, 3) := by decide +kernel
theorem od_166_48 : decode (ov_byt 166) 48 = .ok (.ifCond .le 8, 3) := by decide +kernel
theorem od_166_29 : decode (ov_byt 166) 29 = .ok (.iload_n 3, 1) := by decide +kernel
theorem od_166_33 : decode (ov_byt 166) 33 = .ok (.iload_n 2, 1) := by decide +kernel
theorem oc_166_34 : ov_CL 166 34 0 167 := ⟨174, (1095, 1096, 0), (by show decode (ov_byt 166) 34 = Except.ok (Instr.invokestatic 174, 3); decide +kernel), by decide +kernel⟩
theorem od_166_37 : decode (ov_byt 166) 37 = .ok (.iload_n 3, 1) := by decide +kernel
theorem oc_166_38 : ov_CL 166 38 0 167 := ⟨174, (1095, 1096, 0), (by show decode (ov_byt 166) 38 = Except.ok (Instr.invokestatic 174, 3); decide +kernel), by decide +kernel⟩
theorem od_166_41 : decode (ov_byt 166) 41 = .ok (.if_icmp .eq 6, 3) := by decide +kernel
theorem od_166_30 : decode (ov_byt 166) 30 = .ok (.ifCond .eq 17, 3) := by decide +kernel
theorem od_166_26 : decode (ov_byt 166) 26 = .ok (.ifCond .eq 21, 3) := by decide +kernel
theorem od_166_22 : decode (ov_byt 166) 22 = .ok (.if_icmp .eq 22, 3) := by decide +kernel
theorem od_169_0 : decode (ov_byt 169) 0 = .ok (.iconst 0, 1) := by decide +kernel
theorem od_169_1 : decode (ov_byt 169) 1 = .ok (.istore_n 3, 1) := by decide +kernel
theorem od_169_2 : decode (ov_byt 169) 2 = .ok (.iconst 0, 1) := by decide +kernel
theorem od_169_3 : decode (ov_byt 169) 3 = .ok (.istore 4, 2) := by decide +kernel
theorem od_169_5 : decode (ov_byt 169) 5 = .ok (.iload 4, 2) := by decide +kernel
theorem od_169_7 : decode (ov_byt 169) 7 = .ok (.aload_n 0, 1) := by decide +kernel
theorem og_169_8 : ov_GF 169 8 8 7 := ⟨87, false, 878, by decide +kernel, by decide +kernel⟩
theorem od_169_14 : decode (ov_byt 169) 14 = .ok (.aload_n 1, 1) := by decide +kernel
theorem od_169_15 : decode (ov_byt 169) 15 = .ok (.iconst 0, 1) := by decide +kernel
theorem od_169_16 : decode (ov_byt 169) 16 = .ok (.iload 4, 2) := by decide +kernel
theorem od_169_18 : decode (ov_byt 169) 18 = .ok (.iadd, 1) := by decide +kernel
theorem od_169_19 : decode (ov_byt 169) 19 = .ok (.iaload, 1) := by decide +kernel
theorem od_169_20 : decode (ov_byt 169) 20 = .ok (.bipush (-9), 2) := by decide +kernel
theorem od_169_53 : decode (ov_byt 169) 53 = .ok (.iconst 0, 1) := by decide +kernel
theorem od_169_54 : decode (ov_byt 169) 54 = .ok (.istore 5, 2) := by decide +kernel
theorem od_169_56 : decode (ov_byt 169) 56 = .ok (.iload_n 3, 1) := by decide +kernel
theorem od_169_57 : decode (ov_byt 169) 57 = .ok (.iload 5, 2) := by decide +kernel
theorem od_169_69 : decode (ov_byt 169) 69 = .ok (.iconst 0, 1) := by decide +kernel
theorem od_169_70 : decode (ov_byt 169) 70 = .ok (.ior, 1) := by decide +kernel
theorem od_169_71 : decode (ov_byt 169) 71 = .ok (.istore_n 3, 1) := by decide +kernel
theorem od_169_72 : decode (ov_byt 169) 72 = .ok (.iinc 4 1, 3) := by decide +kernel
theorem od_169_75 : decode (ov_byt 169) 75 = .ok (.goto (-70), 3) := by decide +kernel
theorem od_169_62 : decode (ov_byt 169) 62 = .ok (.iconst 1, 1) := by decide +kernel
theorem od_169_63 : decode (ov_byt 169) 63 = .ok (.iload 4, 2) := by decide +kernel
theorem od_169_65 : decode (ov_byt 169) 65 = .ok (.ishl, 1) := by decide +kernel
theorem od_169_66 : decode (ov_byt 169) 66 = .ok (.goto 4, 3) := by decide +kernel
theorem od_169_59 : decode (ov_byt 169) 59 = .ok (.ifCond .eq 10, 3) := by decide +kernel
theorem od_169_25 : decode (ov_byt 169) 25 = .ok (.aload_n 0, 1) := by decide +kernel
theorem og_169_26 : ov_GF 169 26 8 9 := ⟨19, true, 880, by decide +kernel, by decide +kernel⟩
theorem od_169_29 : decode (ov_byt 169) 29 = .ok (.iload 4, 2) := by decide +kernel
theorem od_169_31 : decode (ov_byt 169) 31 = .ok (.iaload, 1) := by decide +kernel
theorem od_169_32 : decode (ov_byt 169) 32 = .ok (.iconst 2, 1) := by decide +kernel
theorem od_169_36 : decode (ov_byt 169) 36 = .ok (.iload_n 2, 1) := by decide +kernel
theorem od_169_37 : decode (ov_byt 169) 37 = .ok (.aload_n 1, 1) := by decide +kernel
theorem od_169_38 : decode (ov_byt 169) 38 = .ok (.iconst 0, 1) := by decide +kernel
theorem od_169_39 : decode (ov_byt 169) 39 = .ok (.iload 4, 2) := by decide +kernel
theorem od_169_41 : decode (ov_byt 169) 41 = .ok (.iadd, 1) := by decide +kernel
theorem od_169_42 : decode (ov_byt 169) 42 = .ok (.iaload, 1) := by decide +kernel
theorem oc_169_43 : ov_CL 169 43 0 152 := ⟨117, (1038, 1039, 0), (by show decode (ov_byt 169) 43 = Except.ok (Instr.invokestatic 117, 3); decide +kernel), by decide +kernel⟩
theorem od_169_49 : decode (ov_byt 169) 49 = .ok (.iconst 1, 1) := by decide +kernel
theorem od_169_50 : decode (ov_byt 169) 50 = .ok (.goto 4, 3) := by decide +kernel
theorem od_169_46 : decode (ov_byt 169) 46 = .ok (.ifCond .eq 7, 3) := by decide +kernel
theorem od_169_33 : decode (ov_byt 169) 33 = .ok (.if_icmp .eq 20, 3) := by decide +kernel
theorem od_169_22 : decode (ov_byt 169) 22 = .ok (.if_icmp .eq 31, 3) := by decide +kernel
theorem od_169_11 : decode (ov_byt 169) 11 = .ok (.if_icmp .ge 67, 3) := by decide +kernel
theorem od_169_78 : decode (ov_byt 169) 78 = .ok (.iload_n 3, 1) := by decide +kernel
theorem od_169_79 : decode (ov_byt 169) 79 = .ok (.ireturn, 1) := by decide +kernel
theorem od_170_0 : decode (ov_byt 170) 0 = .ok (.aload_n 0, 1) := by decide +kernel
theorem od_170_1 : decode (ov_byt 170) 1 = .ok (.aload_n 1, 1) := by decide +kernel
theorem oc_170_2 : ov_CL 170 2 1 168 := ⟨167, (1098, 1100, 31), (by show decode (ov_byt 170) 2 = Except.ok (Instr.invokevirtual 167, 3); decide +kernel), by decide +kernel⟩
theorem od_170_5 : decode (ov_byt 170) 5 = .ok (.istore_n 2, 1) := by decide +kernel
theorem od_170_6 : decode (ov_byt 170) 6 = .ok (.iconst 0, 1) := by decide +kernel
theorem od_170_7 : decode (ov_byt 170) 7 = .ok (.istore_n 3, 1) := by decide +kernel
theorem od_170_8 : decode (ov_byt 170) 8 = .ok (.iload_n 3, 1) := by decide +kernel
theorem od_170_9 : decode (ov_byt 170) 9 = .ok (.aload_n 0, 1) := by decide +kernel
theorem og_170_10 : ov_GF 170 10 8 7 := ⟨87, false, 878, by decide +kernel, by decide +kernel⟩
theorem od_170_16 : decode (ov_byt 170) 16 = .ok (.iload_n 2, 1) := by decide +kernel
theorem od_170_17 : decode (ov_byt 170) 17 = .ok (.aload_n 1, 1) := by decide +kernel
theorem od_170_18 : decode (ov_byt 170) 18 = .ok (.iconst 0, 1) := by decide +kernel
theorem od_170_19 : decode (ov_byt 170) 19 = .ok (.iload_n 3, 1) := by decide +kernel
theorem od_170_20 : decode (ov_byt 170) 20 = .ok (.iadd, 1) := by decide +kernel
theorem od_170_21 : decode (ov_byt 170) 21 = .ok (.iaload, 1) := by decide +kernel
theorem od_170_22 : decode (ov_byt 170) 22 = .ok (.bipush (-9), 2) := by decide +kernel
theorem od_170_31 : decode (ov_byt 170) 31 = .ok (.iconst 1, 1) := by decide +kernel
theorem od_170_32 : decode (ov_byt 170) 32 = .ok (.aload_n 1, 1) := by decide +kernel
theorem od_170_33 : decode (ov_byt 170) 33 = .ok (.iconst 0, 1) := by decide +kernel
theorem od_170_34 : decode (ov_byt 170) 34 = .ok (.iload_n 3, 1) := by decide +kernel
theorem od_170_35 : decode (ov_byt 170) 35 = .ok (.iadd, 1) := by decide +kernel
theorem od_170_36 : decode (ov_byt 170) 36 = .ok (.iaload, 1) := by decide +kernel
theorem od_170_37 : decode (ov_byt 170) 37 = .ok (.ishl, 1) := by decide +kernel
theorem od_170_38 : decode (ov_byt 170) 38 = .ok (.ior, 1) := by decide +kernel
theorem od_170_39 : decode (ov_byt 170) 39 = .ok (.istore_n 2, 1) := by decide +kernel
theorem od_170_40 : decode (ov_byt 170) 40 = .ok (.iinc 3 1, 3) := by decide +kernel
theorem od_170_43 : decode (ov_byt 170) 43 = .ok (.goto (-35), 3) := by decide +kernel
theorem od_170_27 : decode (ov_byt 170) 27 = .ok (.iconst 0, 1) := by decide +kernel
theorem od_170_28 : decode (ov_byt 170) 28 = .ok (.goto 10, 3) := by decide +kernel
theorem od_170_24 : decode (ov_byt 170) 24 = .ok (.if_icmp .ne 7, 3) := by decide +kernel
theorem od_170_13 : decode (ov_byt 170) 13 = .ok (.if_icmp .ge 33, 3) := by decide +kernel
theorem od_170_46 : decode (ov_byt 170) 46 = .ok (.iload_n 2, 1) := by decide +kernel
theorem od_170_47 : decode (ov_byt 170) 47 = .ok (.ireturn, 1) := by decide +kernel
theorem od_172_0 : decode (ov_byt 172) 0 = .ok (.iload_n 1, 1) := by decide +kernel
theorem od_172_1 : decode (ov_byt 172) 1 = .ok (.i2l, 1) := by decide +kernel
theorem od_172_2 : decode (ov_byt 172) 2 = .ok (.lconst 0, 1) := by decide +kernel
theorem od_172_3 : decode (ov_byt 172) 3 = .ok (.aload_n 0, 1) := by decide +kernel
theorem og_172_4 : ov_GF 172 4 8 4 := ⟨94, false, 875, by decide +kernel, by decide +kernel⟩
theorem od_172_7 : decode (ov_byt 172) 7 = .ok (.iconst 1, 1) := by decide +kernel
theorem od_172_8 : decode (ov_byt 172) 8 = .ok (.isub, 1) := by decide +kernel
theorem od_172_9 : decode (ov_byt 172) 9 = .ok (.i2l, 1) := by decide +kernel
theorem oc_172_10 : ov_CL 172 10 0 144 := ⟨90, (1006, 1007, 0), (by show decode (ov_byt 172) 10 = Except.ok (Instr.invokestatic 90, 3); decide +kernel), by decide +kernel⟩
theorem od_172_20 : decode (ov_byt 172) 20 = .ok (.iconst 0, 1) := by decide +kernel
theorem od_172_21 : decode (ov_byt 172) 21 = .ok (.ireturn, 1) := by decide +kernel
theorem od_172_16 : decode (ov_byt 172) 16 = .ok (.iconst 1, 1) := by decide +kernel
theorem od_172_17 : decode (ov_byt 172) 17 = .ok (.goto 4, 3) := by decide +kernel
theorem od_172_13 : decode (ov_byt 172) 13 = .ok (.ifCond .ne 7, 3) := by decide +kernel
theorem od_173_0 : decode (ov_byt 173) 0 = .ok (.aload_n 0, 1) := by decide +kernel
theorem od_173_1 : decode (ov_byt 173) 1 = .ok (.iconst 0, 1) := by decide +kernel
theorem op_173_2 : ov_PF 173 2 8 0 := ⟨83, 871, by decide +kernel, by decide +kernel⟩
theorem od_173_5 : decode (ov_byt 173) 5 = .ok (.iload_n 1, 1) := by decide +kernel
theorem od_173_6 : decode (ov_byt 173) 6 = .ok (.i2l, 1) := by decide +kernel
theorem od_173_7 : decode (ov_byt 173) 7 = .ok (.lconst 0, 1) := by decide +kernel
theorem od_173_8 : decode (ov_byt 173) 8 = .ok (.aload_n 0, 1) := by decide +kernel
theorem og_173_9 : ov_GF 173 9 8 6 := ⟨154, false, 877, by decide +kernel, by decide +kernel⟩
theorem od_173_12 : decode (ov_byt 173) 12 = .ok (.iconst 1, 1) := by decide +kernel
theorem od_173_13 : decode (ov_byt 173) 13 = .ok (.isub, 1) := by decide +kernel
theorem od_173_14 : decode (ov_byt 173) 14 = .ok (.i2l, 1) := by decide +kernel
theorem oc_173_15 : ov_CL 173 15 0 144 := ⟨90, (1006, 1007, 0), (by show decode (ov_byt 173) 15 = Except.ok (Instr.invokestatic 90, 3); decide +kernel), by decide +kernel⟩
theorem od_173_33 : decode (ov_byt 173) 33 = .ok (.iconst (-1), 1) := by decide +kernel
theorem od_173_34 : decode (ov_byt 173) 34 = .ok (.ireturn, 1) := by decide +kernel
theorem od_173_21 : decode (ov_byt 173) 21 = .ok (.aload_n 0, 1) := by decide +kernel
theorem og_173_22 : ov_GF 173 22 8 23 := ⟨46, true, 894, by decide +kernel, by decide +kernel⟩
theorem od_173_25 : decode (ov_byt 173) 25 = .ok (.bipush 7, 2) := by decide +kernel
theorem od_173_27 : decode (ov_byt 173) 27 = .ok (.iload_n 1, 1) := by decide +kernel
theorem od_173_28 : decode (ov_byt 173) 28 = .ok (.iadd, 1) := by decide +kernel
theorem od_173_29 : decode (ov_byt 173) 29 = .ok (.iaload, 1) := by decide +kernel
theorem od_173_30 : decode (ov_byt 173) 30 = .ok (.goto 4, 3) := by decide +kernel
theorem od_173_18 : decode (ov_byt 173) 18 = .ok (.ifCond .eq 15, 3) := by decide +kernel
theorem od_175_0 : decode (ov_byt 175) 0 = .ok (.iload_n 1, 1) := by decide +kernel
theorem od_175_1 : decode (ov_byt 175) 1 = .ok (.i2l, 1) := by decide +kernel
theorem od_175_2 : decode (ov_byt 175) 2 = .ok (.lconst 0, 1) := by decide +kernel
theorem od_175_3 : decode (ov_byt 175) 3 = .ok (.aload_n 0, 1) := by decide +kernel
theorem og_175_4 : ov_GF 175 4 8 7 := ⟨87, false, 878, by decide +kernel, by decide +kernel⟩
theorem od_175_7 : decode (ov_byt 175) 7 = .ok (.iconst 1, 1) := by decide +kernel
theorem od_175_8 : decode (ov_byt 175) 8 = .ok (.isub, 1) := by decide +kernel
theorem od_175_9 : decode (ov_byt 175) 9 = .ok (.i2l, 1) := by decide +kernel
theorem oc_175_10 : ov_CL 175 10 0 144 := ⟨90, (1006, 1007, 0), (by show decode (ov_byt 175) 10 = Except.ok (Instr.invokestatic 90, 3); decide +kernel), by decide +kernel⟩
theorem od_175_20 : decode (ov_byt 175) 20 = .ok (.iconst 0, 1) := by decide +kernel
theorem od_175_21 : decode (ov_byt 175) 21 = .ok (.ireturn, 1) := by decide +kernel
theorem od_175_16 : decode (ov_byt 175) 16 = .ok (.iconst 1, 1) := by decide +kernel
theorem od_175_17 : decode (ov_byt 175) 17 = .ok (.goto 4, 3) := by decide +kernel
theorem od_175_13 : decode (ov_byt 175) 13 = .ok (.ifCond .ne 7, 3) := by decide +kernel
theorem od_179_0 : decode (ov_byt 179) 0 = .ok (.iconst 0, 1) := by decide +kernel
theorem od_179_1 : decode (ov_byt 179) 1 = .ok (.istore_n 3, 1) := by decide +kernel
theorem od_179_2 : decode (ov_byt 179) 2 = .ok (.iload_n 3, 1) := by decide +kernel
theorem od_179_3 : decode (ov_byt 179) 3 = .ok (.bipush 18, 2) := by decide +kernel
theorem od_179_8 : decode (ov_byt 179) 8 = .ok (.aload_n 0, 1) := by decide +kernel
theorem og_179_9 : ov_GF 179 9 8 34 := ⟨71, true, 905, by decide +kernel, by decide +kernel⟩
theorem od_179_12 : decode (ov_byt 179) 12 = .ok (.iload_n 3, 1) := by decide +kernel
theorem od_179_13 : decode (ov_byt 179) 13 = .ok (.bipush (-9), 2) := by decide +kernel
theorem od_179_15 : decode (ov_byt 179) 15 = .ok (.iastore, 1) := by decide +kernel
theorem od_179_16 : decode (ov_byt 179) 16 = .ok (.iinc 3 1, 3) := by decide +kernel
theorem od_179_19 : decode (ov_byt 179) 19 = .ok (.goto (-17), 3) := by decide +kernel
theorem od_179_5 : decode (ov_byt 179) 5 = .ok (.if_icmp .ge 17, 3) := by decide +kernel
theorem od_179_22 : decode (ov_byt 179) 22 = .ok (.aload_n 0, 1) := by decide +kernel
theorem og_179_23 : ov_GF 179 23 8 34 := ⟨71, true, 905, by decide +kernel, by decide +kernel⟩
theorem od_179_26 : decode (ov_byt 179) 26 = .ok (.iload_n 1, 1) := by decide +kernel
theorem od_179_27 : decode (ov_byt 179) 27 = .ok (.iconst 0, 1) := by decide +kernel
theorem od_179_28 : decode (ov_byt 179) 28 = .ok (.iastore, 1) := by decide +kernel
theorem od_179_29 : decode (ov_byt 179) 29 = .ok (.iconst 0, 1) := by decide +kernel
theorem od_179_30 : decode (ov_byt 179) 30 = .ok (.istore_n 3, 1) := by decide +kernel
theorem od_179_31 : decode (ov_byt 179) 31 = .ok (.iload_n 3, 1) := by decide +kernel
theorem od_179_32 : decode (ov_byt 179) 32 = .ok (.bipush 18, 2) := by decide +kernel
theorem od_179_37 : decode (ov_byt 179) 37 = .ok (.iconst 0, 1) := by decide +kernel
theorem od_179_38 : decode (ov_byt 179) 38 = .ok (.istore 4, 2) := by decide +kernel
theorem od_179_40 : decode (ov_byt 179) 40 = .ok (.iload 4, 2) := by decide +kernel
theorem od_179_42 : decode (ov_byt 179) 42 = .ok (.bipush 18, 2) := by decide +kernel
theorem od_179_47 : decode (ov_byt 179) 47 = .ok (.iconst 0, 1) := by decide +kernel
theorem od_179_48 : decode (ov_byt 179) 48 = .ok (.istore 5, 2) := by decide +kernel
theorem od_179_50 : decode (ov_byt 179) 50 = .ok (.iload 5, 2) := by decide +kernel
theorem od_179_52 : decode (ov_byt 179) 52 = .ok (.iconst 4, 1) := by decide +kernel
theorem od_179_56 : decode (ov_byt 179) 56 = .ok (.aload_n 0, 1) := by decide +kernel
theorem og_179_57 : ov_GF 179 57 8 34 := ⟨71, true, 905, by decide +kernel, by decide +kernel⟩
theorem od_179_60 : decode (ov_byt 179) 60 = .ok (.iload 4, 2) := by decide +kernel
theorem od_179_62 : decode (ov_byt 179) 62 = .ok (.iaload, 1) := by decide +kernel
theorem od_179_63 : decode (ov_byt 179) 63 = .ok (.iload_n 3, 1) := by decide +kernel
theorem od_179_67 : decode (ov_byt 179) 67 = .ok (.iload 4, 2) := by decide +kernel
theorem od_179_69 : decode (ov_byt 179) 69 = .ok (.iload 5, 2) := by decide +kernel
theorem oc_179_71 : ov_CL 179 71 0 180 := ⟨195, (1147, 1148, 0), (by show decode (ov_byt 179) 71 = Except.ok (Instr.invokestatic 195, 3); decide +kernel), by decide +kernel⟩
theorem od_179_74 : decode (ov_byt 179) 74 = .ok (.istore 6, 2) := by decide +kernel
theorem od_179_76 : decode (ov_byt 179) 76 = .ok (.iload 6, 2) := by decide +kernel
theorem od_179_78 : decode (ov_byt 179) 78 = .ok (.bipush (-9), 2) := by decide +kernel
theorem od_179_114 : decode (ov_byt 179) 114 = .ok (.iinc 5 1, 3) := by decide +kernel
theorem od_179_117 : decode (ov_byt 179) 117 = .ok (.goto (-67), 3) := by decide +kernel
theorem od_179_83 : decode (ov_byt 179) 83 = .ok (.aload_n 0, 1) := by decide +kernel
theorem og_179_84 : ov_GF 179 84 8 34 := ⟨71, true, 905, by decide +kernel, by decide +kernel⟩
theorem od_179_87 : decode (ov_byt 179) 87 = .ok (.iload 6, 2) := by decide +kernel
theorem od_179_89 : decode (ov_byt 179) 89 = .ok (.iaload, 1) := by decide +kernel
theorem od_179_90 : decode (ov_byt 179) 90 = .ok (.bipush (-9), 2) := by decide +kernel
theorem od_179_95 : decode (ov_byt 179) 95 = .ok (.iload_n 2, 1) := by decide +kernel
theorem od_179_96 : decode (ov_byt 179) 96 = .ok (.iload 6, 2) := by decide +kernel
theorem oc_179_98 : ov_CL 179 98 0 152 := ⟨117, (1038, 1039, 0), (by show decode (ov_byt 179) 98 = Except.ok (Instr.invokestatic 117, 3); decide +kernel), by decide +kernel⟩
theorem od_179_104 : decode (ov_byt 179) 104 = .ok (.aload_n 0, 1) := by decide +kernel
theorem og_179_105 : ov_GF 179 105 8 34 := ⟨71, true, 905, by decide +kernel, by decide +kernel⟩
theorem od_179_108 : decode (ov_byt 179) 108 = .ok (.iload 6, 2) := by decide +kernel
theorem od_179_110 : decode (ov_byt 179) 110 = .ok (.iload_n 3, 1) := by decide +kernel
theorem od_179_111 : decode (ov_byt 179) 111 = .ok (.iconst 1, 1) := by decide +kernel
theorem od_179_112 : decode (ov_byt 179) 112 = .ok (.iadd, 1) := by decide +kernel
theorem od_179_113 : decode (ov_byt 179) 113 = .ok (.iastore, 1) := by decide +kernel
theorem od_179_101 : decode (ov_byt 179) 101 = .ok (.ifCond .ne 13, 3) := by decide +kernel
theorem od_179_92 : decode (ov_byt 179) 92 = .ok (.if_icmp .ne 22, 3) := by decide +kernel
theorem od_179_80 : decode (ov_byt 179) 80 = .ok (.if_icmp .eq 34, 3) := by decide +kernel
theorem od_179_64 : decode (ov_byt 179) 64 = .ok (.if_icmp .ne 56, 3) := by decide +kernel
theorem od_179_53 : decode (ov_byt 179) 53 = .ok (.if_icmp .ge 67, 3) := by decide +kernel
theorem od_179_120 : decode (ov_byt 179) 120 = .ok (.iinc 4 1, 3) := by decide +kernel
theorem od_179_123 : decode (ov_byt 179) 123 = .ok (.goto (-83), 3) := by decide +kernel
theorem od_179_44 : decode (ov_byt 179) 44 = .ok (.if_icmp .ge 82, 3) := by decide +kernel
theorem od_179_126 : decode (ov_byt 179) 126 = .ok (.iinc 3 1, 3) := by decide +kernel
theorem od_179_129 : decode (ov_byt 179) 129 = .ok (.goto (-98), 3) := by decide +kernel
theorem od_179_34 : decode (ov_byt 179) 34 = .ok (.if_icmp .ge 98, 3) := by decide +kernel
theorem od_179_132 : decode (ov_byt 179) 132 = .ok (.return_, 1) := by decide +kernel
theorem od_182_0 : decode (ov_byt 182) 0 = .ok (.aload_n 0, 1) := by decide +kernel
theorem od_182_1 : decode (ov_byt 182) 1 = .ok (.iconst 0, 1) := by decide +kernel
theorem op_182_2 : ov_PF 182 2 8 0 := ⟨83, 871, by decide +kernel, by decide +kernel⟩
theorem od_182_5 : decode (ov_byt 182) 5 = .ok (.iload_n 1, 1) := by decide +kernel
theorem od_182_6 : decode (ov_byt 182) 6 = .ok (.i2l, 1) := by decide +kernel
theorem od_182_7 : decode (ov_byt 182) 7 = .ok (.lconst 0, 1) := by decide +kernel
theorem ok_182_8 : ∃ w, ov_find ov_k2t (232 * 32 + ov_oc 182) = some ((5 : Int64), w) := ⟨1158, by decide +kernel⟩
theorem od_182_8 : decode (ov_byt 182) 8 = .ok (.ldc2_w 232, 3) := by decide +kernel
theorem oc_182_11 : ov_CL 182 11 0 144 := ⟨90, (1006, 1007, 0), (by show decode (ov_byt 182) 11 = Except.ok (Instr.invokestatic 90, 3); decide +kernel), by decide +kernel⟩
theorem od_182_29 : decode (ov_byt 182) 29 = .ok (.bipush (-2), 2) := by decide +kernel
theorem od_182_31 : decode (ov_byt 182) 31 = .ok (.ireturn, 1) := by decide +kernel
theorem od_182_17 : decode (ov_byt 182) 17 = .ok (.aload_n 0, 1) := by decide +kernel
theorem od_182_18 : decode (ov_byt 182) 18 = .ok (.aload_n 0, 1) := by decide +kernel
theorem og_182_19 : ov_GF 182 19 8 23 := ⟨46, true, 894, by decide +kernel, by decide +kernel⟩
theorem od_182_22 : decode (ov_byt 182) 22 = .ok (.iload_n 1, 1) := by decide +kernel
theorem oc_182_23 : ov_CL 182 23 1 183 := ⟨234, (1159, 1161, 40), (by show decode (ov_byt 182) 23 = Except.ok (Instr.invokevirtual 234, 3); decide +kernel), by decide +kernel⟩
theorem od_182_26 : decode (ov_byt 182) 26 = .ok (.goto 5, 3) := by decide +kernel
theorem od_182_14 : decode (ov_byt 182) 14 = .ok (.ifCond .eq 15, 3) := by decide +kernel
theorem od_193_0 : decode (ov_byt 193) 0 = .ok (.iload_n 0, 1) := by decide +kernel
theorem od_193_1 : decode (ov_byt 193) 1 = .ok (.i2l, 1) := by decide +kernel
theorem od_193_2 : decode (ov_byt 193) 2 = .ok (.lconst 0, 1) := by decide +kernel
theorem ok_193_3 : ∃ w, ov_find ov_k2t (97 * 32 + ov_oc 193) = some ((17 : Int64), w) := ⟨1037, by decide +kernel⟩
theorem od_193_3 : decode (ov_byt 193) 3 = .ok (.ldc2_w 97, 3) := by decide +kernel
theorem oc_193_6 : ov_CL 193 6 0 144 := ⟨90, (1006, 1007, 0), (by show decode (ov_byt 193) 6 = Except.ok (Instr.invokestatic 90, 3); decide +kernel), by decide +kernel⟩
theorem od_193_16 : decode (ov_byt 193) 16 = .ok (.iconst 0, 1) := by decide +kernel
theorem od_193_17 : decode (ov_byt 193) 17 = .ok (.ireturn, 1) := by decide +kernel
theorem od_193_12 : decode (ov_byt 193) 12 = .ok (.iconst 1, 1) := by decide +kernel
theorem od_193_13 : decode (ov_byt 193) 13 = .ok (.goto 4, 3) := by decide +kernel
theorem od_193_9 : decode (ov_byt 193) 9 = .ok (.ifCond .ne 7, 3) := by decide +kernel
theorem od_213_0 : decode (ov_byt 213) 0 = .ok (.iload_n 0, 1) := by decide +kernel
theorem od_213_1 : decode (ov_byt 213) 1 = .ok (.iload_n 1, 1) := by decide +kernel
theorem oc_213_2 : ov_CL 213 2 0 214 := ⟨297, (1281, 1282, 0), (by show decode (ov_byt 213) 2 = Except.ok (Instr.invokestatic 297, 3); decide +kernel), by decide +kernel⟩
theorem od_213_5 : decode (ov_byt 213) 5 = .ok (.istore_n 3, 1) := by decide +kernel
theorem od_213_6 : decode (ov_byt 213) 6 = .ok (.iload_n 2, 1) := by decide +kernel
theorem od_213_16 : decode (ov_byt 213) 16 = .ok (.iload_n 1, 1) := by decide +kernel
theorem od_213_17 : decode (ov_byt 213) 17 = .ok (.iload_n 3, 1) := by decide +kernel
theorem od_213_18 : decode (ov_byt 213) 18 = .ok (.idiv, 1) := by decide +kernel
theorem od_213_19 : decode (ov_byt 213) 19 = .ok (.ireturn, 1) := by decide +kernel
theorem od_213_10 : decode (ov_byt 213) 10 = .ok (.iload_n 0, 1) := by decide +kernel
theorem od_213_11 : decode (ov_byt 213) 11 = .ok (.iload_n 3, 1) := by decide +kernel
theorem od_213_12 : decode (ov_byt 213) 12 = .ok (.idiv, 1) := by decide +kernel
theorem od_213_13 : decode (ov_byt 213) 13 = .ok (.goto 6, 3) := by decide +kernel
theorem od_213_7 : decode (ov_byt 213) 7 = .ok (.ifCond .eq 9, 3) := by decide +kernel
theorem od_220_0 : decode (ov_byt 220) 0 = .ok (.iload_n 2, 1) := by decide +kernel
theorem od_220_1 : decode (ov_byt 220) 1 = .ok (.bipush (-9), 2) := by decide +kernel
theorem od_220_8 : decode (ov_byt 220) 8 = .ok (.aload_n 0, 1) := by decide +kernel
theorem od_220_9 : decode (ov_byt 220) 9 = .ok (.aload_n 0, 1) := by decide +kernel
theorem og_220_10 : ov_GF 220 10 8 24 := ⟨49, true, 895, by decide +kernel, by decide +kernel⟩
theorem od_220_13 : decode (ov_byt 220) 13 = .ok (.iload_n 1, 1) := by decide +kernel
theorem oc_220_14 : ov_CL 220 14 1 162 := ⟨192, (1076, 1078, 27), (by show decode (ov_byt 220) 14 = Except.ok (Instr.invokevirtual 192, 3); decide +kernel), by decide +kernel⟩
theorem od_220_27 : decode (ov_byt 220) 27 = .ok (.iconst 1, 1) := by decide +kernel
theorem od_220_28 : decode (ov_byt 220) 28 = .ok (.ireturn, 1) := by decide +kernel
theorem od_220_20 : decode (ov_byt 220) 20 = .ok (.bipush 9, 2) := by decide +kernel
theorem od_220_22 : decode (ov_byt 220) 22 = .ok (.iload_n 2, 1) := by decide +kernel
theorem od_220_23 : decode (ov_byt 220) 23 = .ok (.isub, 1) := by decide +kernel
theorem od_220_24 : decode (ov_byt 220) 24 = .ok (.goto 4, 3) := by decide +kernel
theorem od_220_17 : decode (ov_byt 220) 17 = .ok (.ifCond .eq 10, 3) := by decide +kernel
theorem od_220_6 : decode (ov_byt 220) 6 = .ok (.iconst 0, 1) := by decide +kernel
theorem od_220_7 : decode (ov_byt 220) 7 = .ok (.ireturn, 1) := by decide +kernel
theorem od_220_3 : decode (ov_byt 220) 3 = .ok (.if_icmp .ne 5, 3) := by decide +kernel
theorem od_224_0 : decode (ov_byt 224) 0 = .ok (.aload_n 0, 1) := by decide +kernel
theorem od_224_1 : decode (ov_byt 224) 1 = .ok (.iconst 0, 1) := by decide +kernel
theorem op_224_2 : ov_PF 224 2 8 0 := ⟨83, 871, by decide +kernel, by decide +kernel⟩
theorem od_224_5 : decode (ov_byt 224) 5 = .ok (.iload_n 1, 1) := by decide +kernel
theorem od_224_6 : decode (ov_byt 224) 6 = .ok (.i2l, 1) := by decide +kernel
theorem od_224_7 : decode (ov_byt 224) 7 = .ok (.lconst 0, 1) := by decide +kernel
theorem od_224_8 : decode (ov_byt 224) 8 = .ok (.lconst 1, 1) := by decide +kernel
theorem oc_224_9 : ov_CL 224 9 0 144 := ⟨90, (1006, 1007, 0), (by show decode (ov_byt 224) 9 = Except.ok (Instr.invokestatic 90, 3); decide +kernel), by decide +kernel⟩
theorem od_224_17 : decode (ov_byt 224) 17 = .ok (.aload_n 0, 1) := by decide +kernel
theorem og_224_18 : ov_GF 224 18 8 29 := ⟨61, true, 900, by decide +kernel, by decide +kernel⟩
theorem od_224_21 : decode (ov_byt 224) 21 = .ok (.iload_n 1, 1) := by decide +kernel
theorem od_224_22 : decode (ov_byt 224) 22 = .ok (.iconst 1, 1) := by decide +kernel
theorem od_224_23 : decode (ov_byt 224) 23 = .ok (.bastore, 1) := by decide +kernel
theorem od_224_24 : decode (ov_byt 224) 24 = .ok (.iconst 0, 1) := by decide +kernel
theorem od_224_25 : decode (ov_byt 224) 25 = .ok (.istore_n 2, 1) := by decide +kernel
theorem od_224_26 : decode (ov_byt 224) 26 = .ok (.iload_n 2, 1) := by decide +kernel
theorem od_224_27 : decode (ov_byt 224) 27 = .ok (.bipush 12, 2) := by decide +kernel
theorem od_224_32 : decode (ov_byt 224) 32 = .ok (.aload_n 0, 1) := by decide +kernel
theorem og_224_33 : ov_GF 224 33 8 28 := ⟨58, true, 899, by decide +kernel, by decide +kernel⟩
theorem od_224_36 : decode (ov_byt 224) 36 = .ok (.bipush 12, 2) := by decide +kernel
theorem od_224_38 : decode (ov_byt 224) 38 = .ok (.iload_n 1, 1) := by decide +kernel
theorem od_224_39 : decode (ov_byt 224) 39 = .ok (.imul, 1) := by decide +kernel
theorem od_224_40 : decode (ov_byt 224) 40 = .ok (.iload_n 2, 1) := by decide +kernel
theorem od_224_41 : decode (ov_byt 224) 41 = .ok (.iadd, 1) := by decide +kernel
theorem od_224_42 : decode (ov_byt 224) 42 = .ok (.aload_n 0, 1) := by decide +kernel
theorem og_224_43 : ov_GF 224 43 8 23 := ⟨46, true, 894, by decide +kernel, by decide +kernel⟩
theorem od_224_46 : decode (ov_byt 224) 46 = .ok (.iload_n 2, 1) := by decide +kernel
theorem od_224_47 : decode (ov_byt 224) 47 = .ok (.iaload, 1) := by decide +kernel
theorem od_224_48 : decode (ov_byt 224) 48 = .ok (.iastore, 1) := by decide +kernel
theorem od_224_49 : decode (ov_byt 224) 49 = .ok (.iinc 2 1, 3) := by decide +kernel
theorem od_224_52 : decode (ov_byt 224) 52 = .ok (.goto (-26), 3) := by decide +kernel
theorem od_224_29 : decode (ov_byt 224) 29 = .ok (.if_icmp .ge 26, 3) := by decide +kernel
theorem od_224_55 : decode (ov_byt 224) 55 = .ok (.aload_n 0, 1) := by decide +kernel
theorem og_224_56 : ov_GF 224 56 8 23 := ⟨46, true, 894, by decide +kernel, by decide +kernel⟩
theorem od_224_59 : decode (ov_byt 224) 59 = .ok (.bipush 11, 2) := by decide +kernel
theorem od_224_61 : decode (ov_byt 224) 61 = .ok (.iaload, 1) := by decide +kernel
theorem od_224_62 : decode (ov_byt 224) 62 = .ok (.ireturn, 1) := by decide +kernel
theorem od_224_15 : decode (ov_byt 224) 15 = .ok (.iconst (-1), 1) := by decide +kernel
theorem od_224_16 : decode (ov_byt 224) 16 = .ok (.ireturn, 1) := by decide +kernel
theorem od_224_12 : decode (ov_byt 224) 12 = .ok (.ifCond .ne 5, 3) := by decide +kernel
theorem od_225_0 : decode (ov_byt 225) 0 = .ok (.aload_n 0, 1) := by decide +kernel
theorem od_225_1 : decode (ov_byt 225) 1 = .ok (.iconst 0, 1) := by decide +kernel
theorem op_225_2 : ov_PF 225 2 8 0 := ⟨83, 871, by decide +kernel, by decide +kernel⟩
theorem od_225_5 : decode (ov_byt 225) 5 = .ok (.iload_n 1, 1) := by decide +kernel
