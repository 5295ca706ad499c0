theorem og_216_6 : ov_GF 216 6 8 30 := ⟨212, false, 901, by decide +kernel, by decide +kernel⟩
theorem od_216_9 : decode (ov_byt 216) 9 = .ok (.istore_n 1, 1) := by decide +kernel
theorem od_216_10 : decode (ov_byt 216) 10 = .ok (.aload_n 0, 1) := by decide +kernel
theorem od_216_11 : decode (ov_byt 216) 11 = .ok (.iconst 0, 1) := by decide +kernel
theorem op_216_12 : ov_PF 216 12 8 30 := ⟨212, 901, by decide +kernel, by decide +kernel⟩
theorem od_216_15 : decode (ov_byt 216) 15 = .ok (.iload_n 1, 1) := by decide +kernel
theorem od_216_16 : decode (ov_byt 216) 16 = .ok (.ireturn, 1) := by decide +kernel
theorem od_222_0 : decode (ov_byt 222) 0 = .ok (.aload_n 0, 1) := by decide +kernel
theorem od_222_1 : decode (ov_byt 222) 1 = .ok (.iconst 0, 1) := by decide +kernel
theorem op_222_2 : ov_PF 222 2 8 0 := ⟨83, 871, by decide +kernel, by decide +kernel⟩
theorem od_222_5 : decode (ov_byt 222) 5 = .ok (.aload_n 0, 1) := by decide +kernel
theorem og_222_6 : ov_GF 222 6 8 33 := ⟨325, false, 904, by decide +kernel, by decide +kernel⟩
theorem od_222_9 : decode (ov_byt 222) 9 = .ok (.lstore_n 3, 1) := by decide +kernel
theorem od_222_10 : decode (ov_byt 222) 10 = .ok (.aload_n 0, 1) := by decide +kernel
theorem od_222_11 : decode (ov_byt 222) 11 = .ok (.lload_n 1, 1) := by decide +kernel
theorem op_222_12 : ov_PF 222 12 8 33 := ⟨325, 904, by decide +kernel, by decide +kernel⟩
theorem od_222_15 : decode (ov_byt 222) 15 = .ok (.lload_n 3, 1) := by decide +kernel
theorem od_222_16 : decode (ov_byt 222) 16 = .ok (.lreturn, 1) := by decide +kernel
theorem od_6_0 : decode (ov_byt 6) 0 = .ok (.aload_n 0, 1) := by decide +kernel
theorem od_6_1 : decode (ov_byt 6) 1 = .ok (.iload_n 1, 1) := by decide +kernel
theorem oc_6_2 : ov_CL 6 2 1 7 := ⟨102, (159, 160, 161), (by show decode (ov_byt 6) 2 = Except.ok (Instr.invokevirtual 102, 3); decide +kernel), by decide +kernel⟩
theorem od_6_17 : decode (ov_byt 6) 17 = .ok (.bipush (-9), 2) := by decide +kernel
theorem od_6_19 : decode (ov_byt 6) 19 = .ok (.ireturn, 1) := by decide +kernel
theorem od_6_8 : decode (ov_byt 6) 8 = .ok (.aload_n 0, 1) := by decide +kernel
theorem og_6_9 : ov_GF 6 9 2 5 := ⟨15, true, 113, by decide +kernel, by decide +kernel⟩
theorem od_6_12 : decode (ov_byt 6) 12 = .ok (.iload_n 1, 1) := by decide +kernel
theorem od_6_13 : decode (ov_byt 6) 13 = .ok (.iaload, 1) := by decide +kernel
theorem od_6_14 : decode (ov_byt 6) 14 = .ok (.goto 5, 3) := by decide +kernel
theorem od_6_5 : decode (ov_byt 6) 5 = .ok (.ifCond .eq 12, 3) := by decide +kernel
theorem od_12_0 : decode (ov_byt 12) 0 = .ok (.iload_n 1, 1) := by decide +kernel
theorem od_12_11 : decode (ov_byt 12) 11 = .ok (.bipush (-2), 2) := by decide +kernel
theorem od_12_13 : decode (ov_byt 12) 13 = .ok (.ireturn, 1) := by decide +kernel
theorem od_12_4 : decode (ov_byt 12) 4 = .ok (.iload_n 1, 1) := by decide +kernel
theorem od_12_5 : decode (ov_byt 12) 5 = .ok (.sipush 255, 3) := by decide +kernel
theorem od_12_14 : decode (ov_byt 12) 14 = .ok (.aload_n 0, 1) := by decide +kernel
theorem og_12_15 : ov_GF 12 15 0 0 := ⟨12, true, 262, by decide +kernel, by decide +kernel⟩
theorem od_12_18 : decode (ov_byt 12) 18 = .ok (.iload_n 1, 1) := by decide +kernel
theorem oc_12_19 : ov_CL 12 19 1 13 := ⟨82, (303, 304, 305), (by show decode (ov_byt 12) 19 = Except.ok (Instr.invokevirtual 82, 3); decide +kernel), by decide +kernel⟩
theorem od_12_35 : decode (ov_byt 12) 35 = .ok (.bipush (-4), 2) := by decide +kernel
theorem od_12_37 : decode (ov_byt 12) 37 = .ok (.ireturn, 1) := by decide +kernel
theorem od_12_25 : decode (ov_byt 12) 25 = .ok (.aload_n 0, 1) := by decide +kernel
theorem og_12_26 : ov_GF 12 26 0 0 := ⟨12, true, 262, by decide +kernel, by decide +kernel⟩
theorem oc_12_29 : ov_CL 12 29 1 14 := ⟨86, (307, 308, 309), (by show decode (ov_byt 12) 29 = Except.ok (Instr.invokevirtual 86, 3); decide +kernel), by decide +kernel⟩
theorem od_12_32 : decode (ov_byt 12) 32 = .ok (.goto 5, 3) := by decide +kernel
theorem od_12_22 : decode (ov_byt 12) 22 = .ok (.ifCond .eq 13, 3) := by decide +kernel
theorem od_12_8 : decode (ov_byt 12) 8 = .ok (.if_icmp .le 6, 3) := by decide +kernel
theorem od_12_1 : decode (ov_byt 12) 1 = .ok (.ifCond .lt 10, 3) := by decide +kernel
theorem od_15_0 : decode (ov_byt 15) 0 = .ok (.aload_n 0, 1) := by decide +kernel
theorem og_15_1 : ov_GF 15 1 0 0 := ⟨12, true, 262, by decide +kernel, by decide +kernel⟩
theorem oc_15_4 : ov_CL 15 4 1 14 := ⟨86, (307, 308, 309), (by show decode (ov_byt 15) 4 = Except.ok (Instr.invokevirtual 86, 3); decide +kernel), by decide +kernel⟩
theorem od_15_7 : decode (ov_byt 15) 7 = .ok (.istore_n 1, 1) := by decide +kernel
theorem od_15_8 : decode (ov_byt 15) 8 = .ok (.aload_n 0, 1) := by decide +kernel
theorem og_15_9 : ov_GF 15 9 0 0 := ⟨12, true, 262, by decide +kernel, by decide +kernel⟩
theorem oc_15_12 : ov_CL 15 12 1 16 := ⟨90, (315, 316, 317), (by show decode (ov_byt 15) 12 = Except.ok (Instr.invokevirtual 90, 3); decide +kernel), by decide +kernel⟩
theorem od_15_15 : decode (ov_byt 15) 15 = .ok (.iload_n 1, 1) := by decide +kernel
theorem od_15_16 : decode (ov_byt 15) 16 = .ok (.ireturn, 1) := by decide +kernel
theorem ok_22_0 : ∃ w, ov_find ov_kt (79 * 32 + ov_oc 22) = some ((258048 : Int32), w) := ⟨344, by decide +kernel⟩
theorem od_22_0 : decode (ov_byt 22) 0 = .ok (.ldc 79, 2) := by decide +kernel
theorem od_22_2 : decode (ov_byt 22) 2 = .ok (.aload_n 0, 1) := by decide +kernel
theorem og_22_3 : ov_GF 22 3 2 11 := ⟨63, false, 119, by decide +kernel, by decide +kernel⟩
theorem od_22_6 : decode (ov_byt 22) 6 = .ok (.iconst (-1), 1) := by decide +kernel
theorem od_22_7 : decode (ov_byt 22) 7 = .ok (.ixor, 1) := by decide +kernel
theorem od_22_8 : decode (ov_byt 22) 8 = .ok (.iand, 1) := by decide +kernel
theorem od_22_9 : decode (ov_byt 22) 9 = .ok (.istore_n 2, 1) := by decide +kernel
theorem od_22_10 : decode (ov_byt 22) 10 = .ok (.aload_n 0, 1) := by decide +kernel
theorem og_22_11 : ov_GF 22 11 2 0 := ⟨47, false, 99, by decide +kernel, by decide +kernel⟩
theorem od_22_14 : decode (ov_byt 22) 14 = .ok (.iconst 3, 1) := by decide +kernel
theorem od_22_22 : decode (ov_byt 22) 22 = .ok (.iconst 0, 1) := by decide +kernel
theorem od_22_23 : decode (ov_byt 22) 23 = .ok (.ireturn, 1) := by decide +kernel
theorem od_22_18 : decode (ov_byt 22) 18 = .ok (.iload_n 2, 1) := by decide +kernel
theorem od_22_24 : decode (ov_byt 22) 24 = .ok (.iload_n 2, 1) := by decide +kernel
theorem od_22_25 : decode (ov_byt 22) 25 = .ok (.iload_n 1, 1) := by decide +kernel
theorem oc_22_26 : ov_CL 22 26 0 23 := ⟨80, (345, 346, 0), (by show decode (ov_byt 22) 26 = Except.ok (Instr.invokestatic 80, 3); decide +kernel), by decide +kernel⟩
theorem od_22_34 : decode (ov_byt 22) 34 = .ok (.aload_n 0, 1) := by decide +kernel
theorem og_22_35 : ov_GF 22 35 2 4 := ⟨9, true, 112, by decide +kernel, by decide +kernel⟩
theorem od_22_38 : decode (ov_byt 22) 38 = .ok (.aload_n 0, 1) := by decide +kernel
theorem og_22_39 : ov_GF 22 39 2 0 := ⟨47, false, 99, by decide +kernel, by decide +kernel⟩
theorem od_22_42 : decode (ov_byt 22) 42 = .ok (.iload_n 1, 1) := by decide +kernel
theorem od_22_43 : decode (ov_byt 22) 43 = .ok (.iastore, 1) := by decide +kernel
theorem od_22_44 : decode (ov_byt 22) 44 = .ok (.aload_n 0, 1) := by decide +kernel
theorem od_22_45 : decode (ov_byt 22) 45 = .ok (.dup, 1) := by decide +kernel
theorem og_22_46 : ov_GF 22 46 2 0 := ⟨47, false, 99, by decide +kernel, by decide +kernel⟩
theorem od_22_49 : decode (ov_byt 22) 49 = .ok (.iconst 1, 1) := by decide +kernel
theorem od_22_50 : decode (ov_byt 22) 50 = .ok (.iadd, 1) := by decide +kernel
theorem op_22_51 : ov_PF 22 51 2 0 := ⟨47, 99, by decide +kernel, by decide +kernel⟩
theorem od_22_54 : decode (ov_byt 22) 54 = .ok (.aload_n 0, 1) := by decide +kernel
theorem od_22_55 : decode (ov_byt 22) 55 = .ok (.dup, 1) := by decide +kernel
theorem og_22_56 : ov_GF 22 56 2 11 := ⟨63, false, 119, by decide +kernel, by decide +kernel⟩
theorem od_22_59 : decode (ov_byt 22) 59 = .ok (.iload_n 1, 1) := by decide +kernel
theorem oc_22_60 : ov_CL 22 60 0 24 := ⟨86, (348, 349, 0), (by show decode (ov_byt 22) 60 = Except.ok (Instr.invokestatic 86, 3); decide +kernel), by decide +kernel⟩
theorem od_22_63 : decode (ov_byt 22) 63 = .ok (.ior, 1) := by decide +kernel
theorem op_22_64 : ov_PF 22 64 2 11 := ⟨63, 119, by decide +kernel, by decide +kernel⟩
theorem od_22_67 : decode (ov_byt 22) 67 = .ok (.iconst 2, 1) := by decide +kernel
theorem od_22_68 : decode (ov_byt 22) 68 = .ok (.ireturn, 1) := by decide +kernel
theorem od_22_32 : decode (ov_byt 22) 32 = .ok (.iconst 1, 1) := by decide +kernel
theorem od_22_33 : decode (ov_byt 22) 33 = .ok (.ireturn, 1) := by decide +kernel
theorem od_22_29 : decode (ov_byt 22) 29 = .ok (.ifCond .ne 5, 3) := by decide +kernel
theorem od_22_19 : decode (ov_byt 22) 19 = .ok (.ifCond .ne 5, 3) := by decide +kernel
theorem od_22_15 : decode (ov_byt 22) 15 = .ok (.if_icmp .ge 7, 3) := by decide +kernel
theorem od_25_0 : decode (ov_byt 25) 0 = .ok (.aload_n 0, 1) := by decide +kernel
theorem og_25_1 : ov_GF 25 1 2 1 := ⟨51, false, 103, by decide +kernel, by decide +kernel⟩
theorem od_25_4 : decode (ov_byt 25) 4 = .ok (.iconst 4, 1) := by decide +kernel
theorem ok_25_10 : ∃ w, ov_find ov_kt (91 * 32 + ov_oc 25) = some ((262143 : Int32), w) := ⟨355, by decide +kernel⟩
theorem od_25_10 : decode (ov_byt 25) 10 = .ok (.ldc 91, 2) := by decide +kernel
theorem od_25_12 : decode (ov_byt 25) 12 = .ok (.aload_n 0, 1) := by decide +kernel
theorem og_25_13 : ov_GF 25 13 2 11 := ⟨63, false, 119, by decide +kernel, by decide +kernel⟩
theorem od_25_16 : decode (ov_byt 25) 16 = .ok (.iconst (-1), 1) := by decide +kernel
theorem od_25_17 : decode (ov_byt 25) 17 = .ok (.ixor, 1) := by decide +kernel
theorem od_25_18 : decode (ov_byt 25) 18 = .ok (.iand, 1) := by decide +kernel
theorem od_25_19 : decode (ov_byt 25) 19 = .ok (.iload_n 1, 1) := by decide +kernel
theorem oc_25_20 : ov_CL 25 20 0 23 := ⟨80, (345, 346, 0), (by show decode (ov_byt 25) 20 = Except.ok (Instr.invokestatic 80, 3); decide +kernel), by decide +kernel⟩
theorem od_25_28 : decode (ov_byt 25) 28 = .ok (.aload_n 0, 1) := by decide +kernel
theorem og_25_29 : ov_GF 25 29 2 5 := ⟨15, true, 113, by decide +kernel, by decide +kernel⟩
theorem od_25_32 : decode (ov_byt 25) 32 = .ok (.aload_n 0, 1) := by decide +kernel
theorem og_25_33 : ov_GF 25 33 2 1 := ⟨51, false, 103, by decide +kernel, by decide +kernel⟩
theorem od_25_36 : decode (ov_byt 25) 36 = .ok (.iload_n 1, 1) := by decide +kernel
theorem od_25_37 : decode (ov_byt 25) 37 = .ok (.iastore, 1) := by decide +kernel
theorem od_25_38 : decode (ov_byt 25) 38 = .ok (.aload_n 0, 1) := by decide +kernel
theorem od_25_39 : decode (ov_byt 25) 39 = .ok (.dup, 1) := by decide +kernel
theorem og_25_40 : ov_GF 25 40 2 1 := ⟨51, false, 103, by decide +kernel, by decide +kernel⟩
theorem od_25_43 : decode (ov_byt 25) 43 = .ok (.iconst 1, 1) := by decide +kernel
theorem od_25_44 : decode (ov_byt 25) 44 = .ok (.iadd, 1) := by decide +kernel
theorem op_25_45 : ov_PF 25 45 2 1 := ⟨51, 103, by decide +kernel, by decide +kernel⟩
theorem od_25_48 : decode (ov_byt 25) 48 = .ok (.aload_n 0, 1) := by decide +kernel
theorem od_25_49 : decode (ov_byt 25) 49 = .ok (.dup, 1) := by decide +kernel
theorem og_25_50 : ov_GF 25 50 2 11 := ⟨63, false, 119, by decide +kernel, by decide +kernel⟩
theorem od_25_53 : decode (ov_byt 25) 53 = .ok (.iload_n 1, 1) := by decide +kernel
theorem oc_25_54 : ov_CL 25 54 0 24 := ⟨86, (348, 349, 0), (by show decode (ov_byt 25) 54 = Except.ok (Instr.invokestatic 86, 3); decide +kernel), by decide +kernel⟩
theorem od_25_57 : decode (ov_byt 25) 57 = .ok (.ior, 1) := by decide +kernel
theorem op_25_58 : ov_PF 25 58 2 11 := ⟨63, 119, by decide +kernel, by decide +kernel⟩
theorem od_25_61 : decode (ov_byt 25) 61 = .ok (.iconst 2, 1) := by decide +kernel
theorem od_25_62 : decode (ov_byt 25) 62 = .ok (.ireturn, 1) := by decide +kernel
theorem od_25_26 : decode (ov_byt 25) 26 = .ok (.iconst 1, 1) := by decide +kernel
theorem od_25_27 : decode (ov_byt 25) 27 = .ok (.ireturn, 1) := by decide +kernel
theorem od_25_23 : decode (ov_byt 25) 23 = .ok (.ifCond .ne 5, 3) := by decide +kernel
theorem od_25_8 : decode (ov_byt 25) 8 = .ok (.iconst 0, 1) := by decide +kernel
theorem od_25_9 : decode (ov_byt 25) 9 = .ok (.ireturn, 1) := by decide +kernel
theorem od_25_5 : decode (ov_byt 25) 5 = .ok (.if_icmp .lt 5, 3) := by decide +kernel
theorem od_26_0 : decode (ov_byt 26) 0 = .ok (.aload_n 0, 1) := by decide +kernel
theorem og_26_1 : ov_GF 26 1 2 2 := ⟨54, false, 105, by decide +kernel, by decide +kernel⟩
theorem od_26_4 : decode (ov_byt 26) 4 = .ok (.bipush 6, 2) := by decide +kernel
theorem od_26_11 : decode (ov_byt 26) 11 = .ok (.iload_n 1, 1) := by decide +kernel
theorem od_26_12 : decode (ov_byt 26) 12 = .ok (.iconst 1, 1) := by decide +kernel
theorem od_26_22 : decode (ov_byt 26) 22 = .ok (.iconst 1, 1) := by decide +kernel
theorem od_26_23 : decode (ov_byt 26) 23 = .ok (.ireturn, 1) := by decide +kernel
theorem od_26_16 : decode (ov_byt 26) 16 = .ok (.iload_n 1, 1) := by decide +kernel
theorem od_26_17 : decode (ov_byt 26) 17 = .ok (.bipush 9, 2) := by decide +kernel
theorem od_26_24 : decode (ov_byt 26) 24 = .ok (.iload_n 2, 1) := by decide +kernel
theorem od_26_33 : decode (ov_byt 26) 33 = .ok (.iconst 2, 1) := by decide +kernel
theorem od_26_34 : decode (ov_byt 26) 34 = .ok (.ireturn, 1) := by decide +kernel
theorem od_26_28 : decode (ov_byt 26) 28 = .ok (.iload_n 2, 1) := by decide +kernel
theorem od_26_29 : decode (ov_byt 26) 29 = .ok (.iconst 3, 1) := by decide +kernel
theorem od_26_35 : decode (ov_byt 26) 35 = .ok (.aload_n 0, 1) := by decide +kernel
theorem og_26_36 : ov_GF 26 36 2 6 := ⟨18, true, 114, by decide +kernel, by decide +kernel⟩
theorem od_26_39 : decode (ov_byt 26) 39 = .ok (.aload_n 0, 1) := by decide +kernel
theorem og_26_40 : ov_GF 26 40 2 2 := ⟨54, false, 105, by decide +kernel, by decide +kernel⟩
theorem od_26_43 : decode (ov_byt 26) 43 = .ok (.iload_n 1, 1) := by decide +kernel
theorem od_26_44 : decode (ov_byt 26) 44 = .ok (.iastore, 1) := by decide +kernel
theorem od_26_45 : decode (ov_byt 26) 45 = .ok (.aload_n 0, 1) := by decide +kernel
theorem og_26_46 : ov_GF 26 46 2 7 := ⟨21, true, 115, by decide +kernel, by decide +kernel⟩
theorem od_26_49 : decode (ov_byt 26) 49 = .ok (.aload_n 0, 1) := by decide +kernel
theorem og_26_50 : ov_GF 26 50 2 2 := ⟨54, false, 105, by decide +kernel, by decide +kernel⟩
theorem od_26_53 : decode (ov_byt 26) 53 = .ok (.iload_n 2, 1) := by decide +kernel
theorem od_26_54 : decode (ov_byt 26) 54 = .ok (.iastore, 1) := by decide +kernel
theorem od_26_55 : decode (ov_byt 26) 55 = .ok (.aload_n 0, 1) := by decide +kernel
theorem od_26_56 : decode (ov_byt 26) 56 = .ok (.iload_n 2, 1) := by decide +kernel
theorem od_26_57 : decode (ov_byt 26) 57 = .ok (.iconst 2, 1) := by decide +kernel
theorem od_26_75 : decode (ov_byt 26) 75 = .ok (.aload_n 0, 1) := by decide +kernel
theorem og_26_76 : ov_GF 26 76 2 10 := ⟨60, false, 118, by decide +kernel, by decide +kernel⟩
theorem op_26_79 : ov_PF 26 79 2 10 := ⟨60, 118, by decide +kernel, by decide +kernel⟩
theorem od_26_82 : decode (ov_byt 26) 82 = .ok (.aload_n 0, 1) := by decide +kernel
theorem od_26_83 : decode (ov_byt 26) 83 = .ok (.dup, 1) := by decide +kernel
theorem og_26_84 : ov_GF 26 84 2 2 := ⟨54, false, 105, by decide +kernel, by decide +kernel⟩
theorem od_26_87 : decode (ov_byt 26) 87 = .ok (.iconst 1, 1) := by decide +kernel
theorem od_26_88 : decode (ov_byt 26) 88 = .ok (.iadd, 1) := by decide +kernel
theorem op_26_89 : ov_PF 26 89 2 2 := ⟨54, 105, by decide +kernel, by decide +kernel⟩
theorem od_26_92 : decode (ov_byt 26) 92 = .ok (.iconst 3, 1) := by decide +kernel
theorem od_26_93 : decode (ov_byt 26) 93 = .ok (.ireturn, 1) := by decide +kernel
theorem od_26_61 : decode (ov_byt 26) 61 = .ok (.aload_n 0, 1) := by decide +kernel
theorem og_26_62 : ov_GF 26 62 2 10 := ⟨60, false, 118, by decide +kernel, by decide +kernel⟩
theorem od_26_65 : decode (ov_byt 26) 65 = .ok (.aload_n 0, 1) := by decide +kernel
theorem og_26_66 : ov_GF 26 66 2 2 := ⟨54, false, 105, by decide +kernel, by decide +kernel⟩
theorem oc_26_69 : ov_CL 26 69 0 27 := ⟨92, (360, 361, 0), (by show decode (ov_byt 26) 69 = Except.ok (Instr.invokestatic 92, 3); decide +kernel), by decide +kernel⟩
theorem od_26_72 : decode (ov_byt 26) 72 = .ok (.goto 7, 3) := by decide +kernel
theorem od_26_58 : decode (ov_byt 26) 58 = .ok (.if_icmp .ne 17, 3) := by decide +kernel
theorem od_26_30 : decode (ov_byt 26) 30 = .ok (.if_icmp .le 5, 3) := by decide +kernel
theorem od_26_25 : decode (ov_byt 26) 25 = .ok (.ifCond .lt 8, 3) := by decide +kernel
theorem od_26_19 : decode (ov_byt 26) 19 = .ok (.if_icmp .le 5, 3) := by decide +kernel
theorem od_26_13 : decode (ov_byt 26) 13 = .ok (.if_icmp .lt 9, 3) := by decide +kernel
theorem od_26_9 : decode (ov_byt 26) 9 = .ok (.iconst 0, 1) := by decide +kernel
theorem od_26_10 : decode (ov_byt 26) 10 = .ok (.ireturn, 1) := by decide +kernel
theorem od_26_6 : decode (ov_byt 26) 6 = .ok (.if_icmp .lt 5, 3) := by decide +kernel
theorem od_28_0 : decode (ov_byt 28) 0 = .ok (.aload_n 0, 1) := by decide +kernel
theorem og_28_1 : ov_GF 28 1 2 3 := ⟨57, false, 109, by decide +kernel, by decide +kernel⟩
theorem od_28_4 : decode (ov_byt 28) 4 = .ok (.bipush 6, 2) := by decide +kernel
theorem od_28_17 : decode (ov_byt 28) 17 = .ok (.iconst 0, 1) := by decide +kernel
theorem od_28_18 : decode (ov_byt 28) 18 = .ok (.ireturn, 1) := by decide +kernel
theorem od_28_9 : decode (ov_byt 28) 9 = .ok (.aload_n 0, 1) := by decide +kernel
theorem og_28_10 : ov_GF 28 10 2 2 := ⟨54, false, 105, by decide +kernel, by decide +kernel⟩
theorem od_28_13 : decode (ov_byt 28) 13 = .ok (.iconst 2, 1) := by decide +kernel
theorem od_28_19 : decode (ov_byt 28) 19 = .ok (.aload_n 0, 1) := by decide +kernel
theorem od_28_20 : decode (ov_byt 28) 20 = .ok (.iload_n 1, 1) := by decide +kernel
theorem oc_28_21 : ov_CL 28 21 1 29 := ⟨95, (367, 368, 369), (by show decode (ov_byt 28) 21 = Except.ok (Instr.invokevirtual 95, 3); decide +kernel), by decide +kernel⟩
theorem od_28_29 : decode (ov_byt 28) 29 = .ok (.aload_n 0, 1) := by decide +kernel
theorem od_28_30 : decode (ov_byt 28) 30 = .ok (.iload_n 2, 1) := by decide +kernel
theorem oc_28_31 : ov_CL 28 31 1 29 := ⟨95, (367, 368, 369), (by show decode (ov_byt 28) 31 = Except.ok (Instr.invokevirtual 95, 3); decide +kernel), by decide +kernel⟩
theorem od_28_42 : decode (ov_byt 28) 42 = .ok (.iconst 2, 1) := by decide +kernel
theorem od_28_43 : decode (ov_byt 28) 43 = .ok (.ireturn, 1) := by decide +kernel
theorem od_28_37 : decode (ov_byt 28) 37 = .ok (.iload_n 2, 1) := by decide +kernel
theorem od_28_38 : decode (ov_byt 28) 38 = .ok (.iload_n 1, 1) := by decide +kernel
theorem od_28_44 : decode (ov_byt 28) 44 = .ok (.aload_n 0, 1) := by decide +kernel
theorem og_28_45 : ov_GF 28 45 2 8 := ⟨24, true, 116, by decide +kernel, by decide +kernel⟩
theorem od_28_48 : decode (ov_byt 28) 48 = .ok (.aload_n 0, 1) := by decide +kernel
theorem og_28_49 : ov_GF 28 49 2 3 := ⟨57, false, 109, by decide +kernel, by decide +kernel⟩
theorem od_28_52 : decode (ov_byt 28) 52 = .ok (.iload_n 1, 1) := by decide +kernel
theorem od_28_53 : decode (ov_byt 28) 53 = .ok (.iastore, 1) := by decide +kernel
theorem od_28_54 : decode (ov_byt 28) 54 = .ok (.aload_n 0, 1) := by decide +kernel
theorem og_28_55 : ov_GF 28 55 2 9 := ⟨27, true, 117, by decide +kernel, by decide +kernel⟩
theorem od_28_58 : decode (ov_byt 28) 58 = .ok (.aload_n 0, 1) := by decide +kernel
theorem og_28_59 : ov_GF 28 59 2 3 := ⟨57, false, 109, by decide +kernel, by decide +kernel⟩
theorem od_28_62 : decode (ov_byt 28) 62 = .ok (.iload_n 2, 1) := by decide +kernel
theorem od_28_63 : decode (ov_byt 28) 63 = .ok (.iastore, 1) := by decide +kernel
theorem od_28_64 : decode (ov_byt 28) 64 = .ok (.aload_n 0, 1) := by decide +kernel
theorem od_28_65 : decode (ov_byt 28) 65 = .ok (.dup, 1) := by decide +kernel
theorem og_28_66 : ov_GF 28 66 2 3 := ⟨57, false, 109, by decide +kernel, by decide +kernel⟩
theorem od_28_69 : decode (ov_byt 28) 69 = .ok (.iconst 1, 1) := by decide +kernel
theorem od_28_70 : decode (ov_byt 28) 70 = .ok (.iadd, 1) := by decide +kernel
theorem op_28_71 : ov_PF 28 71 2 3 := ⟨57, 109, by decide +kernel, by decide +kernel⟩
theorem od_28_74 : decode (ov_byt 28) 74 = .ok (.iconst 3, 1) := by decide +kernel
theorem od_28_75 : decode (ov_byt 28) 75 = .ok (.ireturn, 1) := by decide +kernel
theorem od_28_39 : decode (ov_byt 28) 39 = .ok (.if_icmp .ne 5, 3) := by decide +kernel
theorem od_28_34 : decode (ov_byt 28) 34 = .ok (.ifCond .eq 8, 3) := by decide +kernel
theorem od_28_27 : decode (ov_byt 28) 27 = .ok (.iconst 1, 1) := by decide +kernel
theorem od_28_28 : decode (ov_byt 28) 28 = .ok (.ireturn, 1) := by decide +kernel
theorem od_28_24 : decode (ov_byt 28) 24 = .ok (.ifCond .ne 5, 3) := by decide +kernel
theorem od_28_14 : decode (ov_byt 28) 14 = .ok (.if_icmp .ge 5, 3) := by decide +kernel
theorem od_28_6 : decode (ov_byt 28) 6 = .ok (.if_icmp .ge 11, 3) := by decide +kernel
theorem od_35_0 : decode (ov_byt 35) 0 = .ok (.aload_n 0, 1) := by decide +kernel
theorem og_35_1 : ov_GF 35 1 3 0 := ⟨18, true, 163, by decide +kernel, by decide +kernel⟩
theorem od_35_4 : decode (ov_byt 35) 4 = .ok (.iload_n 1, 1) := by decide +kernel
theorem oc_35_5 : ov_CL 35 5 1 29 := ⟨44, (396, 368, 369), (by show decode (ov_byt 35) 5 = Except.ok (Instr.invokevirtual 44, 3); decide +kernel), by decide +kernel⟩
theorem od_35_20 : decode (ov_byt 35) 20 = .ok (.bipush (-9), 2) := by decide +kernel
theorem od_35_22 : decode (ov_byt 35) 22 = .ok (.ireturn, 1) := by decide +kernel
theorem od_35_11 : decode (ov_byt 35) 11 = .ok (.aload_n 0, 1) := by decide +kernel
theorem og_35_12 : ov_GF 35 12 3 1 := ⟨9, true, 164, by decide +kernel, by decide +kernel⟩
theorem od_35_15 : decode (ov_byt 35) 15 = .ok (.iload_n 1, 1) := by decide +kernel
theorem od_35_16 : decode (ov_byt 35) 16 = .ok (.iaload, 1) := by decide +kernel
theorem od_35_17 : decode (ov_byt 35) 17 = .ok (.goto 5, 3) := by decide +kernel
theorem od_35_8 : decode (ov_byt 35) 8 = .ok (.ifCond .eq 12, 3) := by decide +kernel
theorem od_40_0 : decode (ov_byt 40) 0 = .ok (.iconst 0, 1) := by decide +kernel
theorem od_40_1 : decode (ov_byt 40) 1 = .ok (.istore_n 2, 1) := by decide +kernel
theorem od_40_2 : decode (ov_byt 40) 2 = .ok (.iconst 0, 1) := by decide +kernel
theorem od_40_3 : decode (ov_byt 40) 3 = .ok (.istore_n 3, 1) := by decide +kernel
theorem od_40_4 : decode (ov_byt 40) 4 = .ok (.iload_n 3, 1) := by decide +kernel
theorem od_40_5 : decode (ov_byt 40) 5 = .ok (.bipush 6, 2) := by decide +kernel
theorem od_40_10 : decode (ov_byt 40) 10 = .ok (.iload_n 2, 1) := by decide +kernel
theorem od_40_11 : decode (ov_byt 40) 11 = .ok (.iload_n 1, 1) := by decide +kernel
theorem od_40_12 : decode (ov_byt 40) 12 = .ok (.iload_n 3, 1) := by decide +kernel
theorem oc_40_13 : ov_CL 40 13 0 23 := ⟨71, (418, 346, 0), (by show decode (ov_byt 40) 13 = Except.ok (Instr.invokestatic 71, 3); decide +kernel), by decide +kernel⟩
theorem od_40_31 : decode (ov_byt 40) 31 = .ok (.iconst 0, 1) := by decide +kernel
theorem od_40_32 : decode (ov_byt 40) 32 = .ok (.ior, 1) := by decide +kernel
theorem od_40_33 : decode (ov_byt 40) 33 = .ok (.istore_n 2, 1) := by decide +kernel
theorem od_40_34 : decode (ov_byt 40) 34 = .ok (.iinc 3 1, 3) := by decide +kernel
theorem od_40_37 : decode (ov_byt 40) 37 = .ok (.goto (-33), 3) := by decide +kernel
theorem od_40_19 : decode (ov_byt 40) 19 = .ok (.aload_n 0, 1) := by decide +kernel
theorem og_40_20 : ov_GF 40 20 3 1 := ⟨9, true, 164, by decide +kernel, by decide +kernel⟩
theorem od_40_23 : decode (ov_byt 40) 23 = .ok (.iload_n 3, 1) := by decide +kernel
theorem od_40_24 : decode (ov_byt 40) 24 = .ok (.iaload, 1) := by decide +kernel
theorem oc_40_25 : ov_CL 40 25 0 24 := ⟨66, (419, 349, 0), (by show decode (ov_byt 40) 25 = Except.ok (Instr.invokestatic 66, 3); decide +kernel), by decide +kernel⟩
theorem od_40_28 : decode (ov_byt 40) 28 = .ok (.goto 4, 3) := by decide +kernel
theorem od_40_16 : decode (ov_byt 40) 16 = .ok (.ifCond .eq 15, 3) := by decide +kernel
theorem od_40_7 : decode (ov_byt 40) 7 = .ok (.if_icmp .ge 33, 3) := by decide +kernel
theorem od_40_40 : decode (ov_byt 40) 40 = .ok (.iload_n 2, 1) := by decide +kernel
theorem od_40_41 : decode (ov_byt 40) 41 = .ok (.ireturn, 1) := by decide +kernel
theorem od_43_0 : decode (ov_byt 43) 0 = .ok (.iconst 0, 1) := by decide +kernel
theorem od_43_1 : decode (ov_byt 43) 1 = .ok (.istore_n 1, 1) := by decide +kernel
theorem od_43_2 : decode (ov_byt 43) 2 = .ok (.iconst 0, 1) := by decide +kernel
theorem od_43_3 : decode (ov_byt 43) 3 = .ok (.istore_n 2, 1) := by decide +kernel
theorem od_43_4 : decode (ov_byt 43) 4 = .ok (.iload_n 2, 1) := by decide +kernel
theorem od_43_5 : decode (ov_byt 43) 5 = .ok (.iconst 4, 1) := by decide +kernel
theorem od_43_9 : decode (ov_byt 43) 9 = .ok (.iload_n 1, 1) := by decide +kernel
theorem od_43_10 : decode (ov_byt 43) 10 = .ok (.aload_n 0, 1) := by decide +kernel
theorem og_43_11 : ov_GF 43 11 3 2 := ⟨15, true, 165, by decide +kernel, by decide +kernel⟩
theorem od_43_14 : decode (ov_byt 43) 14 = .ok (.iload_n 2, 1) := by decide +kernel
theorem od_43_15 : decode (ov_byt 43) 15 = .ok (.iaload, 1) := by decide +kernel
theorem oc_43_16 : ov_CL 43 16 0 24 := ⟨66, (419, 349, 0), (by show decode (ov_byt 43) 16 = Except.ok (Instr.invokestatic 66, 3); decide +kernel), by decide +kernel⟩
theorem od_43_19 : decode (ov_byt 43) 19 = .ok (.ior, 1) := by decide +kernel
theorem od_43_20 : decode (ov_byt 43) 20 = .ok (.istore_n 1, 1) := by decide +kernel
theorem od_43_21 : decode (ov_byt 43) 21 = .ok (.iinc 2 1, 3) := by decide +kernel
theorem od_43_24 : decode (ov_byt 43) 24 = .ok (.goto (-20), 3) := by decide +kernel
theorem od_43_6 : decode (ov_byt 43) 6 = .ok (.if_icmp .ge 21, 3) := by decide +kernel
theorem od_43_27 : decode (ov_byt 43) 27 = .ok (.iload_n 1, 1) := by decide +kernel
theorem od_43_28 : decode (ov_byt 43) 28 = .ok (.ireturn, 1) := by decide +kernel
theorem od_44_0 : decode (ov_byt 44) 0 = .ok (.aload_n 0, 1) := by decide +kernel
theorem od_44_1 : decode (ov_byt 44) 1 = .ok (.iload_n 1, 1) := by decide +kernel
theorem oc_44_2 : ov_CL 44 2 1 45 := ⟨105, (437, 438, 439), (by show decode (ov_byt 44) 2 = Except.ok (Instr.invokevirtual 105, 3); decide +kernel), by decide +kernel⟩
theorem od_44_17 : decode (ov_byt 44) 17 = .ok (.bipush (-9), 2) := by decide +kernel
theorem od_44_19 : decode (ov_byt 44) 19 = .ok (.ireturn, 1) := by decide +kernel
theorem od_44_8 : decode (ov_byt 44) 8 = .ok (.aload_n 0, 1) := by decide +kernel
theorem og_44_9 : ov_GF 44 9 2 8 := ⟨24, true, 116, by decide +kernel, by decide +kernel⟩
theorem od_44_12 : decode (ov_byt 44) 12 = .ok (.iload_n 1, 1) := by decide +kernel
theorem od_44_13 : decode (ov_byt 44) 13 = .ok (.iaload, 1) := by decide +kernel
theorem od_44_14 : decode (ov_byt 44) 14 = .ok (.goto 5, 3) := by decide +kernel
theorem od_44_5 : decode (ov_byt 44) 5 = .ok (.ifCond .eq 12, 3) := by decide +kernel
theorem od_46_0 : decode (ov_byt 46) 0 = .ok (.aload_n 0, 1) := by decide +kernel
theorem od_46_1 : decode (ov_byt 46) 1 = .ok (.iload_n 1, 1) := by decide +kernel
theorem oc_46_2 : ov_CL 46 2 1 45 := ⟨105, (437, 438, 439), (by show decode (ov_byt 46) 2 = Except.ok (Instr.invokevirtual 105, 3); decide +kernel), by decide +kernel⟩
theorem od_46_17 : decode (ov_byt 46) 17 = .ok (.bipush (-9), 2) := by decide +kernel
theorem od_46_19 : decode (ov_byt 46) 19 = .ok (.ireturn, 1) := by decide +kernel
theorem od_46_8 : decode (ov_byt 46) 8 = .ok (.aload_n 0, 1) := by decide +kernel
theorem og_46_9 : ov_GF 46 9 2 9 := ⟨27, true, 117, by decide +kernel, by decide +kernel⟩
theorem od_46_12 : decode (ov_byt 46) 12 = .ok (.iload_n 1, 1) := by decide +kernel
theorem od_46_13 : decode (ov_byt 46) 13 = .ok (.iaload, 1) := by decide +kernel
theorem od_46_14 : decode (ov_byt 46) 14 = .ok (.goto 5, 3) := by decide +kernel
theorem od_46_5 : decode (ov_byt 46) 5 = .ok (.ifCond .eq 12, 3) := by decide +kernel
theorem od_48_0 : decode (ov_byt 48) 0 = .ok (.iload_n 0, 1) := by decide +kernel
theorem oc_48_1 : ov_CL 48 1 0 49 := ⟨17, (452, 453, 0), (by show decode (ov_byt 48) 1 = Except.ok (Instr.invokestatic 17, 3); decide +kernel), by decide +kernel⟩
theorem od_48_19 : decode (ov_byt 48) 19 = .ok (.bipush (-9), 2) := by decide +kernel
theorem od_48_21 : decode (ov_byt 48) 21 = .ok (.ireturn, 1) := by decide +kernel
theorem od_48_7 : decode (ov_byt 48) 7 = .ok (.iload_n 1, 1) := by decide +kernel
theorem oc_48_8 : ov_CL 48 8 0 49 := ⟨17, (452, 453, 0), (by show decode (ov_byt 48) 8 = Except.ok (Instr.invokestatic 17, 3); decide +kernel), by decide +kernel⟩
theorem od_48_14 : decode (ov_byt 48) 14 = .ok (.iload_n 0, 1) := by decide +kernel
theorem od_48_15 : decode (ov_byt 48) 15 = .ok (.iload_n 1, 1) := by decide +kernel
theorem od_48_22 : decode (ov_byt 48) 22 = .ok (.iload_n 1, 1) := by decide +kernel
theorem od_48_23 : decode (ov_byt 48) 23 = .ok (.bipush 6, 2) := by decide +kernel
theorem od_48_25 : decode (ov_byt 48) 25 = .ok (.idiv, 1) := by decide +kernel
theorem od_48_26 : decode (ov_byt 48) 26 = .ok (.iload_n 0, 1) := by decide +kernel
theorem od_48_27 : decode (ov_byt 48) 27 = .ok (.bipush 6, 2) := by decide +kernel
theorem od_48_29 : decode (ov_byt 48) 29 = .ok (.idiv, 1) := by decide +kernel
theorem od_48_30 : decode (ov_byt 48) 30 = .ok (.isub, 1) := by decide +kernel
theorem od_48_31 : decode (ov_byt 48) 31 = .ok (.istore_n 2, 1) := by decide +kernel
theorem od_48_32 : decode (ov_byt 48) 32 = .ok (.iload_n 1, 1) := by decide +kernel
theorem od_48_33 : decode (ov_byt 48) 33 = .ok (.bipush 6, 2) := by decide +kernel
theorem od_48_35 : decode (ov_byt 48) 35 = .ok (.irem, 1) := by decide +kernel
theorem od_48_36 : decode (ov_byt 48) 36 = .ok (.iload_n 0, 1) := by decide +kernel
theorem od_48_37 : decode (ov_byt 48) 37 = .ok (.bipush 6, 2) := by decide +kernel
theorem od_48_39 : decode (ov_byt 48) 39 = .ok (.irem, 1) := by decide +kernel
theorem od_48_40 : decode (ov_byt 48) 40 = .ok (.isub, 1) := by decide +kernel
theorem od_48_41 : decode (ov_byt 48) 41 = .ok (.istore_n 3, 1) := by decide +kernel
theorem od_48_42 : decode (ov_byt 48) 42 = .ok (.iload_n 2, 1) := by decide +kernel
theorem od_48_64 : decode (ov_byt 48) 64 = .ok (.bipush 6, 2) := by decide +kernel
theorem od_48_66 : decode (ov_byt 48) 66 = .ok (.iload_n 2, 1) := by decide +kernel
theorem od_48_67 : decode (ov_byt 48) 67 = .ok (.iconst 0, 1) := by decide +kernel
theorem oc_48_68 : ov_CL 48 68 0 51 := ⟨37, (458, 459, 0), (by show decode (ov_byt 48) 68 = Except.ok (Instr.invokestatic 37, 3); decide +kernel), by decide +kernel⟩
theorem od_48_71 : decode (ov_byt 48) 71 = .ok (.imul, 1) := by decide +kernel
theorem od_48_72 : decode (ov_byt 48) 72 = .ok (.iload_n 3, 1) := by decide +kernel
theorem od_48_73 : decode (ov_byt 48) 73 = .ok (.iconst 0, 1) := by decide +kernel
theorem oc_48_74 : ov_CL 48 74 0 51 := ⟨37, (458, 459, 0), (by show decode (ov_byt 48) 74 = Except.ok (Instr.invokestatic 37, 3); decide +kernel), by decide +kernel⟩
theorem od_48_77 : decode (ov_byt 48) 77 = .ok (.iadd, 1) := by decide +kernel
theorem od_48_78 : decode (ov_byt 48) 78 = .ok (.istore 4, 2) := by decide +kernel
theorem od_48_80 : decode (ov_byt 48) 80 = .ok (.iload_n 2, 1) := by decide +kernel
theorem ox_48_81 : ov_XL 48 81 0 := ⟨32, 455, by decide +kernel, by decide +kernel⟩
theorem od_48_84 : decode (ov_byt 48) 84 = .ok (.iload_n 3, 1) := by decide +kernel
theorem ox_48_85 : ov_XL 48 85 0 := ⟨32, 455, by decide +kernel, by decide +kernel⟩
theorem ox_48_88 : ov_XL 48 88 1 := ⟨42, 461, by decide +kernel, by decide +kernel⟩
theorem od_48_91 : decode (ov_byt 48) 91 = .ok (.istore 5, 2) := by decide +kernel
theorem od_48_93 : decode (ov_byt 48) 93 = .ok (.iconst 0, 1) := by decide +kernel
theorem od_48_94 : decode (ov_byt 48) 94 = .ok (.istore 6, 2) := by decide +kernel
theorem od_48_96 : decode (ov_byt 48) 96 = .ok (.iconst 1, 1) := by decide +kernel
theorem od_48_97 : decode (ov_byt 48) 97 = .ok (.istore 7, 2) := by decide +kernel
theorem od_48_99 : decode (ov_byt 48) 99 = .ok (.iload 7, 2) := by decide +kernel
theorem od_48_101 : decode (ov_byt 48) 101 = .ok (.iload 5, 2) := by decide +kernel
theorem od_48_106 : decode (ov_byt 48) 106 = .ok (.iload 6, 2) := by decide +kernel
theorem od_48_108 : decode (ov_byt 48) 108 = .ok (.iload_n 0, 1) := by decide +kernel
theorem od_48_109 : decode (ov_byt 48) 109 = .ok (.iload 7, 2) := by decide +kernel
theorem od_48_111 : decode (ov_byt 48) 111 = .ok (.iload 4, 2) := by decide +kernel
theorem od_48_113 : decode (ov_byt 48) 113 = .ok (.imul, 1) := by decide +kernel
theorem od_48_114 : decode (ov_byt 48) 114 = .ok (.iadd, 1) := by decide +kernel
theorem oc_48_115 : ov_CL 48 115 0 24 := ⟨24, (464, 349, 0), (by show decode (ov_byt 48) 115 = Except.ok (Instr.invokestatic 24, 3); decide +kernel), by decide +kernel⟩
theorem od_48_118 : decode (ov_byt 48) 118 = .ok (.ior, 1) := by decide +kernel
theorem od_48_119 : decode (ov_byt 48) 119 = .ok (.istore 6, 2) := by decide +kernel
theorem od_48_121 : decode (ov_byt 48) 121 = .ok (.iinc 7 1, 3) := by decide +kernel
theorem od_48_124 : decode (ov_byt 48) 124 = .ok (.goto (-25), 3) := by decide +kernel
theorem od_48_103 : decode (ov_byt 48) 103 = .ok (.if_icmp .ge 24, 3) := by decide +kernel
theorem od_48_127 : decode (ov_byt 48) 127 = .ok (.iload 6, 2) := by decide +kernel
theorem od_48_129 : decode (ov_byt 48) 129 = .ok (.ireturn, 1) := by decide +kernel
theorem od_48_46 : decode (ov_byt 48) 46 = .ok (.iload_n 3, 1) := by decide +kernel
theorem od_48_50 : decode (ov_byt 48) 50 = .ok (.iload_n 2, 1) := by decide +kernel
theorem ox_48_51 : ov_XL 48 51 0 := ⟨32, 455, by decide +kernel, by decide +kernel⟩
theorem od_48_54 : decode (ov_byt 48) 54 = .ok (.iload_n 3, 1) := by decide +kernel
theorem ox_48_55 : ov_XL 48 55 0 := ⟨32, 455, by decide +kernel, by decide +kernel⟩
theorem od_48_61 : decode (ov_byt 48) 61 = .ok (.bipush (-9), 2) := by decide +kernel
theorem od_48_63 : decode (ov_byt 48) 63 = .ok (.ireturn, 1) := by decide +kernel
theorem od_48_58 : decode (ov_byt 48) 58 = .ok (.if_icmp .eq 6, 3) := by decide +kernel
theorem od_48_47 : decode (ov_byt 48) 47 = .ok (.ifCond .eq 17, 3) := by decide +kernel
theorem od_48_43 : decode (ov_byt 48) 43 = .ok (.ifCond .eq 21, 3) := by decide +kernel
theorem od_48_16 : decode (ov_byt 48) 16 = .ok (.if_icmp .ne 6, 3) := by decide +kernel
theorem od_48_11 : decode (ov_byt 48) 11 = .ok (.ifCond .eq 8, 3) := by decide +kernel
theorem od_48_4 : decode (ov_byt 48) 4 = .ok (.ifCond .eq 15, 3) := by decide +kernel
theorem od_59_0 : decode (ov_byt 59) 0 = .ok (.aload_n 0, 1) := by decide +kernel
theorem od_59_1 : decode (ov_byt 59) 1 = .ok (.iload_n 1, 1) := by decide +kernel
theorem oc_59_2 : ov_CL 59 2 1 58 := ⟨99, (493, 486, 487), (by show decode (ov_byt 59) 2 = Except.ok (Instr.invokevirtual 99, 3); decide +kernel), by decide +kernel⟩
theorem od_59_17 : decode (ov_byt 59) 17 = .ok (.bipush (-9), 2) := by decide +kernel
theorem od_59_19 : decode (ov_byt 59) 19 = .ok (.ireturn, 1) := by decide +kernel
theorem od_59_8 : decode (ov_byt 59) 8 = .ok (.aload_n 0, 1) := by decide +kernel
theorem og_59_9 : ov_GF 59 9 2 4 := ⟨9, true, 112, by decide +kernel, by decide +kernel⟩
theorem od_59_12 : decode (ov_byt 59) 12 = .ok (.iload_n 1, 1) := by decide +kernel
theorem od_59_13 : decode (ov_byt 59) 13 = .ok (.iaload, 1) := by decide +kernel
theorem od_59_14 : decode (ov_byt 59) 14 = .ok (.goto 5, 3) := by decide +kernel
theorem od_59_5 : decode (ov_byt 59) 5 = .ok (.ifCond .eq 12, 3) := by decide +kernel
theorem od_61_0 : decode (ov_byt 61) 0 = .ok (.aload_n 0, 1) := by decide +kernel
theorem og_61_1 : ov_GF 61 1 3 0 := ⟨18, true, 163, by decide +kernel, by decide +kernel⟩
theorem od_61_4 : decode (ov_byt 61) 4 = .ok (.iload_n 1, 1) := by decide +kernel
theorem oc_61_5 : ov_CL 61 5 1 7 := ⟨51, (503, 160, 161), (by show decode (ov_byt 61) 5 = Except.ok (Instr.invokevirtual 51, 3); decide +kernel), by decide +kernel⟩
theorem od_61_20 : decode (ov_byt 61) 20 = .ok (.bipush (-9), 2) := by decide +kernel
theorem od_61_22 : decode (ov_byt 61) 22 = .ok (.ireturn, 1) := by decide +kernel
theorem od_61_11 : decode (ov_byt 61) 11 = .ok (.aload_n 0, 1) := by decide +kernel
theorem og_61_12 : ov_GF 61 12 3 2 := ⟨15, true, 165, by decide +kernel, by decide +kernel⟩
theorem od_61_15 : decode (ov_byt 61) 15 = .ok (.iload_n 1, 1) := by decide +kernel
theorem od_61_16 : decode (ov_byt 61) 16 = .ok (.iaload, 1) := by decide +kernel
theorem od_61_17 : decode (ov_byt 61) 17 = .ok (.goto 5, 3) := by decide +kernel
theorem od_61_8 : decode (ov_byt 61) 8 = .ok (.ifCond .eq 12, 3) := by decide +kernel
theorem od_63_0 : decode (ov_byt 63) 0 = .ok (.aload_n 0, 1) := by decide +kernel
theorem od_63_1 : decode (ov_byt 63) 1 = .ok (.iload_n 1, 1) := by decide +kernel
theorem oc_63_2 : ov_CL 63 2 1 29 := ⟨95, (367, 368, 369), (by show decode (ov_byt 63) 2 = Except.ok (Instr.invokevirtual 95, 3); decide +kernel), by decide +kernel⟩
theorem od_63_17 : decode (ov_byt 63) 17 = .ok (.iconst 0, 1) := by decide +kernel
theorem od_63_18 : decode (ov_byt 63) 18 = .ok (.ireturn, 1) := by decide +kernel
theorem od_63_8 : decode (ov_byt 63) 8 = .ok (.aload_n 0, 1) := by decide +kernel
theorem og_63_9 : ov_GF 63 9 2 6 := ⟨18, true, 114, by decide +kernel, by decide +kernel⟩
theorem od_63_12 : decode (ov_byt 63) 12 = .ok (.iload_n 1, 1) := by decide +kernel
theorem od_63_13 : decode (ov_byt 63) 13 = .ok (.iaload, 1) := by decide +kernel
theorem od_63_14 : decode (ov_byt 63) 14 = .ok (.goto 4, 3) := by decide +kernel
theorem od_63_5 : decode (ov_byt 63) 5 = .ok (.ifCond .eq 12, 3) := by decide +kernel
theorem od_64_0 : decode (ov_byt 64) 0 = .ok (.aload_n 0, 1) := by decide +kernel
theorem od_64_1 : decode (ov_byt 64) 1 = .ok (.iload_n 1, 1) := by decide +kernel
theorem oc_64_2 : ov_CL 64 2 1 29 := ⟨95, (367, 368, 369), (by show decode (ov_byt 64) 2 = Except.ok (Instr.invokevirtual 95, 3); decide +kernel), by decide +kernel⟩
theorem od_64_17 : decode (ov_byt 64) 17 = .ok (.bipush (-9), 2) := by decide +kernel
theorem od_64_19 : decode (ov_byt 64) 19 = .ok (.ireturn, 1) := by decide +kernel
theorem od_64_8 : decode (ov_byt 64) 8 = .ok (.aload_n 0, 1) := by decide +kernel
theorem og_64_9 : ov_GF 64 9 2 7 := ⟨21, true, 115, by decide +kernel, by decide +kernel⟩
theorem od_64_12 : decode (ov_byt 64) 12 = .ok (.iload_n 1, 1) := by decide +kernel
theorem od_64_13 : decode (ov_byt 64) 13 = .ok (.iaload, 1) := by decide +kernel
theorem od_64_14 : decode (ov_byt 64) 14 = .ok (.goto 5, 3) := by decide +kernel
theorem od_64_5 : decode (ov_byt 64) 5 = .ok (.ifCond .eq 12, 3) := by decide +kernel
theorem od_67_0 : decode (ov_byt 67) 0 = .ok (.iload_n 0, 1) := by decide +kernel
theorem oc_67_1 : ov_CL 67 1 0 24 := ⟨24, (464, 349, 0), (by show decode (ov_byt 67) 1 = Except.ok (Instr.invokestatic 24, 3); decide +kernel), by decide +kernel⟩
theorem od_67_4 : decode (ov_byt 67) 4 = .ok (.istore_n 2, 1) := by decide +kernel
theorem od_67_5 : decode (ov_byt 67) 5 = .ok (.iconst 1, 1) := by decide +kernel
theorem od_67_6 : decode (ov_byt 67) 6 = .ok (.istore_n 3, 1) := by decide +kernel
theorem od_67_7 : decode (ov_byt 67) 7 = .ok (.iload_n 3, 1) := by decide +kernel
theorem od_67_8 : decode (ov_byt 67) 8 = .ok (.bipush 18, 2) := by decide +kernel
theorem od_67_13 : decode (ov_byt 67) 13 = .ok (.iload_n 2, 1) := by decide +kernel
theorem od_67_14 : decode (ov_byt 67) 14 = .ok (.iload_n 2, 1) := by decide +kernel
theorem od_67_15 : decode (ov_byt 67) 15 = .ok (.iload_n 1, 1) := by decide +kernel
theorem oc_67_16 : ov_CL 67 16 0 68 := ⟨28, (531, 532, 0), (by show decode (ov_byt 67) 16 = Except.ok (Instr.invokestatic 28, 3); decide +kernel), by decide +kernel⟩
theorem od_67_19 : decode (ov_byt 67) 19 = .ok (.ior, 1) := by decide +kernel
theorem od_67_20 : decode (ov_byt 67) 20 = .ok (.istore_n 2, 1) := by decide +kernel
theorem od_67_21 : decode (ov_byt 67) 21 = .ok (.iinc 3 1, 3) := by decide +kernel
theorem od_67_24 : decode (ov_byt 67) 24 = .ok (.goto (-17), 3) := by decide +kernel
theorem od_67_10 : decode (ov_byt 67) 10 = .ok (.if_icmp .ge 17, 3) := by decide +kernel
theorem od_67_27 : decode (ov_byt 67) 27 = .ok (.iload_n 2, 1) := by decide +kernel
theorem od_67_28 : decode (ov_byt 67) 28 = .ok (.ireturn, 1) := by decide +kernel
theorem od_75_0 : decode (ov_byt 75) 0 = .ok (.aload_n 0, 1) := by decide +kernel
theorem og_75_1 : ov_GF 75 1 4 3 := ⟨21, false, 188, by decide +kernel, by decide +kernel⟩
theorem od_75_4 : decode (ov_byt 75) 4 = .ok (.bipush 14, 2) := by decide +kernel
theorem od_75_13 : decode (ov_byt 75) 13 = .ok (.aload_n 0, 1) := by decide +kernel
theorem og_75_14 : ov_GF 75 14 4 0 := ⟨9, true, 185, by decide +kernel, by decide +kernel⟩
theorem od_75_17 : decode (ov_byt 75) 17 = .ok (.aload_n 0, 1) := by decide +kernel
theorem og_75_18 : ov_GF 75 18 4 3 := ⟨21, false, 188, by decide +kernel, by decide +kernel⟩
theorem od_75_21 : decode (ov_byt 75) 21 = .ok (.iload_n 1, 1) := by decide +kernel
theorem od_75_22 : decode (ov_byt 75) 22 = .ok (.iastore, 1) := by decide +kernel
theorem od_75_23 : decode (ov_byt 75) 23 = .ok (.aload_n 0, 1) := by decide +kernel
theorem og_75_24 : ov_GF 75 24 4 1 := ⟨15, true, 186, by decide +kernel, by decide +kernel⟩
theorem od_75_27 : decode (ov_byt 75) 27 = .ok (.aload_n 0, 1) := by decide +kernel
theorem og_75_28 : ov_GF 75 28 4 3 := ⟨21, false, 188, by decide +kernel, by decide +kernel⟩
theorem od_75_31 : decode (ov_byt 75) 31 = .ok (.iload_n 2, 1) := by decide +kernel
theorem od_75_32 : decode (ov_byt 75) 32 = .ok (.iastore, 1) := by decide +kernel
theorem od_75_33 : decode (ov_byt 75) 33 = .ok (.aload_n 0, 1) := by decide +kernel
theorem og_75_34 : ov_GF 75 34 4 2 := ⟨18, true, 187, by decide +kernel, by decide +kernel⟩
theorem od_75_37 : decode (ov_byt 75) 37 = .ok (.aload_n 0, 1) := by decide +kernel
theorem og_75_38 : ov_GF 75 38 4 3 := ⟨21, false, 188, by decide +kernel, by decide +kernel⟩
theorem od_75_41 : decode (ov_byt 75) 41 = .ok (.iload_n 3, 1) := by decide +kernel
theorem od_75_42 : decode (ov_byt 75) 42 = .ok (.iastore, 1) := by decide +kernel
theorem od_75_43 : decode (ov_byt 75) 43 = .ok (.aload_n 0, 1) := by decide +kernel
theorem od_75_44 : decode (ov_byt 75) 44 = .ok (.dup, 1) := by decide +kernel
theorem og_75_45 : ov_GF 75 45 4 3 := ⟨21, false, 188, by decide +kernel, by decide +kernel⟩
theorem od_75_48 : decode (ov_byt 75) 48 = .ok (.iconst 1, 1) := by decide +kernel
theorem od_75_49 : decode (ov_byt 75) 49 = .ok (.iadd, 1) := by decide +kernel
theorem op_75_50 : ov_PF 75 50 4 3 := ⟨21, 188, by decide +kernel, by decide +kernel⟩
theorem od_75_53 : decode (ov_byt 75) 53 = .ok (.return_, 1) := by decide +kernel
theorem od_75_9 : decode (ov_byt 75) 9 = .ok (.aload_n 0, 1) := by decide +kernel
theorem oc_75_10 : ov_CL 75 10 1 76 := ⟨25, (571, 573, 10), (by show decode (ov_byt 75) 10 = Except.ok (Instr.invokevirtual 25, 3); decide +kernel), by decide +kernel⟩
theorem od_75_6 : decode (ov_byt 75) 6 = .ok (.if_icmp .lt 7, 3) := by decide +kernel
theorem od_79_0 : decode (ov_byt 79) 0 = .ok (.iload_n 1, 1) := by decide +kernel
theorem ok_79_32 : ∃ w, ov_find ov_kt (15 * 32 + ov_oc 79) = some ((257982 : Int32), w) := ⟨589, by decide +kernel⟩
theorem od_79_32 : decode (ov_byt 79) 32 = .ok (.ldc 15, 2) := by decide +kernel
theorem od_79_34 : decode (ov_byt 79) 34 = .ok (.iload_n 0, 1) := by decide +kernel
theorem oc_79_35 : ov_CL 79 35 0 23 := ⟨9, (590, 346, 0), (by show decode (ov_byt 79) 35 = Except.ok (Instr.invokestatic 9, 3); decide +kernel), by decide +kernel⟩
theorem od_79_47 : decode (ov_byt 79) 47 = .ok (.bipush (-9), 2) := by decide +kernel
theorem od_79_49 : decode (ov_byt 79) 49 = .ok (.ireturn, 1) := by decide +kernel
theorem od_79_41 : decode (ov_byt 79) 41 = .ok (.iload_n 0, 1) := by decide +kernel
theorem od_79_42 : decode (ov_byt 79) 42 = .ok (.iconst 1, 1) := by decide +kernel
theorem od_79_43 : decode (ov_byt 79) 43 = .ok (.isub, 1) := by decide +kernel
theorem od_79_44 : decode (ov_byt 79) 44 = .ok (.goto 5, 3) := by decide +kernel
theorem od_79_38 : decode (ov_byt 79) 38 = .ok (.ifCond .eq 9, 3) := by decide +kernel
theorem od_79_1 : decode (ov_byt 79) 1 = .ok (.tableswitch 121 0 3 #[31, 49, 67, 94], 31) := by decide +kernel
theorem ok_79_50 : ∃ w, ov_find ov_kt (16 * 32 + ov_oc 79) = some ((128991 : Int32), w) := ⟨591, by decide +kernel⟩
theorem od_79_50 : decode (ov_byt 79) 50 = .ok (.ldc 16, 2) := by decide +kernel
theorem od_79_52 : decode (ov_byt 79) 52 = .ok (.iload_n 0, 1) := by decide +kernel
theorem oc_79_53 : ov_CL 79 53 0 23 := ⟨9, (590, 346, 0), (by show decode (ov_byt 79) 53 = Except.ok (Instr.invokestatic 9, 3); decide +kernel), by decide +kernel⟩
theorem od_79_65 : decode (ov_byt 79) 65 = .ok (.bipush (-9), 2) := by decide +kernel
theorem od_79_67 : decode (ov_byt 79) 67 = .ok (.ireturn, 1) := by decide +kernel
theorem od_79_59 : decode (ov_byt 79) 59 = .ok (.iload_n 0, 1) := by decide +kernel
theorem od_79_60 : decode (ov_byt 79) 60 = .ok (.iconst 1, 1) := by decide +kernel
theorem od_79_61 : decode (ov_byt 79) 61 = .ok (.iadd, 1) := by decide +kernel
theorem od_79_62 : decode (ov_byt 79) 62 = .ok (.goto 5, 3) := by decide +kernel
theorem od_79_56 : decode (ov_byt 79) 56 = .ok (.ifCond .eq 9, 3) := by decide +kernel
theorem od_79_68 : decode (ov_byt 79) 68 = .ok (.iload_n 0, 1) := by decide +kernel
theorem oc_79_69 : ov_CL 79 69 0 49 := ⟨17, (452, 453, 0), (by show decode (ov_byt 79) 69 = Except.ok (Instr.invokestatic 17, 3); decide +kernel), by decide +kernel⟩
theorem od_79_92 : decode (ov_byt 79) 92 = .ok (.bipush (-9), 2) := by decide +kernel
theorem od_79_94 : decode (ov_byt 79) 94 = .ok (.ireturn, 1) := by decide +kernel
theorem od_79_75 : decode (ov_byt 79) 75 = .ok (.iload_n 0, 1) := by decide +kernel
theorem od_79_76 : decode (ov_byt 79) 76 = .ok (.bipush 6, 2) := by decide +kernel
theorem od_79_78 : decode (ov_byt 79) 78 = .ok (.isub, 1) := by decide +kernel
theorem oc_79_79 : ov_CL 79 79 0 49 := ⟨17, (452, 453, 0), (by show decode (ov_byt 79) 79 = Except.ok (Instr.invokestatic 17, 3); decide +kernel), by decide +kernel⟩
theorem od_79_85 : decode (ov_byt 79) 85 = .ok (.iload_n 0, 1) := by decide +kernel
theorem od_79_86 : decode (ov_byt 79) 86 = .ok (.bipush 6, 2) := by decide +kernel
theorem od_79_88 : decode (ov_byt 79) 88 = .ok (.isub, 1) := by decide +kernel
theorem od_79_89 : decode (ov_byt 79) 89 = .ok (.goto 5, 3) := by decide +kernel
theorem od_79_82 : decode (ov_byt 79) 82 = .ok (.ifCond .eq 10, 3) := by decide +kernel
theorem od_79_72 : decode (ov_byt 79) 72 = .ok (.ifCond .eq 20, 3) := by decide +kernel
theorem od_79_95 : decode (ov_byt 79) 95 = .ok (.iload_n 0, 1) := by decide +kernel
theorem oc_79_96 : ov_CL 79 96 0 49 := ⟨17, (452, 453, 0), (by show decode (ov_byt 79) 96 = Except.ok (Instr.invokestatic 17, 3); decide +kernel), by decide +kernel⟩
theorem od_79_119 : decode (ov_byt 79) 119 = .ok (.bipush (-9), 2) := by decide +kernel
theorem od_79_121 : decode (ov_byt 79) 121 = .ok (.ireturn, 1) := by decide +kernel
theorem od_79_102 : decode (ov_byt 79) 102 = .ok (.iload_n 0, 1) := by decide +kernel
theorem od_79_103 : decode (ov_byt 79) 103 = .ok (.bipush 6, 2) := by decide +kernel
theorem od_79_105 : decode (ov_byt 79) 105 = .ok (.iadd, 1) := by decide +kernel
theorem oc_79_106 : ov_CL 79 106 0 49 := ⟨17, (452, 453, 0), (by show decode (ov_byt 79) 106 = Except.ok (Instr.invokestatic 17, 3); decide +kernel), by decide +kernel⟩
theorem od_79_112 : decode (ov_byt 79) 112 = .ok (.iload_n 0, 1) := by decide +kernel
theorem od_79_113 : decode (ov_byt 79) 113 = .ok (.bipush 6, 2) := by decide +kernel
theorem od_79_115 : decode (ov_byt 79) 115 = .ok (.iadd, 1) := by decide +kernel
theorem od_79_116 : decode (ov_byt 79) 116 = .ok (.goto 5, 3) := by decide +kernel
theorem od_79_109 : decode (ov_byt 79) 109 = .ok (.ifCond .eq 10, 3) := by decide +kernel
theorem od_79_99 : decode (ov_byt 79) 99 = .ok (.ifCond .eq 20, 3) := by decide +kernel
theorem od_79_122 : decode (ov_byt 79) 122 = .ok (.bipush (-9), 2) := by decide +kernel
theorem od_79_124 : decode (ov_byt 79) 124 = .ok (.ireturn, 1) := by decide +kernel
theorem od_90_0 : decode (ov_byt 90) 0 = .ok (.aload_n 0, 1) := by decide +kernel
theorem og_90_1 : ov_GF 90 1 3 0 := ⟨18, true, 163, by decide +kernel, by decide +kernel⟩
theorem od_90_4 : decode (ov_byt 90) 4 = .ok (.iload_n 1, 1) := by decide +kernel
theorem oc_90_5 : ov_CL 90 5 1 29 := ⟨44, (396, 368, 369), (by show decode (ov_byt 90) 5 = Except.ok (Instr.invokevirtual 44, 3); decide +kernel), by decide +kernel⟩
theorem od_90_18 : decode (ov_byt 90) 18 = .ok (.return_, 1) := by decide +kernel
theorem od_90_11 : decode (ov_byt 90) 11 = .ok (.aload_n 0, 1) := by decide +kernel
theorem og_90_12 : ov_GF 90 12 3 1 := ⟨9, true, 164, by decide +kernel, by decide +kernel⟩
theorem od_90_15 : decode (ov_byt 90) 15 = .ok (.iload_n 1, 1) := by decide +kernel
theorem od_90_16 : decode (ov_byt 90) 16 = .ok (.iload_n 2, 1) := by decide +kernel
theorem od_90_17 : decode (ov_byt 90) 17 = .ok (.iastore, 1) := by decide +kernel
theorem od_90_8 : decode (ov_byt 90) 8 = .ok (.ifCond .eq 10, 3) := by decide +kernel
theorem od_94_0 : decode (ov_byt 94) 0 = .ok (.iload_n 0, 1) := by decide +kernel
theorem oc_94_1 : ov_CL 94 1 0 24 := ⟨24, (464, 349, 0), (by show decode (ov_byt 94) 1 = Except.ok (Instr.invokestatic 24, 3); decide +kernel), by decide +kernel⟩
theorem od_94_4 : decode (ov_byt 94) 4 = .ok (.istore_n 3, 1) := by decide +kernel
theorem od_94_5 : decode (ov_byt 94) 5 = .ok (.iconst 0, 1) := by decide +kernel
theorem od_94_6 : decode (ov_byt 94) 6 = .ok (.istore 4, 2) := by decide +kernel
theorem od_94_8 : decode (ov_byt 94) 8 = .ok (.iload 4, 2) := by decide +kernel
theorem od_94_10 : decode (ov_byt 94) 10 = .ok (.bipush 18, 2) := by decide +kernel
theorem od_94_15 : decode (ov_byt 94) 15 = .ok (.iload_n 3, 1) := by decide +kernel
theorem od_94_16 : decode (ov_byt 94) 16 = .ok (.iload_n 1, 1) := by decide +kernel
theorem oc_94_17 : ov_CL 94 17 0 23 := ⟨9, (590, 346, 0), (by show decode (ov_byt 94) 17 = Except.ok (Instr.invokestatic 9, 3); decide +kernel), by decide +kernel⟩
theorem od_94_26 : decode (ov_byt 94) 26 = .ok (.iload_n 3, 1) := by decide +kernel
theorem od_94_27 : decode (ov_byt 94) 27 = .ok (.iload_n 3, 1) := by decide +kernel
theorem od_94_28 : decode (ov_byt 94) 28 = .ok (.iload_n 2, 1) := by decide +kernel
theorem oc_94_29 : ov_CL 94 29 0 68 := ⟨28, (531, 532, 0), (by show decode (ov_byt 94) 29 = Except.ok (Instr.invokestatic 28, 3); decide +kernel), by decide +kernel⟩
theorem od_94_32 : decode (ov_byt 94) 32 = .ok (.ior, 1) := by decide +kernel
theorem od_94_33 : decode (ov_byt 94) 33 = .ok (.istore_n 3, 1) := by decide +kernel
theorem od_94_34 : decode (ov_byt 94) 34 = .ok (.iinc 4 1, 3) := by decide +kernel
theorem od_94_37 : decode (ov_byt 94) 37 = .ok (.goto (-29), 3) := by decide +kernel
theorem od_94_23 : decode (ov_byt 94) 23 = .ok (.iload 4, 2) := by decide +kernel
theorem od_94_25 : decode (ov_byt 94) 25 = .ok (.ireturn, 1) := by decide +kernel
theorem od_94_20 : decode (ov_byt 94) 20 = .ok (.ifCond .eq 6, 3) := by decide +kernel
theorem od_94_12 : decode (ov_byt 94) 12 = .ok (.if_icmp .ge 28, 3) := by decide +kernel
theorem od_94_40 : decode (ov_byt 94) 40 = .ok (.bipush (-9), 2) := by decide +kernel
theorem od_94_42 : decode (ov_byt 94) 42 = .ok (.ireturn, 1) := by decide +kernel
theorem od_102_0 : decode (ov_byt 102) 0 = .ok (.iconst 0, 1) := by decide +kernel
theorem od_102_1 : decode (ov_byt 102) 1 = .ok (.istore_n 1, 1) := by decide +kernel
theorem od_102_2 : decode (ov_byt 102) 2 = .ok (.iload_n 1, 1) := by decide +kernel
theorem od_102_3 : decode (ov_byt 102) 3 = .ok (.bipush 18, 2) := by decide +kernel
theorem od_102_8 : decode (ov_byt 102) 8 = .ok (.iload_n 0, 1) := by decide +kernel
theorem od_102_9 : decode (ov_byt 102) 9 = .ok (.iload_n 1, 1) := by decide +kernel
theorem oc_102_10 : ov_CL 102 10 0 23 := ⟨9, (590, 346, 0), (by show decode (ov_byt 102) 10 = Except.ok (Instr.invokestatic 9, 3); decide +kernel), by decide +kernel⟩
theorem od_102_18 : decode (ov_byt 102) 18 = .ok (.iinc 1 1, 3) := by decide +kernel
theorem od_102_21 : decode (ov_byt 102) 21 = .ok (.goto (-19), 3) := by decide +kernel
theorem od_102_16 : decode (ov_byt 102) 16 = .ok (.iload_n 1, 1) := by decide +kernel
theorem od_102_17 : decode (ov_byt 102) 17 = .ok (.ireturn, 1) := by decide +kernel
theorem od_102_13 : decode (ov_byt 102) 13 = .ok (.ifCond .eq 5, 3) := by decide +kernel
theorem od_102_5 : decode (ov_byt 102) 5 = .ok (.if_icmp .ge 19, 3) := by decide +kernel
theorem od_102_24 : decode (ov_byt 102) 24 = .ok (.bipush (-9), 2) := by decide +kernel
theorem od_102_26 : decode (ov_byt 102) 26 = .ok (.ireturn, 1) := by decide +kernel
theorem od_119_0 : decode (ov_byt 119) 0 = .ok (.lload_n 0, 1) := by decide +kernel
theorem ox_119_1 : ov_XL 119 1 2 := ⟨7, 771, by decide +kernel, by decide +kernel⟩
theorem od_119_4 : decode (ov_byt 119) 4 = .ok (.lload_n 2, 1) := by decide +kernel
theorem oc_119_5 : ov_CL 119 5 0 121 := ⟨13, (774, 775, 0), (by show decode (ov_byt 119) 5 = Except.ok (Instr.invokestatic 13, 3); decide +kernel), by decide +kernel⟩
theorem od_119_8 : decode (ov_byt 119) 8 = .ok (.lstore 5, 2) := by decide +kernel
theorem od_119_10 : decode (ov_byt 119) 10 = .ok (.lload 5, 2) := by decide +kernel
theorem od_119_12 : decode (ov_byt 119) 12 = .ok (.lconst 0, 1) := by decide +kernel
theorem od_119_13 : decode (ov_byt 119) 13 = .ok (.lcmp, 1) := by decide +kernel
theorem od_119_19 : decode (ov_byt 119) 19 = .ok (.iload 4, 2) := by decide +kernel
theorem od_119_28 : decode (ov_byt 119) 28 = .ok (.lload_n 2, 1) := by decide +kernel
theorem od_119_29 : decode (ov_byt 119) 29 = .ok (.lload 5, 2) := by decide +kernel
theorem od_119_31 : decode (ov_byt 119) 31 = .ok (.ldiv, 1) := by decide +kernel
theorem od_119_32 : decode (ov_byt 119) 32 = .ok (.l2i, 1) := by decide +kernel
