theorem od_225_6 : decode (ov_byt 225) 6 = .ok (.i2l, 1) := by decide +kernel
theorem od_225_7 : decode (ov_byt 225) 7 = .ok (.lconst 0, 1) := by decide +kernel
theorem od_225_8 : decode (ov_byt 225) 8 = .ok (.lconst 1, 1) := by decide +kernel
theorem oc_225_9 : ov_CL 225 9 0 144 := ⟨90, (1006, 1007, 0), (by show decode (ov_byt 225) 9 = Except.ok (Instr.invokestatic 90, 3); decide +kernel), by decide +kernel⟩
theorem od_225_17 : decode (ov_byt 225) 17 = .ok (.aload_n 0, 1) := by decide +kernel
theorem og_225_18 : ov_GF 225 18 8 29 := ⟨61, true, 900, by decide +kernel, by decide +kernel⟩
theorem od_225_21 : decode (ov_byt 225) 21 = .ok (.iload_n 1, 1) := by decide +kernel
theorem od_225_22 : decode (ov_byt 225) 22 = .ok (.baload, 1) := by decide +kernel
theorem od_225_29 : decode (ov_byt 225) 29 = .ok (.iconst 0, 1) := by decide +kernel
theorem od_225_30 : decode (ov_byt 225) 30 = .ok (.istore_n 2, 1) := by decide +kernel
theorem od_225_31 : decode (ov_byt 225) 31 = .ok (.iload_n 2, 1) := by decide +kernel
theorem od_225_32 : decode (ov_byt 225) 32 = .ok (.bipush 12, 2) := by decide +kernel
theorem od_225_37 : decode (ov_byt 225) 37 = .ok (.aload_n 0, 1) := by decide +kernel
theorem og_225_38 : ov_GF 225 38 8 23 := ⟨46, true, 894, by decide +kernel, by decide +kernel⟩
theorem od_225_41 : decode (ov_byt 225) 41 = .ok (.iload_n 2, 1) := by decide +kernel
theorem od_225_42 : decode (ov_byt 225) 42 = .ok (.aload_n 0, 1) := by decide +kernel
theorem og_225_43 : ov_GF 225 43 8 28 := ⟨58, true, 899, by decide +kernel, by decide +kernel⟩
theorem od_225_46 : decode (ov_byt 225) 46 = .ok (.bipush 12, 2) := by decide +kernel
theorem od_225_48 : decode (ov_byt 225) 48 = .ok (.iload_n 1, 1) := by decide +kernel
theorem od_225_49 : decode (ov_byt 225) 49 = .ok (.imul, 1) := by decide +kernel
theorem od_225_50 : decode (ov_byt 225) 50 = .ok (.iload_n 2, 1) := by decide +kernel
theorem od_225_51 : decode (ov_byt 225) 51 = .ok (.iadd, 1) := by decide +kernel
theorem od_225_52 : decode (ov_byt 225) 52 = .ok (.iaload, 1) := by decide +kernel
theorem od_225_53 : decode (ov_byt 225) 53 = .ok (.iastore, 1) := by decide +kernel
theorem od_225_54 : decode (ov_byt 225) 54 = .ok (.iinc 2 1, 3) := by decide +kernel
theorem od_225_57 : decode (ov_byt 225) 57 = .ok (.goto (-26), 3) := by decide +kernel
theorem od_225_34 : decode (ov_byt 225) 34 = .ok (.if_icmp .ge 26, 3) := by decide +kernel
theorem od_225_60 : decode (ov_byt 225) 60 = .ok (.aload_n 0, 1) := by decide +kernel
theorem od_225_61 : decode (ov_byt 225) 61 = .ok (.iconst 0, 1) := by decide +kernel
theorem op_225_62 : ov_PF 225 62 8 27 := ⟨164, 898, by decide +kernel, by decide +kernel⟩
theorem od_225_65 : decode (ov_byt 225) 65 = .ok (.aload_n 0, 1) := by decide +kernel
theorem og_225_66 : ov_GF 225 66 8 23 := ⟨46, true, 894, by decide +kernel, by decide +kernel⟩
theorem od_225_69 : decode (ov_byt 225) 69 = .ok (.bipush 11, 2) := by decide +kernel
theorem od_225_71 : decode (ov_byt 225) 71 = .ok (.iaload, 1) := by decide +kernel
theorem od_225_72 : decode (ov_byt 225) 72 = .ok (.ireturn, 1) := by decide +kernel
theorem od_225_26 : decode (ov_byt 225) 26 = .ok (.bipush (-3), 2) := by decide +kernel
theorem od_225_28 : decode (ov_byt 225) 28 = .ok (.ireturn, 1) := by decide +kernel
theorem od_225_23 : decode (ov_byt 225) 23 = .ok (.ifCond .ne 6, 3) := by decide +kernel
theorem od_225_15 : decode (ov_byt 225) 15 = .ok (.iconst (-1), 1) := by decide +kernel
theorem od_225_16 : decode (ov_byt 225) 16 = .ok (.ireturn, 1) := by decide +kernel
theorem od_225_12 : decode (ov_byt 225) 12 = .ok (.ifCond .ne 5, 3) := by decide +kernel
theorem od_5_0 : decode (ov_byt 5) 0 = .ok (.iconst 0, 1) := by decide +kernel
theorem od_5_1 : decode (ov_byt 5) 1 = .ok (.istore_n 1, 1) := by decide +kernel
theorem od_5_2 : decode (ov_byt 5) 2 = .ok (.iload_n 1, 1) := by decide +kernel
theorem od_5_3 : decode (ov_byt 5) 3 = .ok (.bipush 6, 2) := by decide +kernel
theorem od_5_8 : decode (ov_byt 5) 8 = .ok (.aload_n 0, 1) := by decide +kernel
theorem og_5_9 : ov_GF 5 9 3 1 := ⟨9, true, 164, by decide +kernel, by decide +kernel⟩
theorem od_5_12 : decode (ov_byt 5) 12 = .ok (.iload_n 1, 1) := by decide +kernel
theorem od_5_13 : decode (ov_byt 5) 13 = .ok (.bipush (-9), 2) := by decide +kernel
theorem od_5_15 : decode (ov_byt 5) 15 = .ok (.iastore, 1) := by decide +kernel
theorem od_5_16 : decode (ov_byt 5) 16 = .ok (.iinc 1 1, 3) := by decide +kernel
theorem od_5_19 : decode (ov_byt 5) 19 = .ok (.goto (-17), 3) := by decide +kernel
theorem od_5_5 : decode (ov_byt 5) 5 = .ok (.if_icmp .ge 17, 3) := by decide +kernel
theorem od_5_22 : decode (ov_byt 5) 22 = .ok (.iconst 0, 1) := by decide +kernel
theorem od_5_23 : decode (ov_byt 5) 23 = .ok (.istore_n 1, 1) := by decide +kernel
theorem od_5_24 : decode (ov_byt 5) 24 = .ok (.iload_n 1, 1) := by decide +kernel
theorem od_5_25 : decode (ov_byt 5) 25 = .ok (.iconst 4, 1) := by decide +kernel
theorem od_5_29 : decode (ov_byt 5) 29 = .ok (.aload_n 0, 1) := by decide +kernel
theorem og_5_30 : ov_GF 5 30 3 2 := ⟨15, true, 165, by decide +kernel, by decide +kernel⟩
theorem od_5_33 : decode (ov_byt 5) 33 = .ok (.iload_n 1, 1) := by decide +kernel
theorem od_5_34 : decode (ov_byt 5) 34 = .ok (.aload_n 0, 1) := by decide +kernel
theorem og_5_35 : ov_GF 5 35 3 0 := ⟨18, true, 163, by decide +kernel, by decide +kernel⟩
theorem od_5_38 : decode (ov_byt 5) 38 = .ok (.iload_n 1, 1) := by decide +kernel
theorem oc_5_39 : ov_CL 5 39 1 6 := ⟨25, (155, 156, 157), (by show decode (ov_byt 5) 39 = Except.ok (Instr.invokevirtual 25, 3); decide +kernel), by decide +kernel⟩
theorem od_5_42 : decode (ov_byt 5) 42 = .ok (.iastore, 1) := by decide +kernel
theorem od_5_43 : decode (ov_byt 5) 43 = .ok (.iinc 1 1, 3) := by decide +kernel
theorem od_5_46 : decode (ov_byt 5) 46 = .ok (.goto (-22), 3) := by decide +kernel
theorem od_5_26 : decode (ov_byt 5) 26 = .ok (.if_icmp .ge 23, 3) := by decide +kernel
theorem od_5_49 : decode (ov_byt 5) 49 = .ok (.aload_n 0, 1) := by decide +kernel
theorem od_5_50 : decode (ov_byt 5) 50 = .ok (.iconst 0, 1) := by decide +kernel
theorem op_5_51 : ov_PF 5 51 3 3 := ⟨31, 166, by decide +kernel, by decide +kernel⟩
theorem od_5_54 : decode (ov_byt 5) 54 = .ok (.aload_n 0, 1) := by decide +kernel
theorem od_5_55 : decode (ov_byt 5) 55 = .ok (.iconst 0, 1) := by decide +kernel
theorem op_5_56 : ov_PF 5 56 3 4 := ⟨35, 167, by decide +kernel, by decide +kernel⟩
theorem od_5_59 : decode (ov_byt 5) 59 = .ok (.return_, 1) := by decide +kernel
theorem od_21_0 : decode (ov_byt 21) 0 = .ok (.iload_n 1, 1) := by decide +kernel
theorem od_21_44 : decode (ov_byt 21) 44 = .ok (.aload_n 0, 1) := by decide +kernel
theorem od_21_45 : decode (ov_byt 21) 45 = .ok (.iload_n 2, 1) := by decide +kernel
theorem od_21_46 : decode (ov_byt 21) 46 = .ok (.bipush 97, 2) := by decide +kernel
theorem od_21_48 : decode (ov_byt 21) 48 = .ok (.isub, 1) := by decide +kernel
theorem oc_21_49 : ov_CL 21 49 1 22 := ⟨66, (340, 342, 2), (by show decode (ov_byt 21) 49 = Except.ok (Instr.invokevirtual 66, 3); decide +kernel), by decide +kernel⟩
theorem od_21_52 : decode (ov_byt 21) 52 = .ok (.ireturn, 1) := by decide +kernel
theorem od_21_1 : decode (ov_byt 21) 1 = .ok (.lookupswitch 87 #[(68, 43), (70, 52), (76, 74), (80, 61)], 43) := by decide +kernel
theorem od_21_53 : decode (ov_byt 21) 53 = .ok (.aload_n 0, 1) := by decide +kernel
theorem od_21_54 : decode (ov_byt 21) 54 = .ok (.iload_n 2, 1) := by decide +kernel
theorem od_21_55 : decode (ov_byt 21) 55 = .ok (.bipush 97, 2) := by decide +kernel
theorem od_21_57 : decode (ov_byt 21) 57 = .ok (.isub, 1) := by decide +kernel
theorem oc_21_58 : ov_CL 21 58 1 25 := ⟨69, (351, 353, 3), (by show decode (ov_byt 21) 58 = Except.ok (Instr.invokevirtual 69, 3); decide +kernel), by decide +kernel⟩
theorem od_21_61 : decode (ov_byt 21) 61 = .ok (.ireturn, 1) := by decide +kernel
theorem od_21_75 : decode (ov_byt 21) 75 = .ok (.aload_n 0, 1) := by decide +kernel
theorem od_21_76 : decode (ov_byt 21) 76 = .ok (.iload_n 2, 1) := by decide +kernel
theorem od_21_77 : decode (ov_byt 21) 77 = .ok (.bipush 48, 2) := by decide +kernel
theorem od_21_79 : decode (ov_byt 21) 79 = .ok (.isub, 1) := by decide +kernel
theorem od_21_80 : decode (ov_byt 21) 80 = .ok (.iload_n 3, 1) := by decide +kernel
theorem od_21_81 : decode (ov_byt 21) 81 = .ok (.bipush 48, 2) := by decide +kernel
theorem od_21_83 : decode (ov_byt 21) 83 = .ok (.isub, 1) := by decide +kernel
theorem oc_21_84 : ov_CL 21 84 1 28 := ⟨76, (363, 365, 5), (by show decode (ov_byt 21) 84 = Except.ok (Instr.invokevirtual 76, 3); decide +kernel), by decide +kernel⟩
theorem od_21_87 : decode (ov_byt 21) 87 = .ok (.ireturn, 1) := by decide +kernel
theorem od_21_62 : decode (ov_byt 21) 62 = .ok (.aload_n 0, 1) := by decide +kernel
theorem od_21_63 : decode (ov_byt 21) 63 = .ok (.iload_n 2, 1) := by decide +kernel
theorem od_21_64 : decode (ov_byt 21) 64 = .ok (.bipush 48, 2) := by decide +kernel
theorem od_21_66 : decode (ov_byt 21) 66 = .ok (.isub, 1) := by decide +kernel
theorem od_21_67 : decode (ov_byt 21) 67 = .ok (.iload_n 3, 1) := by decide +kernel
theorem od_21_68 : decode (ov_byt 21) 68 = .ok (.bipush 48, 2) := by decide +kernel
theorem od_21_70 : decode (ov_byt 21) 70 = .ok (.isub, 1) := by decide +kernel
theorem oc_21_71 : ov_CL 21 71 1 26 := ⟨72, (356, 358, 4), (by show decode (ov_byt 21) 71 = Except.ok (Instr.invokevirtual 72, 3); decide +kernel), by decide +kernel⟩
theorem od_21_74 : decode (ov_byt 21) 74 = .ok (.ireturn, 1) := by decide +kernel
theorem od_21_88 : decode (ov_byt 21) 88 = .ok (.iconst 0, 1) := by decide +kernel
theorem od_21_89 : decode (ov_byt 21) 89 = .ok (.ireturn, 1) := by decide +kernel
theorem od_34_0 : decode (ov_byt 34) 0 = .ok (.aload_n 0, 1) := by decide +kernel
theorem od_34_1 : decode (ov_byt 34) 1 = .ok (.iload_n 1, 1) := by decide +kernel
theorem oc_34_2 : ov_CL 34 2 1 35 := ⟨48, (392, 393, 394), (by show decode (ov_byt 34) 2 = Except.ok (Instr.invokevirtual 48, 3); decide +kernel), by decide +kernel⟩
theorem od_34_5 : decode (ov_byt 34) 5 = .ok (.bipush (-9), 2) := by decide +kernel
theorem od_34_14 : decode (ov_byt 34) 14 = .ok (.iconst 0, 1) := by decide +kernel
theorem od_34_15 : decode (ov_byt 34) 15 = .ok (.ireturn, 1) := by decide +kernel
theorem od_34_10 : decode (ov_byt 34) 10 = .ok (.iconst 1, 1) := by decide +kernel
theorem od_34_11 : decode (ov_byt 34) 11 = .ok (.goto 4, 3) := by decide +kernel
theorem od_34_7 : decode (ov_byt 34) 7 = .ok (.if_icmp .eq 7, 3) := by decide +kernel
theorem od_38_0 : decode (ov_byt 38) 0 = .ok (.aload_n 0, 1) := by decide +kernel
theorem od_38_1 : decode (ov_byt 38) 1 = .ok (.iload_n 1, 1) := by decide +kernel
theorem od_38_2 : decode (ov_byt 38) 2 = .ok (.aload_n 0, 1) := by decide +kernel
theorem og_38_3 : ov_GF 38 3 3 0 := ⟨18, true, 163, by decide +kernel, by decide +kernel⟩
theorem oc_38_6 : ov_CL 38 6 1 39 := ⟨75, (410, 411, 412), (by show decode (ov_byt 38) 6 = Except.ok (Instr.invokevirtual 75, 3); decide +kernel), by decide +kernel⟩
theorem od_38_9 : decode (ov_byt 38) 9 = .ok (.iconst (-1), 1) := by decide +kernel
theorem od_38_10 : decode (ov_byt 38) 10 = .ok (.ixor, 1) := by decide +kernel
theorem od_38_11 : decode (ov_byt 38) 11 = .ok (.iand, 1) := by decide +kernel
theorem oc_38_12 : ov_CL 38 12 1 40 := ⟨79, (414, 416, 8), (by show decode (ov_byt 38) 12 = Except.ok (Instr.invokevirtual 79, 3); decide +kernel), by decide +kernel⟩
theorem od_38_15 : decode (ov_byt 38) 15 = .ok (.ireturn, 1) := by decide +kernel
theorem od_47_0 : decode (ov_byt 47) 0 = .ok (.aload_n 0, 1) := by decide +kernel
theorem od_47_1 : decode (ov_byt 47) 1 = .ok (.iload_n 1, 1) := by decide +kernel
theorem oc_47_2 : ov_CL 47 2 1 35 := ⟨48, (392, 393, 394), (by show decode (ov_byt 47) 2 = Except.ok (Instr.invokevirtual 48, 3); decide +kernel), by decide +kernel⟩
theorem od_47_5 : decode (ov_byt 47) 5 = .ok (.aload_n 0, 1) := by decide +kernel
theorem od_47_6 : decode (ov_byt 47) 6 = .ok (.iload_n 2, 1) := by decide +kernel
theorem oc_47_7 : ov_CL 47 7 1 35 := ⟨48, (392, 393, 394), (by show decode (ov_byt 47) 7 = Except.ok (Instr.invokevirtual 48, 3); decide +kernel), by decide +kernel⟩
theorem oc_47_10 : ov_CL 47 10 0 48 := ⟨98, (449, 450, 0), (by show decode (ov_byt 47) 10 = Except.ok (Instr.invokestatic 98, 3); decide +kernel), by decide +kernel⟩
theorem od_47_13 : decode (ov_byt 47) 13 = .ok (.istore 4, 2) := by decide +kernel
theorem od_47_15 : decode (ov_byt 47) 15 = .ok (.iload 4, 2) := by decide +kernel
theorem od_47_17 : decode (ov_byt 47) 17 = .ok (.bipush (-9), 2) := by decide +kernel
theorem od_47_33 : decode (ov_byt 47) 33 = .ok (.iconst 0, 1) := by decide +kernel
theorem od_47_34 : decode (ov_byt 47) 34 = .ok (.ireturn, 1) := by decide +kernel
theorem od_47_22 : decode (ov_byt 47) 22 = .ok (.iload 4, 2) := by decide +kernel
theorem od_47_24 : decode (ov_byt 47) 24 = .ok (.iload_n 3, 1) := by decide +kernel
theorem od_47_25 : decode (ov_byt 47) 25 = .ok (.iand, 1) := by decide +kernel
theorem od_47_29 : decode (ov_byt 47) 29 = .ok (.iconst 1, 1) := by decide +kernel
theorem od_47_30 : decode (ov_byt 47) 30 = .ok (.goto 4, 3) := by decide +kernel
theorem od_47_26 : decode (ov_byt 47) 26 = .ok (.ifCond .ne 7, 3) := by decide +kernel
theorem od_47_19 : decode (ov_byt 47) 19 = .ok (.if_icmp .eq 14, 3) := by decide +kernel
theorem ok_53_0 : ∃ w, ov_find ov_kt (82 * 32 + ov_oc 53) = some ((262143 : Int32), w) := ⟨420, by decide +kernel⟩
theorem od_53_0 : decode (ov_byt 53) 0 = .ok (.ldc 82, 2) := by decide +kernel
theorem od_53_2 : decode (ov_byt 53) 2 = .ok (.aload_n 0, 1) := by decide +kernel
theorem oc_53_3 : ov_CL 53 3 1 43 := ⟨83, (429, 430, 431), (by show decode (ov_byt 53) 3 = Except.ok (Instr.invokevirtual 83, 3); decide +kernel), by decide +kernel⟩
theorem od_53_6 : decode (ov_byt 53) 6 = .ok (.iconst (-1), 1) := by decide +kernel
theorem od_53_7 : decode (ov_byt 53) 7 = .ok (.ixor, 1) := by decide +kernel
theorem od_53_8 : decode (ov_byt 53) 8 = .ok (.iand, 1) := by decide +kernel
theorem od_53_9 : decode (ov_byt 53) 9 = .ok (.aload_n 0, 1) := by decide +kernel
theorem od_53_10 : decode (ov_byt 53) 10 = .ok (.bipush 63, 2) := by decide +kernel
theorem oc_53_12 : ov_CL 53 12 1 40 := ⟨79, (414, 416, 8), (by show decode (ov_byt 53) 12 = Except.ok (Instr.invokevirtual 79, 3); decide +kernel), by decide +kernel⟩
theorem od_53_15 : decode (ov_byt 53) 15 = .ok (.iconst (-1), 1) := by decide +kernel
theorem od_53_16 : decode (ov_byt 53) 16 = .ok (.ixor, 1) := by decide +kernel
theorem od_53_17 : decode (ov_byt 53) 17 = .ok (.iand, 1) := by decide +kernel
theorem od_53_18 : decode (ov_byt 53) 18 = .ok (.ireturn, 1) := by decide +kernel
theorem od_57_0 : decode (ov_byt 57) 0 = .ok (.aload_n 0, 1) := by decide +kernel
theorem og_57_1 : ov_GF 57 1 0 1 := ⟨19, true, 263, by decide +kernel, by decide +kernel⟩
theorem od_57_4 : decode (ov_byt 57) 4 = .ok (.iload_n 1, 1) := by decide +kernel
theorem oc_57_5 : ov_CL 57 5 1 58 := ⟨136, (485, 486, 487), (by show decode (ov_byt 57) 5 = Except.ok (Instr.invokevirtual 136, 3); decide +kernel), by decide +kernel⟩
theorem od_57_22 : decode (ov_byt 57) 22 = .ok (.iconst (-1), 1) := by decide +kernel
theorem od_57_23 : decode (ov_byt 57) 23 = .ok (.ireturn, 1) := by decide +kernel
theorem od_57_11 : decode (ov_byt 57) 11 = .ok (.aload_n 0, 1) := by decide +kernel
theorem og_57_12 : ov_GF 57 12 0 1 := ⟨19, true, 263, by decide +kernel, by decide +kernel⟩
theorem od_57_15 : decode (ov_byt 57) 15 = .ok (.iload_n 1, 1) := by decide +kernel
theorem oc_57_16 : ov_CL 57 16 1 59 := ⟨139, (489, 490, 491), (by show decode (ov_byt 57) 16 = Except.ok (Instr.invokevirtual 139, 3); decide +kernel), by decide +kernel⟩
theorem od_57_19 : decode (ov_byt 57) 19 = .ok (.goto 4, 3) := by decide +kernel
theorem od_57_8 : decode (ov_byt 57) 8 = .ok (.ifCond .eq 14, 3) := by decide +kernel
theorem od_60_0 : decode (ov_byt 60) 0 = .ok (.aload_n 0, 1) := by decide +kernel
theorem og_60_1 : ov_GF 60 1 0 1 := ⟨19, true, 263, by decide +kernel, by decide +kernel⟩
theorem od_60_4 : decode (ov_byt 60) 4 = .ok (.iload_n 1, 1) := by decide +kernel
theorem oc_60_5 : ov_CL 60 5 1 7 := ⟨142, (498, 160, 161), (by show decode (ov_byt 60) 5 = Except.ok (Instr.invokevirtual 142, 3); decide +kernel), by decide +kernel⟩
theorem od_60_22 : decode (ov_byt 60) 22 = .ok (.iconst (-1), 1) := by decide +kernel
theorem od_60_23 : decode (ov_byt 60) 23 = .ok (.ireturn, 1) := by decide +kernel
theorem od_60_11 : decode (ov_byt 60) 11 = .ok (.aload_n 0, 1) := by decide +kernel
theorem og_60_12 : ov_GF 60 12 0 3 := ⟨31, true, 265, by decide +kernel, by decide +kernel⟩
theorem od_60_15 : decode (ov_byt 60) 15 = .ok (.iload_n 1, 1) := by decide +kernel
theorem oc_60_16 : ov_CL 60 16 1 61 := ⟨145, (499, 500, 501), (by show decode (ov_byt 60) 16 = Except.ok (Instr.invokevirtual 145, 3); decide +kernel), by decide +kernel⟩
theorem od_60_19 : decode (ov_byt 60) 19 = .ok (.goto 4, 3) := by decide +kernel
theorem od_60_8 : decode (ov_byt 60) 8 = .ok (.ifCond .eq 14, 3) := by decide +kernel
theorem od_84_0 : decode (ov_byt 84) 0 = .ok (.iconst 0, 1) := by decide +kernel
theorem od_84_1 : decode (ov_byt 84) 1 = .ok (.istore_n 1, 1) := by decide +kernel
theorem od_84_2 : decode (ov_byt 84) 2 = .ok (.iconst 0, 1) := by decide +kernel
theorem od_84_3 : decode (ov_byt 84) 3 = .ok (.istore_n 2, 1) := by decide +kernel
theorem od_84_4 : decode (ov_byt 84) 4 = .ok (.iload_n 2, 1) := by decide +kernel
theorem od_84_5 : decode (ov_byt 84) 5 = .ok (.aload_n 0, 1) := by decide +kernel
theorem og_84_6 : ov_GF 84 6 2 0 := ⟨47, false, 99, by decide +kernel, by decide +kernel⟩
theorem od_84_12 : decode (ov_byt 84) 12 = .ok (.iload_n 1, 1) := by decide +kernel
theorem od_84_13 : decode (ov_byt 84) 13 = .ok (.aload_n 0, 1) := by decide +kernel
theorem od_84_14 : decode (ov_byt 84) 14 = .ok (.iload_n 2, 1) := by decide +kernel
theorem oc_84_15 : ov_CL 84 15 1 59 := ⟨108, (615, 490, 491), (by show decode (ov_byt 84) 15 = Except.ok (Instr.invokevirtual 108, 3); decide +kernel), by decide +kernel⟩
theorem oc_84_18 : ov_CL 84 18 0 24 := ⟨86, (348, 349, 0), (by show decode (ov_byt 84) 18 = Except.ok (Instr.invokestatic 86, 3); decide +kernel), by decide +kernel⟩
theorem od_84_21 : decode (ov_byt 84) 21 = .ok (.ior, 1) := by decide +kernel
theorem od_84_22 : decode (ov_byt 84) 22 = .ok (.istore_n 1, 1) := by decide +kernel
theorem od_84_23 : decode (ov_byt 84) 23 = .ok (.iinc 2 1, 3) := by decide +kernel
theorem od_84_26 : decode (ov_byt 84) 26 = .ok (.goto (-22), 3) := by decide +kernel
theorem od_84_9 : decode (ov_byt 84) 9 = .ok (.if_icmp .ge 20, 3) := by decide +kernel
theorem od_84_29 : decode (ov_byt 84) 29 = .ok (.iload_n 1, 1) := by decide +kernel
theorem od_84_30 : decode (ov_byt 84) 30 = .ok (.ireturn, 1) := by decide +kernel
theorem od_89_0 : decode (ov_byt 89) 0 = .ok (.iload_n 1, 1) := by decide +kernel
theorem od_89_13 : decode (ov_byt 89) 13 = .ok (.iload_n 1, 1) := by decide +kernel
theorem od_89_14 : decode (ov_byt 89) 14 = .ok (.iconst 1, 1) := by decide +kernel
theorem od_89_33 : decode (ov_byt 89) 33 = .ok (.aload_n 0, 1) := by decide +kernel
theorem og_89_34 : ov_GF 89 34 3 0 := ⟨18, true, 163, by decide +kernel, by decide +kernel⟩
theorem od_89_37 : decode (ov_byt 89) 37 = .ok (.iload_n 2, 1) := by decide +kernel
theorem oc_89_38 : ov_CL 89 38 1 7 := ⟨51, (503, 160, 161), (by show decode (ov_byt 89) 38 = Except.ok (Instr.invokevirtual 51, 3); decide +kernel), by decide +kernel⟩
theorem od_89_51 : decode (ov_byt 89) 51 = .ok (.aload_n 0, 1) := by decide +kernel
theorem od_89_52 : decode (ov_byt 89) 52 = .ok (.dup, 1) := by decide +kernel
theorem og_89_53 : ov_GF 89 53 3 4 := ⟨35, false, 167, by decide +kernel, by decide +kernel⟩
theorem od_89_56 : decode (ov_byt 89) 56 = .ok (.iconst 1, 1) := by decide +kernel
theorem od_89_57 : decode (ov_byt 89) 57 = .ok (.isub, 1) := by decide +kernel
theorem op_89_58 : ov_PF 89 58 3 4 := ⟨35, 167, by decide +kernel, by decide +kernel⟩
theorem od_89_61 : decode (ov_byt 89) 61 = .ok (.return_, 1) := by decide +kernel
theorem od_89_44 : decode (ov_byt 89) 44 = .ok (.aload_n 0, 1) := by decide +kernel
theorem og_89_45 : ov_GF 89 45 3 2 := ⟨15, true, 165, by decide +kernel, by decide +kernel⟩
theorem od_89_48 : decode (ov_byt 89) 48 = .ok (.iload_n 2, 1) := by decide +kernel
theorem od_89_49 : decode (ov_byt 89) 49 = .ok (.iload_n 3, 1) := by decide +kernel
theorem od_89_50 : decode (ov_byt 89) 50 = .ok (.iastore, 1) := by decide +kernel
theorem od_89_41 : decode (ov_byt 89) 41 = .ok (.ifCond .eq 10, 3) := by decide +kernel
theorem od_89_18 : decode (ov_byt 89) 18 = .ok (.aload_n 0, 1) := by decide +kernel
theorem od_89_19 : decode (ov_byt 89) 19 = .ok (.aload_n 0, 1) := by decide +kernel
theorem og_89_20 : ov_GF 89 20 3 3 := ⟨31, false, 166, by decide +kernel, by decide +kernel⟩
theorem od_89_23 : decode (ov_byt 89) 23 = .ok (.iload_n 2, 1) := by decide +kernel
theorem oc_89_24 : ov_CL 89 24 0 91 := ⟨150, (640, 641, 0), (by show decode (ov_byt 89) 24 = Except.ok (Instr.invokestatic 150, 3); decide +kernel), by decide +kernel⟩
theorem op_89_27 : ov_PF 89 27 3 3 := ⟨31, 166, by decide +kernel, by decide +kernel⟩
theorem od_89_30 : decode (ov_byt 89) 30 = .ok (.goto 21, 3) := by decide +kernel
theorem od_89_15 : decode (ov_byt 89) 15 = .ok (.if_icmp .ne 18, 3) := by decide +kernel
theorem od_89_4 : decode (ov_byt 89) 4 = .ok (.aload_n 0, 1) := by decide +kernel
theorem od_89_5 : decode (ov_byt 89) 5 = .ok (.iload_n 2, 1) := by decide +kernel
theorem od_89_6 : decode (ov_byt 89) 6 = .ok (.iload_n 3, 1) := by decide +kernel
theorem oc_89_7 : ov_CL 89 7 1 90 := ⟨146, (636, 637, 638), (by show decode (ov_byt 89) 7 = Except.ok (Instr.invokevirtual 146, 3); decide +kernel), by decide +kernel⟩
theorem od_89_10 : decode (ov_byt 89) 10 = .ok (.goto 41, 3) := by decide +kernel
theorem od_89_1 : decode (ov_byt 89) 1 = .ok (.ifCond .ne 12, 3) := by decide +kernel
theorem od_99_0 : decode (ov_byt 99) 0 = .ok (.iconst 0, 1) := by decide +kernel
theorem od_99_1 : decode (ov_byt 99) 1 = .ok (.istore_n 2, 1) := by decide +kernel
theorem od_99_2 : decode (ov_byt 99) 2 = .ok (.iconst 0, 1) := by decide +kernel
theorem od_99_3 : decode (ov_byt 99) 3 = .ok (.istore_n 3, 1) := by decide +kernel
theorem od_99_4 : decode (ov_byt 99) 4 = .ok (.iload_n 3, 1) := by decide +kernel
theorem od_99_5 : decode (ov_byt 99) 5 = .ok (.aload_n 0, 1) := by decide +kernel
theorem og_99_6 : ov_GF 99 6 2 3 := ⟨57, false, 109, by decide +kernel, by decide +kernel⟩
theorem od_99_12 : decode (ov_byt 99) 12 = .ok (.aload_n 0, 1) := by decide +kernel
theorem od_99_13 : decode (ov_byt 99) 13 = .ok (.iload_n 3, 1) := by decide +kernel
theorem oc_99_14 : ov_CL 99 14 1 44 := ⟨111, (679, 434, 435), (by show decode (ov_byt 99) 14 = Except.ok (Instr.invokevirtual 111, 3); decide +kernel), by decide +kernel⟩
theorem od_99_17 : decode (ov_byt 99) 17 = .ok (.iload_n 1, 1) := by decide +kernel
theorem od_99_30 : decode (ov_byt 99) 30 = .ok (.iload_n 2, 1) := by decide +kernel
theorem od_99_31 : decode (ov_byt 99) 31 = .ok (.iload_n 3, 1) := by decide +kernel
theorem oc_99_32 : ov_CL 99 32 0 27 := ⟨92, (360, 361, 0), (by show decode (ov_byt 99) 32 = Except.ok (Instr.invokestatic 92, 3); decide +kernel), by decide +kernel⟩
theorem od_99_35 : decode (ov_byt 99) 35 = .ok (.istore_n 2, 1) := by decide +kernel
theorem od_99_36 : decode (ov_byt 99) 36 = .ok (.iinc 3 1, 3) := by decide +kernel
theorem od_99_39 : decode (ov_byt 99) 39 = .ok (.goto (-35), 3) := by decide +kernel
theorem od_99_21 : decode (ov_byt 99) 21 = .ok (.aload_n 0, 1) := by decide +kernel
theorem od_99_22 : decode (ov_byt 99) 22 = .ok (.iload_n 3, 1) := by decide +kernel
theorem oc_99_23 : ov_CL 99 23 1 46 := ⟨114, (680, 442, 443), (by show decode (ov_byt 99) 23 = Except.ok (Instr.invokevirtual 114, 3); decide +kernel), by decide +kernel⟩
theorem od_99_26 : decode (ov_byt 99) 26 = .ok (.iload_n 1, 1) := by decide +kernel
theorem od_99_27 : decode (ov_byt 99) 27 = .ok (.if_icmp .ne 9, 3) := by decide +kernel
theorem od_99_18 : decode (ov_byt 99) 18 = .ok (.if_icmp .eq 12, 3) := by decide +kernel
theorem od_99_9 : decode (ov_byt 99) 9 = .ok (.if_icmp .ge 33, 3) := by decide +kernel
theorem od_99_42 : decode (ov_byt 99) 42 = .ok (.iload_n 2, 1) := by decide +kernel
theorem od_99_43 : decode (ov_byt 99) 43 = .ok (.ireturn, 1) := by decide +kernel
theorem od_111_0 : decode (ov_byt 111) 0 = .ok (.aload_n 0, 1) := by decide +kernel
theorem od_111_1 : decode (ov_byt 111) 1 = .ok (.iload_n 1, 1) := by decide +kernel
theorem oc_111_2 : ov_CL 111 2 1 35 := ⟨48, (392, 393, 394), (by show decode (ov_byt 111) 2 = Except.ok (Instr.invokevirtual 48, 3); decide +kernel), by decide +kernel⟩
theorem od_111_5 : decode (ov_byt 111) 5 = .ok (.aload_n 0, 1) := by decide +kernel
theorem od_111_6 : decode (ov_byt 111) 6 = .ok (.iload_n 2, 1) := by decide +kernel
theorem oc_111_7 : ov_CL 111 7 1 35 := ⟨48, (392, 393, 394), (by show decode (ov_byt 111) 7 = Except.ok (Instr.invokevirtual 48, 3); decide +kernel), by decide +kernel⟩
theorem oc_111_10 : ov_CL 111 10 0 48 := ⟨98, (449, 450, 0), (by show decode (ov_byt 111) 10 = Except.ok (Instr.invokestatic 98, 3); decide +kernel), by decide +kernel⟩
theorem od_111_13 : decode (ov_byt 111) 13 = .ok (.istore_n 3, 1) := by decide +kernel
theorem od_111_14 : decode (ov_byt 111) 14 = .ok (.iload_n 3, 1) := by decide +kernel
theorem od_111_15 : decode (ov_byt 111) 15 = .ok (.bipush (-9), 2) := by decide +kernel
theorem od_111_29 : decode (ov_byt 111) 29 = .ok (.bipush (-9), 2) := by decide +kernel
theorem od_111_31 : decode (ov_byt 111) 31 = .ok (.ireturn, 1) := by decide +kernel
theorem od_111_20 : decode (ov_byt 111) 20 = .ok (.iload_n 3, 1) := by decide +kernel
theorem od_111_21 : decode (ov_byt 111) 21 = .ok (.aload_n 0, 1) := by decide +kernel
theorem oc_111_22 : ov_CL 111 22 1 43 := ⟨83, (429, 430, 431), (by show decode (ov_byt 111) 22 = Except.ok (Instr.invokevirtual 83, 3); decide +kernel), by decide +kernel⟩
theorem od_111_25 : decode (ov_byt 111) 25 = .ok (.iand, 1) := by decide +kernel
theorem od_111_32 : decode (ov_byt 111) 32 = .ok (.iconst 0, 1) := by decide +kernel
theorem od_111_33 : decode (ov_byt 111) 33 = .ok (.istore 4, 2) := by decide +kernel
theorem od_111_35 : decode (ov_byt 111) 35 = .ok (.iconst 0, 1) := by decide +kernel
theorem od_111_36 : decode (ov_byt 111) 36 = .ok (.istore 5, 2) := by decide +kernel
theorem od_111_38 : decode (ov_byt 111) 38 = .ok (.iload 5, 2) := by decide +kernel
theorem od_111_40 : decode (ov_byt 111) 40 = .ok (.aload_n 0, 1) := by decide +kernel
theorem og_111_41 : ov_GF 111 41 3 0 := ⟨18, true, 163, by decide +kernel, by decide +kernel⟩
theorem og_111_44 : ov_GF 111 44 2 2 := ⟨54, false, 108, by decide +kernel, by decide +kernel⟩
theorem od_111_50 : decode (ov_byt 111) 50 = .ok (.aload_n 0, 1) := by decide +kernel
theorem og_111_51 : ov_GF 111 51 3 0 := ⟨18, true, 163, by decide +kernel, by decide +kernel⟩
theorem od_111_54 : decode (ov_byt 111) 54 = .ok (.iload 5, 2) := by decide +kernel
theorem oc_111_56 : ov_CL 111 56 1 64 := ⟨86, (526, 514, 515), (by show decode (ov_byt 111) 56 = Except.ok (Instr.invokevirtual 86, 3); decide +kernel), by decide +kernel⟩
theorem od_111_59 : decode (ov_byt 111) 59 = .ok (.iconst 2, 1) := by decide +kernel
theorem od_111_80 : decode (ov_byt 111) 80 = .ok (.iconst 0, 1) := by decide +kernel
theorem od_111_81 : decode (ov_byt 111) 81 = .ok (.istore 6, 2) := by decide +kernel
theorem od_111_83 : decode (ov_byt 111) 83 = .ok (.iload 6, 2) := by decide +kernel
theorem od_111_98 : decode (ov_byt 111) 98 = .ok (.iload 4, 2) := by decide +kernel
theorem od_111_100 : decode (ov_byt 111) 100 = .ok (.istore 4, 2) := by decide +kernel
theorem od_111_102 : decode (ov_byt 111) 102 = .ok (.iinc 5 1, 3) := by decide +kernel
theorem od_111_105 : decode (ov_byt 111) 105 = .ok (.goto (-67), 3) := by decide +kernel
theorem od_111_88 : decode (ov_byt 111) 88 = .ok (.iload 4, 2) := by decide +kernel
theorem od_111_90 : decode (ov_byt 111) 90 = .ok (.iload 5, 2) := by decide +kernel
theorem oc_111_92 : ov_CL 111 92 0 27 := ⟨60, (397, 361, 0), (by show decode (ov_byt 111) 92 = Except.ok (Instr.invokestatic 60, 3); decide +kernel), by decide +kernel⟩
theorem od_111_95 : decode (ov_byt 111) 95 = .ok (.goto 5, 3) := by decide +kernel
theorem od_111_85 : decode (ov_byt 111) 85 = .ok (.ifCond .eq 13, 3) := by decide +kernel
theorem od_111_63 : decode (ov_byt 111) 63 = .ok (.iload_n 3, 1) := by decide +kernel
theorem od_111_64 : decode (ov_byt 111) 64 = .ok (.aload_n 0, 1) := by decide +kernel
theorem od_111_65 : decode (ov_byt 111) 65 = .ok (.iload 5, 2) := by decide +kernel
theorem oc_111_67 : ov_CL 111 67 1 35 := ⟨48, (392, 393, 394), (by show decode (ov_byt 111) 67 = Except.ok (Instr.invokevirtual 48, 3); decide +kernel), by decide +kernel⟩
theorem oc_111_70 : ov_CL 111 70 0 23 := ⟨71, (418, 346, 0), (by show decode (ov_byt 111) 70 = Except.ok (Instr.invokestatic 71, 3); decide +kernel), by decide +kernel⟩
theorem od_111_76 : decode (ov_byt 111) 76 = .ok (.iconst 1, 1) := by decide +kernel
theorem od_111_77 : decode (ov_byt 111) 77 = .ok (.goto 4, 3) := by decide +kernel
theorem od_111_73 : decode (ov_byt 111) 73 = .ok (.ifCond .eq 7, 3) := by decide +kernel
theorem od_111_60 : decode (ov_byt 111) 60 = .ok (.if_icmp .eq 20, 3) := by decide +kernel
theorem od_111_47 : decode (ov_byt 111) 47 = .ok (.if_icmp .ge 61, 3) := by decide +kernel
theorem od_111_108 : decode (ov_byt 111) 108 = .ok (.iload 4, 2) := by decide +kernel
theorem od_111_110 : decode (ov_byt 111) 110 = .ok (.ireturn, 1) := by decide +kernel
theorem od_111_26 : decode (ov_byt 111) 26 = .ok (.ifCond .eq 6, 3) := by decide +kernel
theorem od_111_17 : decode (ov_byt 111) 17 = .ok (.if_icmp .eq 12, 3) := by decide +kernel
theorem od_128_0 : decode (ov_byt 128) 0 = .ok (.iconst 0, 1) := by decide +kernel
theorem od_128_1 : decode (ov_byt 128) 1 = .ok (.istore_n 3, 1) := by decide +kernel
theorem od_128_2 : decode (ov_byt 128) 2 = .ok (.iload_n 3, 1) := by decide +kernel
theorem od_128_3 : decode (ov_byt 128) 3 = .ok (.aload_n 0, 1) := by decide +kernel
theorem og_128_4 : ov_GF 128 4 5 2 := ⟨18, false, 206, by decide +kernel, by decide +kernel⟩
theorem od_128_10 : decode (ov_byt 128) 10 = .ok (.iload_n 1, 1) := by decide +kernel
theorem od_128_11 : decode (ov_byt 128) 11 = .ok (.aload_n 0, 1) := by decide +kernel
theorem og_128_12 : ov_GF 128 12 5 0 := ⟨9, true, 204, by decide +kernel, by decide +kernel⟩
theorem od_128_15 : decode (ov_byt 128) 15 = .ok (.iload_n 3, 1) := by decide +kernel
theorem od_128_16 : decode (ov_byt 128) 16 = .ok (.iaload, 1) := by decide +kernel
theorem od_128_17 : decode (ov_byt 128) 17 = .ok (.iload_n 2, 1) := by decide +kernel
theorem oc_128_18 : ov_CL 128 18 0 94 := ⟨22, (807, 654, 0), (by show decode (ov_byt 128) 18 = Except.ok (Instr.invokestatic 22, 3); decide +kernel), by decide +kernel⟩
theorem od_128_21 : decode (ov_byt 128) 21 = .ok (.aload_n 0, 1) := by decide +kernel
theorem og_128_22 : ov_GF 128 22 5 1 := ⟨15, true, 205, by decide +kernel, by decide +kernel⟩
theorem od_128_25 : decode (ov_byt 128) 25 = .ok (.iload_n 3, 1) := by decide +kernel
theorem od_128_26 : decode (ov_byt 128) 26 = .ok (.iaload, 1) := by decide +kernel
theorem od_128_32 : decode (ov_byt 128) 32 = .ok (.iinc 3 1, 3) := by decide +kernel
theorem od_128_35 : decode (ov_byt 128) 35 = .ok (.goto (-33), 3) := by decide +kernel
theorem od_128_30 : decode (ov_byt 128) 30 = .ok (.iconst 0, 1) := by decide +kernel
theorem od_128_31 : decode (ov_byt 128) 31 = .ok (.ireturn, 1) := by decide +kernel
theorem od_128_27 : decode (ov_byt 128) 27 = .ok (.if_icmp .eq 5, 3) := by decide +kernel
theorem od_128_7 : decode (ov_byt 128) 7 = .ok (.if_icmp .ge 31, 3) := by decide +kernel
theorem od_128_38 : decode (ov_byt 128) 38 = .ok (.iconst 1, 1) := by decide +kernel
theorem od_128_39 : decode (ov_byt 128) 39 = .ok (.ireturn, 1) := by decide +kernel
theorem od_150_0 : decode (ov_byt 150) 0 = .ok (.aload_n 0, 1) := by decide +kernel
theorem od_150_1 : decode (ov_byt 150) 1 = .ok (.bipush 12, 2) := by decide +kernel
theorem oc_150_3 : ov_CL 150 3 1 151 := ⟨121, (1033, 1035, 20), (by show decode (ov_byt 150) 3 = Except.ok (Instr.invokevirtual 121, 3); decide +kernel), by decide +kernel⟩
theorem od_150_6 : decode (ov_byt 150) 6 = .ok (.istore_n 1, 1) := by decide +kernel
theorem od_150_7 : decode (ov_byt 150) 7 = .ok (.iload_n 1, 1) := by decide +kernel
theorem od_150_8 : decode (ov_byt 150) 8 = .ok (.bipush (-9), 2) := by decide +kernel
theorem od_150_33 : decode (ov_byt 150) 33 = .ok (.iload_n 1, 1) := by decide +kernel
theorem od_150_34 : decode (ov_byt 150) 34 = .ok (.bipush (-9), 2) := by decide +kernel
theorem od_150_43 : decode (ov_byt 150) 43 = .ok (.iconst 0, 1) := by decide +kernel
theorem od_150_44 : decode (ov_byt 150) 44 = .ok (.ireturn, 1) := by decide +kernel
theorem od_150_39 : decode (ov_byt 150) 39 = .ok (.iconst 1, 1) := by decide +kernel
theorem od_150_40 : decode (ov_byt 150) 40 = .ok (.goto 4, 3) := by decide +kernel
theorem od_150_36 : decode (ov_byt 150) 36 = .ok (.if_icmp .eq 7, 3) := by decide +kernel
theorem od_150_13 : decode (ov_byt 150) 13 = .ok (.aload_n 0, 1) := by decide +kernel
theorem og_150_14 : ov_GF 150 14 8 14 := ⟨28, true, 885, by decide +kernel, by decide +kernel⟩
theorem od_150_17 : decode (ov_byt 150) 17 = .ok (.aload_n 0, 1) := by decide +kernel
theorem og_150_18 : ov_GF 150 18 8 13 := ⟨107, false, 884, by decide +kernel, by decide +kernel⟩
theorem od_150_21 : decode (ov_byt 150) 21 = .ok (.iload_n 1, 1) := by decide +kernel
theorem od_150_22 : decode (ov_byt 150) 22 = .ok (.iastore, 1) := by decide +kernel
theorem od_150_23 : decode (ov_byt 150) 23 = .ok (.aload_n 0, 1) := by decide +kernel
theorem od_150_24 : decode (ov_byt 150) 24 = .ok (.dup, 1) := by decide +kernel
theorem og_150_25 : ov_GF 150 25 8 13 := ⟨107, false, 884, by decide +kernel, by decide +kernel⟩
theorem od_150_28 : decode (ov_byt 150) 28 = .ok (.iconst 1, 1) := by decide +kernel
theorem od_150_29 : decode (ov_byt 150) 29 = .ok (.iadd, 1) := by decide +kernel
theorem op_150_30 : ov_PF 150 30 8 13 := ⟨107, 884, by decide +kernel, by decide +kernel⟩
theorem od_150_10 : decode (ov_byt 150) 10 = .ok (.if_icmp .eq 23, 3) := by decide +kernel
theorem od_153_0 : decode (ov_byt 153) 0 = .ok (.aload_n 0, 1) := by decide +kernel
theorem od_153_1 : decode (ov_byt 153) 1 = .ok (.iconst 0, 1) := by decide +kernel
theorem oc_153_2 : ov_CL 153 2 1 151 := ⟨121, (1033, 1035, 20), (by show decode (ov_byt 153) 2 = Except.ok (Instr.invokevirtual 121, 3); decide +kernel), by decide +kernel⟩
theorem od_153_5 : decode (ov_byt 153) 5 = .ok (.istore_n 1, 1) := by decide +kernel
theorem od_153_6 : decode (ov_byt 153) 6 = .ok (.iload_n 1, 1) := by decide +kernel
theorem od_153_7 : decode (ov_byt 153) 7 = .ok (.bipush (-9), 2) := by decide +kernel
theorem od_153_32 : decode (ov_byt 153) 32 = .ok (.iload_n 1, 1) := by decide +kernel
theorem od_153_33 : decode (ov_byt 153) 33 = .ok (.bipush (-9), 2) := by decide +kernel
theorem od_153_42 : decode (ov_byt 153) 42 = .ok (.iconst 0, 1) := by decide +kernel
theorem od_153_43 : decode (ov_byt 153) 43 = .ok (.ireturn, 1) := by decide +kernel
theorem od_153_38 : decode (ov_byt 153) 38 = .ok (.iconst 1, 1) := by decide +kernel
theorem od_153_39 : decode (ov_byt 153) 39 = .ok (.goto 4, 3) := by decide +kernel
theorem od_153_35 : decode (ov_byt 153) 35 = .ok (.if_icmp .eq 7, 3) := by decide +kernel
theorem od_153_12 : decode (ov_byt 153) 12 = .ok (.aload_n 0, 1) := by decide +kernel
theorem og_153_13 : ov_GF 153 13 8 16 := ⟨31, true, 887, by decide +kernel, by decide +kernel⟩
theorem od_153_16 : decode (ov_byt 153) 16 = .ok (.aload_n 0, 1) := by decide +kernel
theorem og_153_17 : ov_GF 153 17 8 15 := ⟨110, false, 886, by decide +kernel, by decide +kernel⟩
theorem od_153_20 : decode (ov_byt 153) 20 = .ok (.iload_n 1, 1) := by decide +kernel
theorem od_153_21 : decode (ov_byt 153) 21 = .ok (.iastore, 1) := by decide +kernel
theorem od_153_22 : decode (ov_byt 153) 22 = .ok (.aload_n 0, 1) := by decide +kernel
theorem od_153_23 : decode (ov_byt 153) 23 = .ok (.dup, 1) := by decide +kernel
theorem og_153_24 : ov_GF 153 24 8 15 := ⟨110, false, 886, by decide +kernel, by decide +kernel⟩
theorem od_153_27 : decode (ov_byt 153) 27 = .ok (.iconst 1, 1) := by decide +kernel
theorem od_153_28 : decode (ov_byt 153) 28 = .ok (.iadd, 1) := by decide +kernel
theorem op_153_29 : ov_PF 153 29 8 15 := ⟨110, 886, by decide +kernel, by decide +kernel⟩
theorem od_153_9 : decode (ov_byt 153) 9 = .ok (.if_icmp .eq 23, 3) := by decide +kernel
theorem od_154_0 : decode (ov_byt 154) 0 = .ok (.aload_n 0, 1) := by decide +kernel
theorem od_154_1 : decode (ov_byt 154) 1 = .ok (.iconst 1, 1) := by decide +kernel
theorem od_154_2 : decode (ov_byt 154) 2 = .ok (.bipush 9, 2) := by decide +kernel
theorem oc_154_4 : ov_CL 154 4 1 155 := ⟨125, (1049, 1051, 23), (by show decode (ov_byt 154) 4 = Except.ok (Instr.invokevirtual 125, 3); decide +kernel), by decide +kernel⟩
theorem od_154_7 : decode (ov_byt 154) 7 = .ok (.istore_n 1, 1) := by decide +kernel
theorem od_154_8 : decode (ov_byt 154) 8 = .ok (.iload_n 1, 1) := by decide +kernel
theorem od_154_9 : decode (ov_byt 154) 9 = .ok (.bipush (-9), 2) := by decide +kernel
theorem od_154_19 : decode (ov_byt 154) 19 = .ok (.aload_n 0, 1) := by decide +kernel
theorem od_154_20 : decode (ov_byt 154) 20 = .ok (.iconst 0, 1) := by decide +kernel
theorem od_154_21 : decode (ov_byt 154) 21 = .ok (.iconst 3, 1) := by decide +kernel
theorem oc_154_22 : ov_CL 154 22 1 155 := ⟨125, (1049, 1051, 23), (by show decode (ov_byt 154) 22 = Except.ok (Instr.invokevirtual 125, 3); decide +kernel), by decide +kernel⟩
theorem od_154_25 : decode (ov_byt 154) 25 = .ok (.istore_n 2, 1) := by decide +kernel
theorem od_154_26 : decode (ov_byt 154) 26 = .ok (.iload_n 2, 1) := by decide +kernel
theorem od_154_27 : decode (ov_byt 154) 27 = .ok (.bipush (-9), 2) := by decide +kernel
theorem od_154_34 : decode (ov_byt 154) 34 = .ok (.aload_n 0, 1) := by decide +kernel
theorem og_154_35 : ov_GF 154 35 8 18 := ⟨34, true, 889, by decide +kernel, by decide +kernel⟩
theorem od_154_38 : decode (ov_byt 154) 38 = .ok (.aload_n 0, 1) := by decide +kernel
theorem og_154_39 : ov_GF 154 39 8 17 := ⟨129, false, 888, by decide +kernel, by decide +kernel⟩
theorem od_154_42 : decode (ov_byt 154) 42 = .ok (.iload_n 1, 1) := by decide +kernel
theorem od_154_43 : decode (ov_byt 154) 43 = .ok (.iastore, 1) := by decide +kernel
theorem od_154_44 : decode (ov_byt 154) 44 = .ok (.aload_n 0, 1) := by decide +kernel
theorem og_154_45 : ov_GF 154 45 8 19 := ⟨37, true, 890, by decide +kernel, by decide +kernel⟩
theorem od_154_48 : decode (ov_byt 154) 48 = .ok (.aload_n 0, 1) := by decide +kernel
theorem og_154_49 : ov_GF 154 49 8 17 := ⟨129, false, 888, by decide +kernel, by decide +kernel⟩
theorem od_154_52 : decode (ov_byt 154) 52 = .ok (.iload_n 2, 1) := by decide +kernel
theorem od_154_53 : decode (ov_byt 154) 53 = .ok (.iastore, 1) := by decide +kernel
theorem od_154_54 : decode (ov_byt 154) 54 = .ok (.aload_n 0, 1) := by decide +kernel
theorem od_154_55 : decode (ov_byt 154) 55 = .ok (.dup, 1) := by decide +kernel
theorem og_154_56 : ov_GF 154 56 8 17 := ⟨129, false, 888, by decide +kernel, by decide +kernel⟩
theorem od_154_59 : decode (ov_byt 154) 59 = .ok (.iconst 1, 1) := by decide +kernel
theorem od_154_60 : decode (ov_byt 154) 60 = .ok (.iadd, 1) := by decide +kernel
theorem op_154_61 : ov_PF 154 61 8 17 := ⟨129, 888, by decide +kernel, by decide +kernel⟩
theorem od_154_64 : decode (ov_byt 154) 64 = .ok (.iconst 1, 1) := by decide +kernel
theorem od_154_65 : decode (ov_byt 154) 65 = .ok (.ireturn, 1) := by decide +kernel
theorem od_154_32 : decode (ov_byt 154) 32 = .ok (.iconst 0, 1) := by decide +kernel
theorem od_154_33 : decode (ov_byt 154) 33 = .ok (.ireturn, 1) := by decide +kernel
theorem od_154_29 : decode (ov_byt 154) 29 = .ok (.if_icmp .ne 5, 3) := by decide +kernel
theorem od_154_14 : decode (ov_byt 154) 14 = .ok (.bipush (-9), 2) := by decide +kernel
theorem od_154_16 : decode (ov_byt 154) 16 = .ok (.goto 9, 3) := by decide +kernel
theorem od_154_11 : decode (ov_byt 154) 11 = .ok (.if_icmp .ne 8, 3) := by decide +kernel
theorem od_156_0 : decode (ov_byt 156) 0 = .ok (.aload_n 0, 1) := by decide +kernel
theorem od_156_1 : decode (ov_byt 156) 1 = .ok (.iconst 0, 1) := by decide +kernel
theorem od_156_2 : decode (ov_byt 156) 2 = .ok (.aload_n 0, 1) := by decide +kernel
theorem og_156_3 : ov_GF 156 3 8 17 := ⟨129, false, 888, by decide +kernel, by decide +kernel⟩
theorem od_156_6 : decode (ov_byt 156) 6 = .ok (.iconst 1, 1) := by decide +kernel
theorem od_156_7 : decode (ov_byt 156) 7 = .ok (.isub, 1) := by decide +kernel
theorem oc_156_8 : ov_CL 156 8 1 155 := ⟨125, (1049, 1051, 23), (by show decode (ov_byt 156) 8 = Except.ok (Instr.invokevirtual 125, 3); decide +kernel), by decide +kernel⟩
theorem od_156_11 : decode (ov_byt 156) 11 = .ok (.istore_n 1, 1) := by decide +kernel
theorem od_156_12 : decode (ov_byt 156) 12 = .ok (.iload_n 1, 1) := by decide +kernel
theorem od_156_13 : decode (ov_byt 156) 13 = .ok (.bipush (-9), 2) := by decide +kernel
theorem od_156_20 : decode (ov_byt 156) 20 = .ok (.aload_n 0, 1) := by decide +kernel
theorem od_156_21 : decode (ov_byt 156) 21 = .ok (.iconst 0, 1) := by decide +kernel
theorem od_156_22 : decode (ov_byt 156) 22 = .ok (.aload_n 0, 1) := by decide +kernel
theorem og_156_23 : ov_GF 156 23 8 17 := ⟨129, false, 888, by decide +kernel, by decide +kernel⟩
theorem od_156_26 : decode (ov_byt 156) 26 = .ok (.iconst 1, 1) := by decide +kernel
theorem od_156_27 : decode (ov_byt 156) 27 = .ok (.isub, 1) := by decide +kernel
theorem oc_156_28 : ov_CL 156 28 1 155 := ⟨125, (1049, 1051, 23), (by show decode (ov_byt 156) 28 = Except.ok (Instr.invokevirtual 125, 3); decide +kernel), by decide +kernel⟩
theorem od_156_31 : decode (ov_byt 156) 31 = .ok (.istore_n 2, 1) := by decide +kernel
theorem od_156_32 : decode (ov_byt 156) 32 = .ok (.aload_n 0, 1) := by decide +kernel
theorem od_156_33 : decode (ov_byt 156) 33 = .ok (.dup, 1) := by decide +kernel
theorem og_156_34 : ov_GF 156 34 8 3 := ⟨104, false, 874, by decide +kernel, by decide +kernel⟩
theorem od_156_37 : decode (ov_byt 156) 37 = .ok (.iload_n 2, 1) := by decide +kernel
theorem od_156_38 : decode (ov_byt 156) 38 = .ok (.iload_n 1, 1) := by decide +kernel
theorem od_156_46 : decode (ov_byt 156) 46 = .ok (.iconst 0, 1) := by decide +kernel
theorem od_156_47 : decode (ov_byt 156) 47 = .ok (.isub, 1) := by decide +kernel
theorem op_156_48 : ov_PF 156 48 8 3 := ⟨104, 874, by decide +kernel, by decide +kernel⟩
theorem od_156_51 : decode (ov_byt 156) 51 = .ok (.iload_n 2, 1) := by decide +kernel
theorem od_156_52 : decode (ov_byt 156) 52 = .ok (.bipush (-9), 2) := by decide +kernel
theorem od_156_62 : decode (ov_byt 156) 62 = .ok (.iconst 0, 1) := by decide +kernel
theorem od_156_63 : decode (ov_byt 156) 63 = .ok (.ireturn, 1) := by decide +kernel
theorem od_156_57 : decode (ov_byt 156) 57 = .ok (.iload_n 2, 1) := by decide +kernel
theorem od_156_58 : decode (ov_byt 156) 58 = .ok (.iload_n 1, 1) := by decide +kernel
theorem od_156_64 : decode (ov_byt 156) 64 = .ok (.aload_n 0, 1) := by decide +kernel
theorem og_156_65 : ov_GF 156 65 8 21 := ⟨40, true, 892, by decide +kernel, by decide +kernel⟩
theorem od_156_68 : decode (ov_byt 156) 68 = .ok (.aload_n 0, 1) := by decide +kernel
theorem og_156_69 : ov_GF 156 69 8 20 := ⟨132, false, 891, by decide +kernel, by decide +kernel⟩
theorem od_156_72 : decode (ov_byt 156) 72 = .ok (.iload_n 1, 1) := by decide +kernel
theorem od_156_73 : decode (ov_byt 156) 73 = .ok (.iastore, 1) := by decide +kernel
theorem od_156_74 : decode (ov_byt 156) 74 = .ok (.aload_n 0, 1) := by decide +kernel
theorem og_156_75 : ov_GF 156 75 8 22 := ⟨43, true, 893, by decide +kernel, by decide +kernel⟩
theorem od_156_78 : decode (ov_byt 156) 78 = .ok (.aload_n 0, 1) := by decide +kernel
theorem og_156_79 : ov_GF 156 79 8 20 := ⟨132, false, 891, by decide +kernel, by decide +kernel⟩
theorem od_156_82 : decode (ov_byt 156) 82 = .ok (.iload_n 2, 1) := by decide +kernel
theorem od_156_83 : decode (ov_byt 156) 83 = .ok (.iastore, 1) := by decide +kernel
theorem od_156_84 : decode (ov_byt 156) 84 = .ok (.aload_n 0, 1) := by decide +kernel
theorem od_156_85 : decode (ov_byt 156) 85 = .ok (.dup, 1) := by decide +kernel
theorem og_156_86 : ov_GF 156 86 8 20 := ⟨132, false, 891, by decide +kernel, by decide +kernel⟩
theorem od_156_89 : decode (ov_byt 156) 89 = .ok (.iconst 1, 1) := by decide +kernel
theorem od_156_90 : decode (ov_byt 156) 90 = .ok (.iadd, 1) := by decide +kernel
theorem op_156_91 : ov_PF 156 91 8 20 := ⟨132, 891, by decide +kernel, by decide +kernel⟩
theorem od_156_94 : decode (ov_byt 156) 94 = .ok (.iconst 1, 1) := by decide +kernel
theorem od_156_95 : decode (ov_byt 156) 95 = .ok (.ireturn, 1) := by decide +kernel
theorem od_156_59 : decode (ov_byt 156) 59 = .ok (.if_icmp .ne 5, 3) := by decide +kernel
theorem od_156_54 : decode (ov_byt 156) 54 = .ok (.if_icmp .eq 8, 3) := by decide +kernel
theorem od_156_42 : decode (ov_byt 156) 42 = .ok (.iconst 1, 1) := by decide +kernel
theorem od_156_43 : decode (ov_byt 156) 43 = .ok (.goto 4, 3) := by decide +kernel
theorem od_156_39 : decode (ov_byt 156) 39 = .ok (.if_icmp .ne 7, 3) := by decide +kernel
theorem od_156_18 : decode (ov_byt 156) 18 = .ok (.iconst 0, 1) := by decide +kernel
theorem od_156_19 : decode (ov_byt 156) 19 = .ok (.ireturn, 1) := by decide +kernel
theorem od_156_15 : decode (ov_byt 156) 15 = .ok (.if_icmp .ne 5, 3) := by decide +kernel
theorem od_165_0 : decode (ov_byt 165) 0 = .ok (.aload_n 1, 1) := by decide +kernel
theorem od_165_1 : decode (ov_byt 165) 1 = .ok (.iconst 0, 1) := by decide +kernel
theorem od_165_2 : decode (ov_byt 165) 2 = .ok (.iload_n 2, 1) := by decide +kernel
theorem od_165_3 : decode (ov_byt 165) 3 = .ok (.iadd, 1) := by decide +kernel
theorem od_165_4 : decode (ov_byt 165) 4 = .ok (.iaload, 1) := by decide +kernel
theorem od_165_5 : decode (ov_byt 165) 5 = .ok (.bipush (-9), 2) := by decide +kernel
theorem od_165_20 : decode (ov_byt 165) 20 = .ok (.bipush (-9), 2) := by decide +kernel
theorem od_165_22 : decode (ov_byt 165) 22 = .ok (.ireturn, 1) := by decide +kernel
theorem od_165_10 : decode (ov_byt 165) 10 = .ok (.aload_n 1, 1) := by decide +kernel
theorem od_165_11 : decode (ov_byt 165) 11 = .ok (.iconst 0, 1) := by decide +kernel
theorem od_165_12 : decode (ov_byt 165) 12 = .ok (.iload_n 3, 1) := by decide +kernel
theorem od_165_13 : decode (ov_byt 165) 13 = .ok (.iadd, 1) := by decide +kernel
theorem od_165_14 : decode (ov_byt 165) 14 = .ok (.iaload, 1) := by decide +kernel
theorem od_165_15 : decode (ov_byt 165) 15 = .ok (.bipush (-9), 2) := by decide +kernel
theorem od_165_23 : decode (ov_byt 165) 23 = .ok (.aload_n 1, 1) := by decide +kernel
theorem od_165_24 : decode (ov_byt 165) 24 = .ok (.iconst 0, 1) := by decide +kernel
theorem od_165_25 : decode (ov_byt 165) 25 = .ok (.iload_n 2, 1) := by decide +kernel
theorem od_165_26 : decode (ov_byt 165) 26 = .ok (.iadd, 1) := by decide +kernel
theorem od_165_27 : decode (ov_byt 165) 27 = .ok (.iaload, 1) := by decide +kernel
theorem od_165_28 : decode (ov_byt 165) 28 = .ok (.aload_n 1, 1) := by decide +kernel
theorem od_165_29 : decode (ov_byt 165) 29 = .ok (.iconst 0, 1) := by decide +kernel
theorem od_165_30 : decode (ov_byt 165) 30 = .ok (.iload_n 3, 1) := by decide +kernel
theorem od_165_31 : decode (ov_byt 165) 31 = .ok (.iadd, 1) := by decide +kernel
theorem od_165_32 : decode (ov_byt 165) 32 = .ok (.iaload, 1) := by decide +kernel
theorem oc_165_33 : ov_CL 165 33 0 166 := ⟨177, (1092, 1093, 0), (by show decode (ov_byt 165) 33 = Except.ok (Instr.invokestatic 177, 3); decide +kernel), by decide +kernel⟩
theorem od_165_36 : decode (ov_byt 165) 36 = .ok (.istore 4, 2) := by decide +kernel
theorem od_165_38 : decode (ov_byt 165) 38 = .ok (.iload 4, 2) := by decide +kernel
theorem od_165_40 : decode (ov_byt 165) 40 = .ok (.bipush (-9), 2) := by decide +kernel
theorem od_165_56 : decode (ov_byt 165) 56 = .ok (.bipush (-9), 2) := by decide +kernel
theorem od_165_58 : decode (ov_byt 165) 58 = .ok (.goto 10, 3) := by decide +kernel
theorem od_165_68 : decode (ov_byt 165) 68 = .ok (.ireturn, 1) := by decide +kernel
theorem od_165_45 : decode (ov_byt 165) 45 = .ok (.iload 4, 2) := by decide +kernel
theorem od_165_47 : decode (ov_byt 165) 47 = .ok (.aload_n 0, 1) := by decide +kernel
theorem od_165_48 : decode (ov_byt 165) 48 = .ok (.aload_n 1, 1) := by decide +kernel
theorem oc_165_49 : ov_CL 165 49 1 168 := ⟨167, (1098, 1100, 31), (by show decode (ov_byt 165) 49 = Except.ok (Instr.invokevirtual 167, 3); decide +kernel), by decide +kernel⟩
theorem od_165_52 : decode (ov_byt 165) 52 = .ok (.iand, 1) := by decide +kernel
theorem od_165_61 : decode (ov_byt 165) 61 = .ok (.aload_n 0, 1) := by decide +kernel
theorem od_165_62 : decode (ov_byt 165) 62 = .ok (.aload_n 1, 1) := by decide +kernel
theorem od_165_63 : decode (ov_byt 165) 63 = .ok (.iload 4, 2) := by decide +kernel
theorem oc_165_65 : ov_CL 165 65 1 169 := ⟨180, (1102, 1104, 32), (by show decode (ov_byt 165) 65 = Except.ok (Instr.invokevirtual 180, 3); decide +kernel), by decide +kernel⟩
theorem od_165_53 : decode (ov_byt 165) 53 = .ok (.ifCond .eq 8, 3) := by decide +kernel
theorem od_165_42 : decode (ov_byt 165) 42 = .ok (.if_icmp .eq 14, 3) := by decide +kernel
theorem od_165_17 : decode (ov_byt 165) 17 = .ok (.if_icmp .ne 6, 3) := by decide +kernel
theorem od_165_7 : decode (ov_byt 165) 7 = .ok (.if_icmp .eq 13, 3) := by decide +kernel
theorem od_171_0 : decode (ov_byt 171) 0 = .ok (.aload_n 0, 1) := by decide +kernel
theorem od_171_1 : decode (ov_byt 171) 1 = .ok (.iconst 0, 1) := by decide +kernel
theorem op_171_2 : ov_PF 171 2 8 0 := ⟨83, 871, by decide +kernel, by decide +kernel⟩
theorem od_171_5 : decode (ov_byt 171) 5 = .ok (.aload_n 0, 1) := by decide +kernel
theorem od_171_6 : decode (ov_byt 171) 6 = .ok (.iload_n 1, 1) := by decide +kernel
theorem oc_171_7 : ov_CL 171 7 1 172 := ⟨215, (1115, 1117, 34), (by show decode (ov_byt 171) 7 = Except.ok (Instr.invokevirtual 215, 3); decide +kernel), by decide +kernel⟩
theorem od_171_17 : decode (ov_byt 171) 17 = .ok (.aload_n 0, 1) := by decide +kernel
theorem og_171_18 : ov_GF 171 18 8 5 := ⟨13, true, 876, by decide +kernel, by decide +kernel⟩
theorem od_171_21 : decode (ov_byt 171) 21 = .ok (.iload_n 1, 1) := by decide +kernel
theorem od_171_22 : decode (ov_byt 171) 22 = .ok (.iaload, 1) := by decide +kernel
theorem od_171_23 : decode (ov_byt 171) 23 = .ok (.ireturn, 1) := by decide +kernel
theorem od_171_13 : decode (ov_byt 171) 13 = .ok (.iconst (-1), 1) := by decide +kernel
theorem od_171_14 : decode (ov_byt 171) 14 = .ok (.goto 9, 3) := by decide +kernel
theorem od_171_10 : decode (ov_byt 171) 10 = .ok (.ifCond .eq 7, 3) := by decide +kernel
theorem od_178_0 : decode (ov_byt 178) 0 = .ok (.aload_n 0, 1) := by decide +kernel
theorem od_178_1 : decode (ov_byt 178) 1 = .ok (.aload_n 1, 1) := by decide +kernel
theorem od_178_2 : decode (ov_byt 178) 2 = .ok (.iconst 0, 1) := by decide +kernel
theorem od_178_3 : decode (ov_byt 178) 3 = .ok (.iload_n 2, 1) := by decide +kernel
theorem od_178_4 : decode (ov_byt 178) 4 = .ok (.iadd, 1) := by decide +kernel
theorem od_178_5 : decode (ov_byt 178) 5 = .ok (.iaload, 1) := by decide +kernel
theorem od_178_6 : decode (ov_byt 178) 6 = .ok (.aload_n 0, 1) := by decide +kernel
theorem og_178_7 : ov_GF 178 7 8 9 := ⟨19, true, 880, by decide +kernel, by decide +kernel⟩
theorem od_178_10 : decode (ov_byt 178) 10 = .ok (.iload_n 2, 1) := by decide +kernel
theorem od_178_11 : decode (ov_byt 178) 11 = .ok (.iaload, 1) := by decide +kernel
theorem od_178_12 : decode (ov_byt 178) 12 = .ok (.iconst 1, 1) := by decide +kernel
theorem od_178_21 : decode (ov_byt 178) 21 = .ok (.aload_n 0, 1) := by decide +kernel
theorem od_178_22 : decode (ov_byt 178) 22 = .ok (.aload_n 1, 1) := by decide +kernel
theorem oc_178_23 : ov_CL 178 23 1 170 := ⟨171, (1107, 1109, 33), (by show decode (ov_byt 178) 23 = Except.ok (Instr.invokevirtual 171, 3); decide +kernel), by decide +kernel⟩
theorem oc_178_26 : ov_CL 178 26 1 179 := ⟨199, (1143, 1145, 39), (by show decode (ov_byt 178) 26 = Except.ok (Instr.invokevirtual 199, 3); decide +kernel), by decide +kernel⟩
theorem od_178_29 : decode (ov_byt 178) 29 = .ok (.return_, 1) := by decide +kernel
theorem ok_178_16 : ∃ w, ov_find ov_kt (198 * 32 + ov_oc 178) = some ((262143 : Int32), w) := ⟨1106, by decide +kernel⟩
theorem od_178_16 : decode (ov_byt 178) 16 = .ok (.ldc 198, 2) := by decide +kernel
theorem od_178_18 : decode (ov_byt 178) 18 = .ok (.goto 8, 3) := by decide +kernel
theorem od_178_13 : decode (ov_byt 178) 13 = .ok (.if_icmp .ne 8, 3) := by decide +kernel
theorem od_186_0 : decode (ov_byt 186) 0 = .ok (.aload_n 0, 1) := by decide +kernel
theorem od_186_1 : decode (ov_byt 186) 1 = .ok (.aload_n 1, 1) := by decide +kernel
theorem oc_186_2 : ov_CL 186 2 1 170 := ⟨171, (1107, 1109, 33), (by show decode (ov_byt 186) 2 = Except.ok (Instr.invokevirtual 171, 3); decide +kernel), by decide +kernel⟩
theorem od_186_5 : decode (ov_byt 186) 5 = .ok (.iload_n 2, 1) := by decide +kernel
theorem oc_186_6 : ov_CL 186 6 0 152 := ⟨117, (1038, 1039, 0), (by show decode (ov_byt 186) 6 = Except.ok (Instr.invokestatic 117, 3); decide +kernel), by decide +kernel⟩
theorem od_186_16 : decode (ov_byt 186) 16 = .ok (.iconst 0, 1) := by decide +kernel
theorem od_186_17 : decode (ov_byt 186) 17 = .ok (.ireturn, 1) := by decide +kernel
theorem od_186_12 : decode (ov_byt 186) 12 = .ok (.iconst 1, 1) := by decide +kernel
theorem od_186_13 : decode (ov_byt 186) 13 = .ok (.goto 4, 3) := by decide +kernel
theorem od_186_9 : decode (ov_byt 186) 9 = .ok (.ifCond .ne 7, 3) := by decide +kernel
theorem od_215_0 : decode (ov_byt 215) 0 = .ok (.aload_n 0, 1) := by decide +kernel
theorem od_215_1 : decode (ov_byt 215) 1 = .ok (.iconst 0, 1) := by decide +kernel
theorem op_215_2 : ov_PF 215 2 8 0 := ⟨83, 871, by decide +kernel, by decide +kernel⟩
theorem od_215_5 : decode (ov_byt 215) 5 = .ok (.iload_n 1, 1) := by decide +kernel
theorem oc_215_6 : ov_CL 215 6 0 193 := ⟨255, (1199, 1200, 0), (by show decode (ov_byt 215) 6 = Except.ok (Instr.invokestatic 255, 3); decide +kernel), by decide +kernel⟩
theorem od_215_14 : decode (ov_byt 215) 14 = .ok (.iload_n 2, 1) := by decide +kernel
theorem od_215_15 : decode (ov_byt 215) 15 = .ok (.i2l, 1) := by decide +kernel
theorem od_215_16 : decode (ov_byt 215) 16 = .ok (.lconst 0, 1) := by decide +kernel
theorem ok_215_17 : ∃ w, ov_find ov_k2t (307 * 32 + ov_oc 215) = some ((9 : Int64), w) := ⟨1288, by decide +kernel⟩
theorem od_215_17 : decode (ov_byt 215) 17 = .ok (.ldc2_w 307, 3) := by decide +kernel
theorem oc_215_20 : ov_CL 215 20 0 144 := ⟨90, (1006, 1007, 0), (by show decode (ov_byt 215) 20 = Except.ok (Instr.invokestatic 90, 3); decide +kernel), by decide +kernel⟩
theorem od_215_29 : decode (ov_byt 215) 29 = .ok (.aload_n 0, 1) := by decide +kernel
theorem og_215_30 : ov_GF 215 30 8 30 := ⟨212, false, 901, by decide +kernel, by decide +kernel⟩
theorem od_215_33 : decode (ov_byt 215) 33 = .ok (.bipush 6, 2) := by decide +kernel
theorem od_215_41 : decode (ov_byt 215) 41 = .ok (.aload_n 0, 1) := by decide +kernel
theorem og_215_42 : ov_GF 215 42 8 31 := ⟨65, true, 902, by decide +kernel, by decide +kernel⟩
theorem od_215_45 : decode (ov_byt 215) 45 = .ok (.aload_n 0, 1) := by decide +kernel
