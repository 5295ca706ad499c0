theorem oc_93_5 : ov_CL 93 5 1 29 := ⟨148, (508, 368, 369), (by show decode (ov_byt 93) 5 = Except.ok (Instr.invokevirtual 148, 3); decide +kernel), by decide +kernel⟩
theorem od_93_18 : decode (ov_byt 93) 18 = .ok (.iconst (-1), 1) := by decide +kernel
theorem od_93_19 : decode (ov_byt 93) 19 = .ok (.ireturn, 1) := by decide +kernel
theorem od_93_11 : decode (ov_byt 93) 11 = .ok (.iload_n 2, 1) := by decide +kernel
theorem oc_93_12 : ov_CL 93 12 0 49 := ⟨208, (606, 453, 0), (by show decode (ov_byt 93) 12 = Except.ok (Instr.invokestatic 208, 3); decide +kernel), by decide +kernel⟩
theorem od_93_20 : decode (ov_byt 93) 20 = .ok (.aload_n 0, 1) := by decide +kernel
theorem og_93_21 : ov_GF 93 21 0 3 := ⟨31, true, 265, by decide +kernel, by decide +kernel⟩
theorem od_93_24 : decode (ov_byt 93) 24 = .ok (.iload_n 1, 1) := by decide +kernel
theorem oc_93_25 : ov_CL 93 25 1 34 := ⟨229, (652, 389, 390), (by show decode (ov_byt 93) 25 = Except.ok (Instr.invokevirtual 229, 3); decide +kernel), by decide +kernel⟩
theorem od_93_34 : decode (ov_byt 93) 34 = .ok (.aload_n 0, 1) := by decide +kernel
theorem og_93_35 : ov_GF 93 35 0 3 := ⟨31, true, 265, by decide +kernel, by decide +kernel⟩
theorem od_93_38 : decode (ov_byt 93) 38 = .ok (.iload_n 1, 1) := by decide +kernel
theorem oc_93_39 : ov_CL 93 39 1 35 := ⟨157, (517, 393, 394), (by show decode (ov_byt 93) 39 = Except.ok (Instr.invokevirtual 157, 3); decide +kernel), by decide +kernel⟩
theorem od_93_42 : decode (ov_byt 93) 42 = .ok (.iload_n 2, 1) := by decide +kernel
theorem od_93_43 : decode (ov_byt 93) 43 = .ok (.aload_n 0, 1) := by decide +kernel
theorem og_93_44 : ov_GF 93 44 0 3 := ⟨31, true, 265, by decide +kernel, by decide +kernel⟩
theorem od_93_47 : decode (ov_byt 93) 47 = .ok (.iload_n 1, 1) := by decide +kernel
theorem oc_93_48 : ov_CL 93 48 1 66 := ⟨163, (522, 523, 524), (by show decode (ov_byt 93) 48 = Except.ok (Instr.invokevirtual 163, 3); decide +kernel), by decide +kernel⟩
theorem oc_93_51 : ov_CL 93 51 0 94 := ⟨232, (653, 654, 0), (by show decode (ov_byt 93) 51 = Except.ok (Instr.invokestatic 232, 3); decide +kernel), by decide +kernel⟩
theorem od_93_54 : decode (ov_byt 93) 54 = .ok (.ireturn, 1) := by decide +kernel
theorem od_93_31 : decode (ov_byt 93) 31 = .ok (.bipush (-3), 2) := by decide +kernel
theorem od_93_33 : decode (ov_byt 93) 33 = .ok (.ireturn, 1) := by decide +kernel
theorem od_93_28 : decode (ov_byt 93) 28 = .ok (.ifCond .ne 6, 3) := by decide +kernel
theorem od_93_15 : decode (ov_byt 93) 15 = .ok (.ifCond .ne 5, 3) := by decide +kernel
theorem od_93_8 : decode (ov_byt 93) 8 = .ok (.ifCond .eq 10, 3) := by decide +kernel
theorem od_98_0 : decode (ov_byt 98) 0 = .ok (.aload_n 0, 1) := by decide +kernel
theorem og_98_1 : ov_GF 98 1 0 4 := ⟨35, true, 266, by decide +kernel, by decide +kernel⟩
theorem od_98_4 : decode (ov_byt 98) 4 = .ok (.iload_n 1, 1) := by decide +kernel
theorem od_98_5 : decode (ov_byt 98) 5 = .ok (.iload_n 2, 1) := by decide +kernel
theorem oc_98_6 : ov_CL 98 6 1 90 := ⟨252, (674, 637, 638), (by show decode (ov_byt 98) 6 = Except.ok (Instr.invokevirtual 252, 3); decide +kernel), by decide +kernel⟩
theorem od_98_9 : decode (ov_byt 98) 9 = .ok (.aload_n 0, 1) := by decide +kernel
theorem og_98_10 : ov_GF 98 10 0 4 := ⟨35, true, 266, by decide +kernel, by decide +kernel⟩
theorem od_98_13 : decode (ov_byt 98) 13 = .ok (.bipush 63, 2) := by decide +kernel
theorem oc_98_15 : ov_CL 98 15 1 42 := ⟨124, (425, 426, 427), (by show decode (ov_byt 98) 15 = Except.ok (Instr.invokevirtual 124, 3); decide +kernel), by decide +kernel⟩
theorem od_98_18 : decode (ov_byt 98) 18 = .ok (.aload_n 0, 1) := by decide +kernel
theorem og_98_19 : ov_GF 98 19 0 1 := ⟨19, true, 263, by decide +kernel, by decide +kernel⟩
theorem od_98_22 : decode (ov_byt 98) 22 = .ok (.iload_n 1, 1) := by decide +kernel
theorem oc_98_23 : ov_CL 98 23 1 99 := ⟨256, (675, 676, 677), (by show decode (ov_byt 98) 23 = Except.ok (Instr.invokevirtual 256, 3); decide +kernel), by decide +kernel⟩
theorem od_98_26 : decode (ov_byt 98) 26 = .ok (.iand, 1) := by decide +kernel
theorem oc_98_27 : ov_CL 98 27 0 69 := ⟨172, (535, 536, 0), (by show decode (ov_byt 98) 27 = Except.ok (Instr.invokestatic 172, 3); decide +kernel), by decide +kernel⟩
theorem od_98_30 : decode (ov_byt 98) 30 = .ok (.ireturn, 1) := by decide +kernel
theorem od_101_0 : decode (ov_byt 101) 0 = .ok (.aload_n 0, 1) := by decide +kernel
theorem og_101_1 : ov_GF 101 1 3 0 := ⟨18, true, 163, by decide +kernel, by decide +kernel⟩
theorem od_101_4 : decode (ov_byt 101) 4 = .ok (.iload_n 2, 1) := by decide +kernel
theorem oc_101_5 : ov_CL 101 5 1 59 := ⟨125, (566, 490, 491), (by show decode (ov_byt 101) 5 = Except.ok (Instr.invokevirtual 125, 3); decide +kernel), by decide +kernel⟩
theorem od_101_8 : decode (ov_byt 101) 8 = .ok (.istore_n 3, 1) := by decide +kernel
theorem od_101_9 : decode (ov_byt 101) 9 = .ok (.aload_n 0, 1) := by decide +kernel
theorem oc_101_10 : ov_CL 101 10 1 53 := ⟨89, (527, 466, 467), (by show decode (ov_byt 101) 10 = Except.ok (Instr.invokevirtual 89, 3); decide +kernel), by decide +kernel⟩
theorem od_101_13 : decode (ov_byt 101) 13 = .ok (.istore 4, 2) := by decide +kernel
theorem od_101_15 : decode (ov_byt 101) 15 = .ok (.iload 4, 2) := by decide +kernel
theorem od_101_17 : decode (ov_byt 101) 17 = .ok (.iload_n 3, 1) := by decide +kernel
theorem oc_101_18 : ov_CL 101 18 0 23 := ⟨71, (418, 346, 0), (by show decode (ov_byt 101) 18 = Except.ok (Instr.invokestatic 71, 3); decide +kernel), by decide +kernel⟩
theorem od_101_27 : decode (ov_byt 101) 27 = .ok (.aload_n 0, 1) := by decide +kernel
theorem og_101_28 : ov_GF 101 28 3 0 := ⟨18, true, 163, by decide +kernel, by decide +kernel⟩
theorem od_101_31 : decode (ov_byt 101) 31 = .ok (.iload_n 1, 1) := by decide +kernel
theorem oc_101_32 : ov_CL 101 32 1 64 := ⟨86, (526, 514, 515), (by show decode (ov_byt 101) 32 = Except.ok (Instr.invokevirtual 86, 3); decide +kernel), by decide +kernel⟩
theorem od_101_35 : decode (ov_byt 101) 35 = .ok (.iconst 1, 1) := by decide +kernel
theorem od_101_43 : decode (ov_byt 101) 43 = .ok (.iload 4, 2) := by decide +kernel
theorem od_101_45 : decode (ov_byt 101) 45 = .ok (.istore 5, 2) := by decide +kernel
theorem od_101_47 : decode (ov_byt 101) 47 = .ok (.aload_n 0, 1) := by decide +kernel
theorem oc_101_48 : ov_CL 101 48 1 37 := ⟨95, (402, 404, 6), (by show decode (ov_byt 101) 48 = Except.ok (Instr.invokevirtual 95, 3); decide +kernel), by decide +kernel⟩
theorem od_101_51 : decode (ov_byt 101) 51 = .ok (.istore 6, 2) := by decide +kernel
theorem od_101_53 : decode (ov_byt 101) 53 = .ok (.iload_n 3, 1) := by decide +kernel
theorem oc_101_54 : ov_CL 101 54 0 24 := ⟨66, (419, 349, 0), (by show decode (ov_byt 101) 54 = Except.ok (Instr.invokestatic 66, 3); decide +kernel), by decide +kernel⟩
theorem od_101_57 : decode (ov_byt 101) 57 = .ok (.istore 7, 2) := by decide +kernel
theorem od_101_59 : decode (ov_byt 101) 59 = .ok (.iload 7, 2) := by decide +kernel
theorem od_101_61 : decode (ov_byt 101) 61 = .ok (.istore 8, 2) := by decide +kernel
theorem od_101_63 : decode (ov_byt 101) 63 = .ok (.iconst 0, 1) := by decide +kernel
theorem od_101_64 : decode (ov_byt 101) 64 = .ok (.istore 9, 2) := by decide +kernel
theorem od_101_66 : decode (ov_byt 101) 66 = .ok (.iload 9, 2) := by decide +kernel
theorem od_101_68 : decode (ov_byt 101) 68 = .ok (.bipush 18, 2) := by decide +kernel
theorem od_101_73 : decode (ov_byt 101) 73 = .ok (.iload 7, 2) := by decide +kernel
theorem od_101_78 : decode (ov_byt 101) 78 = .ok (.iload 7, 2) := by decide +kernel
theorem od_101_80 : decode (ov_byt 101) 80 = .ok (.iload 6, 2) := by decide +kernel
theorem od_101_82 : decode (ov_byt 101) 82 = .ok (.iand, 1) := by decide +kernel
theorem od_101_102 : decode (ov_byt 101) 102 = .ok (.iload 8, 2) := by decide +kernel
theorem od_101_104 : decode (ov_byt 101) 104 = .ok (.iload 5, 2) := by decide +kernel
theorem oc_101_106 : ov_CL 101 106 0 68 := ⟨159, (693, 532, 0), (by show decode (ov_byt 101) 106 = Except.ok (Instr.invokestatic 159, 3); decide +kernel), by decide +kernel⟩
theorem od_101_109 : decode (ov_byt 101) 109 = .ok (.istore 7, 2) := by decide +kernel
theorem od_101_111 : decode (ov_byt 101) 111 = .ok (.iload 8, 2) := by decide +kernel
theorem od_101_113 : decode (ov_byt 101) 113 = .ok (.iload 7, 2) := by decide +kernel
theorem od_101_115 : decode (ov_byt 101) 115 = .ok (.ior, 1) := by decide +kernel
theorem od_101_116 : decode (ov_byt 101) 116 = .ok (.istore 8, 2) := by decide +kernel
theorem od_101_118 : decode (ov_byt 101) 118 = .ok (.iinc 9 1, 3) := by decide +kernel
theorem od_101_121 : decode (ov_byt 101) 121 = .ok (.goto (-55), 3) := by decide +kernel
theorem od_101_86 : decode (ov_byt 101) 86 = .ok (.aload_n 0, 1) := by decide +kernel
theorem od_101_87 : decode (ov_byt 101) 87 = .ok (.iload_n 1, 1) := by decide +kernel
theorem od_101_88 : decode (ov_byt 101) 88 = .ok (.iload 7, 2) := by decide +kernel
theorem od_101_90 : decode (ov_byt 101) 90 = .ok (.iload 6, 2) := by decide +kernel
theorem od_101_92 : decode (ov_byt 101) 92 = .ok (.iand, 1) := by decide +kernel
theorem oc_101_93 : ov_CL 101 93 0 102 := ⟨156, (690, 691, 0), (by show decode (ov_byt 101) 93 = Except.ok (Instr.invokestatic 156, 3); decide +kernel), by decide +kernel⟩
theorem oc_101_96 : ov_CL 101 96 1 90 := ⟨146, (636, 637, 638), (by show decode (ov_byt 101) 96 = Except.ok (Instr.invokevirtual 146, 3); decide +kernel), by decide +kernel⟩
theorem od_101_99 : decode (ov_byt 101) 99 = .ok (.iload 9, 2) := by decide +kernel
theorem od_101_101 : decode (ov_byt 101) 101 = .ok (.ireturn, 1) := by decide +kernel
theorem od_101_83 : decode (ov_byt 101) 83 = .ok (.ifCond .eq 19, 3) := by decide +kernel
theorem od_101_75 : decode (ov_byt 101) 75 = .ok (.ifCond .eq 49, 3) := by decide +kernel
theorem od_101_70 : decode (ov_byt 101) 70 = .ok (.if_icmp .ge 54, 3) := by decide +kernel
theorem od_101_124 : decode (ov_byt 101) 124 = .ok (.aload_n 0, 1) := by decide +kernel
theorem od_101_125 : decode (ov_byt 101) 125 = .ok (.iload_n 1, 1) := by decide +kernel
theorem od_101_126 : decode (ov_byt 101) 126 = .ok (.iload_n 3, 1) := by decide +kernel
theorem oc_101_127 : ov_CL 101 127 1 90 := ⟨146, (636, 637, 638), (by show decode (ov_byt 101) 127 = Except.ok (Instr.invokevirtual 146, 3); decide +kernel), by decide +kernel⟩
theorem od_101_130 : decode (ov_byt 101) 130 = .ok (.iconst 0, 1) := by decide +kernel
theorem od_101_131 : decode (ov_byt 101) 131 = .ok (.ireturn, 1) := by decide +kernel
theorem od_101_39 : decode (ov_byt 101) 39 = .ok (.iconst 0, 1) := by decide +kernel
theorem od_101_40 : decode (ov_byt 101) 40 = .ok (.goto 5, 3) := by decide +kernel
theorem od_101_36 : decode (ov_byt 101) 36 = .ok (.if_icmp .ne 7, 3) := by decide +kernel
theorem od_101_24 : decode (ov_byt 101) 24 = .ok (.bipush (-9), 2) := by decide +kernel
theorem od_101_26 : decode (ov_byt 101) 26 = .ok (.ireturn, 1) := by decide +kernel
theorem od_101_21 : decode (ov_byt 101) 21 = .ok (.ifCond .ne 6, 3) := by decide +kernel
theorem od_106_0 : decode (ov_byt 106) 0 = .ok (.aload_n 0, 1) := by decide +kernel
theorem og_106_1 : ov_GF 106 1 6 1 := ⟨15, true, 221, by decide +kernel, by decide +kernel⟩
theorem od_106_4 : decode (ov_byt 106) 4 = .ok (.bipush 63, 2) := by decide +kernel
theorem oc_106_6 : ov_CL 106 6 1 42 := ⟨65, (710, 426, 427), (by show decode (ov_byt 106) 6 = Except.ok (Instr.invokevirtual 65, 3); decide +kernel), by decide +kernel⟩
theorem oc_106_9 : ov_CL 106 9 0 69 := ⟨69, (711, 536, 0), (by show decode (ov_byt 106) 9 = Except.ok (Instr.invokestatic 69, 3); decide +kernel), by decide +kernel⟩
theorem od_106_12 : decode (ov_byt 106) 12 = .ok (.istore_n 2, 1) := by decide +kernel
theorem od_106_13 : decode (ov_byt 106) 13 = .ok (.iload_n 2, 1) := by decide +kernel
theorem od_106_14 : decode (ov_byt 106) 14 = .ok (.aload_n 0, 1) := by decide +kernel
theorem og_106_15 : ov_GF 106 15 6 2 := ⟨19, false, 222, by decide +kernel, by decide +kernel⟩
theorem od_106_31 : decode (ov_byt 106) 31 = .ok (.return_, 1) := by decide +kernel
theorem od_106_21 : decode (ov_byt 106) 21 = .ok (.aload_n 0, 1) := by decide +kernel
theorem od_106_22 : decode (ov_byt 106) 22 = .ok (.iload_n 2, 1) := by decide +kernel
theorem op_106_23 : ov_PF 106 23 6 2 := ⟨19, 222, by decide +kernel, by decide +kernel⟩
theorem od_106_26 : decode (ov_byt 106) 26 = .ok (.aload_n 0, 1) := by decide +kernel
theorem od_106_27 : decode (ov_byt 106) 27 = .ok (.iload_n 1, 1) := by decide +kernel
theorem op_106_28 : ov_PF 106 28 6 3 := ⟨23, 223, by decide +kernel, by decide +kernel⟩
theorem od_106_18 : decode (ov_byt 106) 18 = .ok (.if_icmp .le 13, 3) := by decide +kernel
theorem od_113_0 : decode (ov_byt 113) 0 = .ok (.aload_n 0, 1) := by decide +kernel
theorem od_113_1 : decode (ov_byt 113) 1 = .ok (.iload_n 1, 1) := by decide +kernel
theorem oc_113_2 : ov_CL 113 2 1 42 := ⟨114, (601, 426, 427), (by show decode (ov_byt 113) 2 = Except.ok (Instr.invokevirtual 114, 3); decide +kernel), by decide +kernel⟩
theorem oc_113_5 : ov_CL 113 5 0 69 := ⟨117, (745, 536, 0), (by show decode (ov_byt 113) 5 = Except.ok (Instr.invokestatic 117, 3); decide +kernel), by decide +kernel⟩
theorem od_113_8 : decode (ov_byt 113) 8 = .ok (.ireturn, 1) := by decide +kernel
theorem od_136_0 : decode (ov_byt 136) 0 = .ok (.iload_n 1, 1) := by decide +kernel
theorem od_136_20 : decode (ov_byt 136) 20 = .ok (.bipush (-2), 2) := by decide +kernel
theorem od_136_22 : decode (ov_byt 136) 22 = .ok (.ireturn, 1) := by decide +kernel
theorem od_136_4 : decode (ov_byt 136) 4 = .ok (.iload_n 1, 1) := by decide +kernel
theorem od_136_5 : decode (ov_byt 136) 5 = .ok (.bipush 6, 2) := by decide +kernel
theorem od_136_10 : decode (ov_byt 136) 10 = .ok (.iload_n 2, 1) := by decide +kernel
theorem od_136_14 : decode (ov_byt 136) 14 = .ok (.iload_n 2, 1) := by decide +kernel
theorem od_136_15 : decode (ov_byt 136) 15 = .ok (.bipush 10, 2) := by decide +kernel
theorem od_136_23 : decode (ov_byt 136) 23 = .ok (.iconst 0, 1) := by decide +kernel
theorem od_136_24 : decode (ov_byt 136) 24 = .ok (.istore 4, 2) := by decide +kernel
theorem od_136_26 : decode (ov_byt 136) 26 = .ok (.iconst 0, 1) := by decide +kernel
theorem od_136_27 : decode (ov_byt 136) 27 = .ok (.istore 5, 2) := by decide +kernel
theorem od_136_29 : decode (ov_byt 136) 29 = .ok (.iload 5, 2) := by decide +kernel
theorem od_136_31 : decode (ov_byt 136) 31 = .ok (.bipush 6, 2) := by decide +kernel
theorem od_136_36 : decode (ov_byt 136) 36 = .ok (.aload_n 0, 1) := by decide +kernel
theorem og_136_37 : ov_GF 136 37 0 3 := ⟨31, true, 265, by decide +kernel, by decide +kernel⟩
theorem od_136_40 : decode (ov_byt 136) 40 = .ok (.iload 5, 2) := by decide +kernel
theorem oc_136_42 : ov_CL 136 42 1 72 := ⟨192, (553, 554, 555), (by show decode (ov_byt 136) 42 = Except.ok (Instr.invokevirtual 192, 3); decide +kernel), by decide +kernel⟩
theorem od_136_45 : decode (ov_byt 136) 45 = .ok (.bipush 10, 2) := by decide +kernel
theorem od_136_53 : decode (ov_byt 136) 53 = .ok (.iinc 5 1, 3) := by decide +kernel
theorem od_136_56 : decode (ov_byt 136) 56 = .ok (.goto (-27), 3) := by decide +kernel
theorem od_136_50 : decode (ov_byt 136) 50 = .ok (.iinc 4 1, 3) := by decide +kernel
theorem od_136_47 : decode (ov_byt 136) 47 = .ok (.if_icmp .lt 6, 3) := by decide +kernel
theorem od_136_33 : decode (ov_byt 136) 33 = .ok (.if_icmp .ge 26, 3) := by decide +kernel
theorem od_136_59 : decode (ov_byt 136) 59 = .ok (.lconst 0, 1) := by decide +kernel
theorem od_136_60 : decode (ov_byt 136) 60 = .ok (.lstore 5, 2) := by decide +kernel
theorem od_136_62 : decode (ov_byt 136) 62 = .ok (.iload_n 1, 1) := by decide +kernel
theorem od_136_63 : decode (ov_byt 136) 63 = .ok (.istore 7, 2) := by decide +kernel
theorem od_136_65 : decode (ov_byt 136) 65 = .ok (.iload 7, 2) := by decide +kernel
theorem od_136_67 : decode (ov_byt 136) 67 = .ok (.iload 4, 2) := by decide +kernel
theorem od_136_72 : decode (ov_byt 136) 72 = .ok (.lload 5, 2) := by decide +kernel
theorem od_136_74 : decode (ov_byt 136) 74 = .ok (.iload 4, 2) := by decide +kernel
theorem od_136_76 : decode (ov_byt 136) 76 = .ok (.iload 7, 2) := by decide +kernel
theorem oc_136_78 : ov_CL 136 78 0 137 := ⟨325, (843, 844, 0), (by show decode (ov_byt 136) 78 = Except.ok (Instr.invokestatic 325, 3); decide +kernel), by decide +kernel⟩
theorem od_136_81 : decode (ov_byt 136) 81 = .ok (.iload_n 2, 1) := by decide +kernel
theorem od_136_82 : decode (ov_byt 136) 82 = .ok (.iload 7, 2) := by decide +kernel
theorem oc_136_84 : ov_CL 136 84 0 115 := ⟨280, (750, 751, 0), (by show decode (ov_byt 136) 84 = Except.ok (Instr.invokestatic 280, 3); decide +kernel), by decide +kernel⟩
theorem od_136_87 : decode (ov_byt 136) 87 = .ok (.lmul, 1) := by decide +kernel
theorem od_136_88 : decode (ov_byt 136) 88 = .ok (.bipush 10, 2) := by decide +kernel
theorem od_136_90 : decode (ov_byt 136) 90 = .ok (.iload_n 2, 1) := by decide +kernel
theorem od_136_91 : decode (ov_byt 136) 91 = .ok (.isub, 1) := by decide +kernel
theorem od_136_92 : decode (ov_byt 136) 92 = .ok (.iload 4, 2) := by decide +kernel
theorem od_136_94 : decode (ov_byt 136) 94 = .ok (.iload 7, 2) := by decide +kernel
theorem od_136_96 : decode (ov_byt 136) 96 = .ok (.isub, 1) := by decide +kernel
theorem oc_136_97 : ov_CL 136 97 0 115 := ⟨280, (750, 751, 0), (by show decode (ov_byt 136) 97 = Except.ok (Instr.invokestatic 280, 3); decide +kernel), by decide +kernel⟩
theorem od_136_100 : decode (ov_byt 136) 100 = .ok (.lmul, 1) := by decide +kernel
theorem od_136_101 : decode (ov_byt 136) 101 = .ok (.ladd, 1) := by decide +kernel
theorem od_136_102 : decode (ov_byt 136) 102 = .ok (.lstore 5, 2) := by decide +kernel
theorem od_136_104 : decode (ov_byt 136) 104 = .ok (.iinc 7 1, 3) := by decide +kernel
theorem od_136_107 : decode (ov_byt 136) 107 = .ok (.goto (-42), 3) := by decide +kernel
theorem od_136_69 : decode (ov_byt 136) 69 = .ok (.if_icmp .gt 41, 3) := by decide +kernel
theorem od_136_110 : decode (ov_byt 136) 110 = .ok (.lload 5, 2) := by decide +kernel
theorem od_136_112 : decode (ov_byt 136) 112 = .ok (.bipush 10, 2) := by decide +kernel
theorem od_136_114 : decode (ov_byt 136) 114 = .ok (.iload 4, 2) := by decide +kernel
theorem oc_136_116 : ov_CL 136 116 0 115 := ⟨280, (750, 751, 0), (by show decode (ov_byt 136) 116 = Except.ok (Instr.invokestatic 280, 3); decide +kernel), by decide +kernel⟩
theorem od_136_119 : decode (ov_byt 136) 119 = .ok (.iload_n 3, 1) := by decide +kernel
theorem oc_136_120 : ov_CL 136 120 0 119 := ⟨296, (768, 769, 0), (by show decode (ov_byt 136) 120 = Except.ok (Instr.invokestatic 296, 3); decide +kernel), by decide +kernel⟩
theorem od_136_123 : decode (ov_byt 136) 123 = .ok (.ireturn, 1) := by decide +kernel
theorem od_136_17 : decode (ov_byt 136) 17 = .ok (.if_icmp .le 6, 3) := by decide +kernel
theorem od_136_11 : decode (ov_byt 136) 11 = .ok (.ifCond .lt 9, 3) := by decide +kernel
theorem od_136_7 : decode (ov_byt 136) 7 = .ok (.if_icmp .gt 13, 3) := by decide +kernel
theorem od_136_1 : decode (ov_byt 136) 1 = .ok (.ifCond .lt 19, 3) := by decide +kernel
theorem od_147_0 : decode (ov_byt 147) 0 = .ok (.aload_n 0, 1) := by decide +kernel
theorem od_147_1 : decode (ov_byt 147) 1 = .ok (.iconst 0, 1) := by decide +kernel
theorem op_147_2 : ov_PF 147 2 8 3 := ⟨104, 874, by decide +kernel, by decide +kernel⟩
theorem od_147_5 : decode (ov_byt 147) 5 = .ok (.aload_n 0, 1) := by decide +kernel
theorem od_147_6 : decode (ov_byt 147) 6 = .ok (.iconst 0, 1) := by decide +kernel
theorem op_147_7 : ov_PF 147 7 8 13 := ⟨107, 884, by decide +kernel, by decide +kernel⟩
theorem od_147_10 : decode (ov_byt 147) 10 = .ok (.aload_n 0, 1) := by decide +kernel
theorem od_147_11 : decode (ov_byt 147) 11 = .ok (.iconst 0, 1) := by decide +kernel
theorem op_147_12 : ov_PF 147 12 8 15 := ⟨110, 886, by decide +kernel, by decide +kernel⟩
theorem od_147_15 : decode (ov_byt 147) 15 = .ok (.aload_n 0, 1) := by decide +kernel
theorem od_147_16 : decode (ov_byt 147) 16 = .ok (.iconst 0, 1) := by decide +kernel
theorem op_147_17 : ov_PF 147 17 8 17 := ⟨129, 888, by decide +kernel, by decide +kernel⟩
theorem od_147_20 : decode (ov_byt 147) 20 = .ok (.aload_n 0, 1) := by decide +kernel
theorem od_147_21 : decode (ov_byt 147) 21 = .ok (.iconst 0, 1) := by decide +kernel
theorem op_147_22 : ov_PF 147 22 8 20 := ⟨132, 891, by decide +kernel, by decide +kernel⟩
theorem od_147_25 : decode (ov_byt 147) 25 = .ok (.aload_n 0, 1) := by decide +kernel
theorem og_147_26 : ov_GF 147 26 8 2 := ⟨101, false, 873, by decide +kernel, by decide +kernel⟩
theorem od_147_43 : decode (ov_byt 147) 43 = .ok (.iconst 0, 1) := by decide +kernel
theorem od_147_44 : decode (ov_byt 147) 44 = .ok (.ireturn, 1) := by decide +kernel
theorem od_147_32 : decode (ov_byt 147) 32 = .ok (.aload_n 0, 1) := by decide +kernel
theorem og_147_33 : ov_GF 147 33 8 1 := ⟨7, true, 872, by decide +kernel, by decide +kernel⟩
theorem od_147_36 : decode (ov_byt 147) 36 = .ok (.iconst 0, 1) := by decide +kernel
theorem od_147_37 : decode (ov_byt 147) 37 = .ok (.iaload, 1) := by decide +kernel
theorem od_147_38 : decode (ov_byt 147) 38 = .ok (.bipush 69, 2) := by decide +kernel
theorem od_147_45 : decode (ov_byt 147) 45 = .ok (.aload_n 0, 1) := by decide +kernel
theorem od_147_46 : decode (ov_byt 147) 46 = .ok (.iconst 1, 1) := by decide +kernel
theorem op_147_47 : ov_PF 147 47 8 3 := ⟨104, 874, by decide +kernel, by decide +kernel⟩
theorem od_147_50 : decode (ov_byt 147) 50 = .ok (.aload_n 0, 1) := by decide +kernel
theorem og_147_51 : ov_GF 147 51 8 3 := ⟨104, false, 874, by decide +kernel, by decide +kernel⟩
theorem od_147_54 : decode (ov_byt 147) 54 = .ok (.aload_n 0, 1) := by decide +kernel
theorem og_147_55 : ov_GF 147 55 8 2 := ⟨101, false, 873, by decide +kernel, by decide +kernel⟩
theorem od_147_61 : decode (ov_byt 147) 61 = .ok (.aload_n 0, 1) := by decide +kernel
theorem oc_147_62 : ov_CL 147 62 1 148 := ⟨148, (1021, 1023, 17), (by show decode (ov_byt 147) 62 = Except.ok (Instr.invokevirtual 148, 3); decide +kernel), by decide +kernel⟩
theorem od_147_68 : decode (ov_byt 147) 68 = .ok (.aload_n 0, 1) := by decide +kernel
theorem og_147_69 : ov_GF 147 69 8 3 := ⟨104, false, 874, by decide +kernel, by decide +kernel⟩
theorem od_147_72 : decode (ov_byt 147) 72 = .ok (.ireturn, 1) := by decide +kernel
theorem od_147_65 : decode (ov_byt 147) 65 = .ok (.ifCond .ne (-15), 3) := by decide +kernel
theorem od_147_58 : decode (ov_byt 147) 58 = .ok (.if_icmp .ge 15, 3) := by decide +kernel
theorem od_147_73 : decode (ov_byt 147) 73 = .ok (.bipush (-9), 2) := by decide +kernel
theorem od_147_75 : decode (ov_byt 147) 75 = .ok (.ireturn, 1) := by decide +kernel
theorem od_147_40 : decode (ov_byt 147) 40 = .ok (.if_icmp .eq 5, 3) := by decide +kernel
theorem od_147_29 : decode (ov_byt 147) 29 = .ok (.ifCond .eq 14, 3) := by decide +kernel
theorem od_163_0 : decode (ov_byt 163) 0 = .ok (.iconst 0, 1) := by decide +kernel
theorem od_163_1 : decode (ov_byt 163) 1 = .ok (.istore_n 2, 1) := by decide +kernel
theorem od_163_2 : decode (ov_byt 163) 2 = .ok (.iconst 0, 1) := by decide +kernel
theorem od_163_3 : decode (ov_byt 163) 3 = .ok (.istore_n 3, 1) := by decide +kernel
theorem od_163_4 : decode (ov_byt 163) 4 = .ok (.iload_n 3, 1) := by decide +kernel
theorem od_163_5 : decode (ov_byt 163) 5 = .ok (.aload_n 0, 1) := by decide +kernel
theorem og_163_6 : ov_GF 163 6 8 10 := ⟨157, false, 881, by decide +kernel, by decide +kernel⟩
theorem od_163_12 : decode (ov_byt 163) 12 = .ok (.iload_n 2, 1) := by decide +kernel
theorem od_163_13 : decode (ov_byt 163) 13 = .ok (.aload_n 0, 1) := by decide +kernel
theorem od_163_14 : decode (ov_byt 163) 14 = .ok (.aload_n 1, 1) := by decide +kernel
theorem od_163_15 : decode (ov_byt 163) 15 = .ok (.iload_n 3, 1) := by decide +kernel
theorem oc_163_16 : ov_CL 163 16 1 164 := ⟨188, (1084, 1086, 29), (by show decode (ov_byt 163) 16 = Except.ok (Instr.invokevirtual 188, 3); decide +kernel), by decide +kernel⟩
theorem od_163_28 : decode (ov_byt 163) 28 = .ok (.iconst 0, 1) := by decide +kernel
theorem od_163_29 : decode (ov_byt 163) 29 = .ok (.ior, 1) := by decide +kernel
theorem od_163_30 : decode (ov_byt 163) 30 = .ok (.istore_n 2, 1) := by decide +kernel
theorem od_163_31 : decode (ov_byt 163) 31 = .ok (.iinc 3 1, 3) := by decide +kernel
theorem od_163_34 : decode (ov_byt 163) 34 = .ok (.goto (-30), 3) := by decide +kernel
theorem od_163_22 : decode (ov_byt 163) 22 = .ok (.iconst 1, 1) := by decide +kernel
theorem od_163_23 : decode (ov_byt 163) 23 = .ok (.iload_n 3, 1) := by decide +kernel
theorem od_163_24 : decode (ov_byt 163) 24 = .ok (.ishl, 1) := by decide +kernel
theorem od_163_25 : decode (ov_byt 163) 25 = .ok (.goto 4, 3) := by decide +kernel
theorem od_163_19 : decode (ov_byt 163) 19 = .ok (.ifCond .eq 9, 3) := by decide +kernel
theorem od_163_9 : decode (ov_byt 163) 9 = .ok (.if_icmp .ge 28, 3) := by decide +kernel
theorem od_163_37 : decode (ov_byt 163) 37 = .ok (.iload_n 2, 1) := by decide +kernel
theorem od_163_38 : decode (ov_byt 163) 38 = .ok (.ireturn, 1) := by decide +kernel
theorem od_174_0 : decode (ov_byt 174) 0 = .ok (.aload_n 0, 1) := by decide +kernel
theorem od_174_1 : decode (ov_byt 174) 1 = .ok (.iconst 0, 1) := by decide +kernel
theorem op_174_2 : ov_PF 174 2 8 0 := ⟨83, 871, by decide +kernel, by decide +kernel⟩
theorem od_174_5 : decode (ov_byt 174) 5 = .ok (.aload_n 0, 1) := by decide +kernel
theorem od_174_6 : decode (ov_byt 174) 6 = .ok (.iload_n 1, 1) := by decide +kernel
theorem oc_174_7 : ov_CL 174 7 1 175 := ⟨223, (1127, 1129, 35), (by show decode (ov_byt 174) 7 = Except.ok (Instr.invokevirtual 223, 3); decide +kernel), by decide +kernel⟩
theorem od_174_15 : decode (ov_byt 174) 15 = .ok (.iload_n 2, 1) := by decide +kernel
theorem od_174_52 : decode (ov_byt 174) 52 = .ok (.aload_n 0, 1) := by decide +kernel
theorem og_174_53 : ov_GF 174 53 8 8 := ⟨16, true, 879, by decide +kernel, by decide +kernel⟩
theorem od_174_56 : decode (ov_byt 174) 56 = .ok (.iload_n 1, 1) := by decide +kernel
theorem od_174_57 : decode (ov_byt 174) 57 = .ok (.iaload, 1) := by decide +kernel
theorem od_174_58 : decode (ov_byt 174) 58 = .ok (.ireturn, 1) := by decide +kernel
theorem od_174_16 : decode (ov_byt 174) 16 = .ok (.tableswitch 71 0 4 #[36, 43, 50, 59, 65], 36) := by decide +kernel
theorem od_174_59 : decode (ov_byt 174) 59 = .ok (.aload_n 0, 1) := by decide +kernel
theorem og_174_60 : ov_GF 174 60 8 9 := ⟨19, true, 880, by decide +kernel, by decide +kernel⟩
theorem od_174_63 : decode (ov_byt 174) 63 = .ok (.iload_n 1, 1) := by decide +kernel
theorem od_174_64 : decode (ov_byt 174) 64 = .ok (.iaload, 1) := by decide +kernel
theorem od_174_65 : decode (ov_byt 174) 65 = .ok (.ireturn, 1) := by decide +kernel
theorem od_174_66 : decode (ov_byt 174) 66 = .ok (.aload_n 0, 1) := by decide +kernel
theorem og_174_67 : ov_GF 174 67 8 23 := ⟨46, true, 894, by decide +kernel, by decide +kernel⟩
theorem od_174_70 : decode (ov_byt 174) 70 = .ok (.iconst 0, 1) := by decide +kernel
theorem od_174_71 : decode (ov_byt 174) 71 = .ok (.iload_n 1, 1) := by decide +kernel
theorem od_174_72 : decode (ov_byt 174) 72 = .ok (.iadd, 1) := by decide +kernel
theorem od_174_73 : decode (ov_byt 174) 73 = .ok (.iaload, 1) := by decide +kernel
theorem od_174_74 : decode (ov_byt 174) 74 = .ok (.ireturn, 1) := by decide +kernel
theorem od_174_75 : decode (ov_byt 174) 75 = .ok (.aload_n 0, 1) := by decide +kernel
theorem od_174_76 : decode (ov_byt 174) 76 = .ok (.iload_n 1, 1) := by decide +kernel
theorem oc_174_77 : ov_CL 174 77 1 176 := ⟨226, (1131, 1133, 36), (by show decode (ov_byt 174) 77 = Except.ok (Instr.invokevirtual 226, 3); decide +kernel), by decide +kernel⟩
theorem od_174_80 : decode (ov_byt 174) 80 = .ok (.ireturn, 1) := by decide +kernel
theorem od_174_81 : decode (ov_byt 174) 81 = .ok (.aload_n 0, 1) := by decide +kernel
theorem od_174_82 : decode (ov_byt 174) 82 = .ok (.iload_n 1, 1) := by decide +kernel
theorem oc_174_83 : ov_CL 174 83 1 177 := ⟨229, (1135, 1137, 37), (by show decode (ov_byt 174) 83 = Except.ok (Instr.invokevirtual 229, 3); decide +kernel), by decide +kernel⟩
theorem od_174_86 : decode (ov_byt 174) 86 = .ok (.ireturn, 1) := by decide +kernel
theorem od_174_87 : decode (ov_byt 174) 87 = .ok (.bipush (-2), 2) := by decide +kernel
theorem od_174_89 : decode (ov_byt 174) 89 = .ok (.ireturn, 1) := by decide +kernel
theorem od_174_13 : decode (ov_byt 174) 13 = .ok (.iconst (-1), 1) := by decide +kernel
theorem od_174_14 : decode (ov_byt 174) 14 = .ok (.ireturn, 1) := by decide +kernel
theorem od_174_10 : decode (ov_byt 174) 10 = .ok (.ifCond .eq 5, 3) := by decide +kernel
theorem od_181_0 : decode (ov_byt 181) 0 = .ok (.aload_n 0, 1) := by decide +kernel
theorem od_181_1 : decode (ov_byt 181) 1 = .ok (.iconst 0, 1) := by decide +kernel
theorem op_181_2 : ov_PF 181 2 8 0 := ⟨83, 871, by decide +kernel, by decide +kernel⟩
theorem od_181_5 : decode (ov_byt 181) 5 = .ok (.iload_n 1, 1) := by decide +kernel
theorem od_181_6 : decode (ov_byt 181) 6 = .ok (.i2l, 1) := by decide +kernel
theorem od_181_7 : decode (ov_byt 181) 7 = .ok (.lconst 0, 1) := by decide +kernel
theorem od_181_8 : decode (ov_byt 181) 8 = .ok (.aload_n 0, 1) := by decide +kernel
theorem og_181_9 : ov_GF 181 9 8 10 := ⟨157, false, 881, by decide +kernel, by decide +kernel⟩
theorem od_181_12 : decode (ov_byt 181) 12 = .ok (.iconst 1, 1) := by decide +kernel
theorem od_181_13 : decode (ov_byt 181) 13 = .ok (.isub, 1) := by decide +kernel
theorem od_181_14 : decode (ov_byt 181) 14 = .ok (.i2l, 1) := by decide +kernel
theorem oc_181_15 : ov_CL 181 15 0 144 := ⟨90, (1006, 1007, 0), (by show decode (ov_byt 181) 15 = Except.ok (Instr.invokestatic 90, 3); decide +kernel), by decide +kernel⟩
theorem od_181_23 : decode (ov_byt 181) 23 = .ok (.iload_n 2, 1) := by decide +kernel
theorem od_181_56 : decode (ov_byt 181) 56 = .ok (.aload_n 0, 1) := by decide +kernel
theorem og_181_57 : ov_GF 181 57 8 11 := ⟨22, true, 882, by decide +kernel, by decide +kernel⟩
theorem od_181_60 : decode (ov_byt 181) 60 = .ok (.iload_n 1, 1) := by decide +kernel
theorem od_181_61 : decode (ov_byt 181) 61 = .ok (.iaload, 1) := by decide +kernel
theorem od_181_62 : decode (ov_byt 181) 62 = .ok (.ireturn, 1) := by decide +kernel
theorem od_181_24 : decode (ov_byt 181) 24 = .ok (.tableswitch 76 0 3 #[32, 39, 46, 58], 32) := by decide +kernel
theorem od_181_63 : decode (ov_byt 181) 63 = .ok (.aload_n 0, 1) := by decide +kernel
theorem og_181_64 : ov_GF 181 64 8 12 := ⟨25, true, 883, by decide +kernel, by decide +kernel⟩
theorem od_181_67 : decode (ov_byt 181) 67 = .ok (.iload_n 1, 1) := by decide +kernel
theorem od_181_68 : decode (ov_byt 181) 68 = .ok (.iaload, 1) := by decide +kernel
theorem od_181_69 : decode (ov_byt 181) 69 = .ok (.ireturn, 1) := by decide +kernel
theorem od_181_70 : decode (ov_byt 181) 70 = .ok (.aload_n 0, 1) := by decide +kernel
theorem og_181_71 : ov_GF 181 71 8 23 := ⟨46, true, 894, by decide +kernel, by decide +kernel⟩
theorem od_181_74 : decode (ov_byt 181) 74 = .ok (.bipush 6, 2) := by decide +kernel
theorem od_181_76 : decode (ov_byt 181) 76 = .ok (.iaload, 1) := by decide +kernel
theorem od_181_77 : decode (ov_byt 181) 77 = .ok (.iload_n 1, 1) := by decide +kernel
theorem od_181_78 : decode (ov_byt 181) 78 = .ok (.ishr, 1) := by decide +kernel
theorem od_181_79 : decode (ov_byt 181) 79 = .ok (.iconst 1, 1) := by decide +kernel
theorem od_181_80 : decode (ov_byt 181) 80 = .ok (.iand, 1) := by decide +kernel
theorem od_181_81 : decode (ov_byt 181) 81 = .ok (.ireturn, 1) := by decide +kernel
theorem od_181_82 : decode (ov_byt 181) 82 = .ok (.aload_n 0, 1) := by decide +kernel
theorem od_181_83 : decode (ov_byt 181) 83 = .ok (.aload_n 0, 1) := by decide +kernel
theorem og_181_84 : ov_GF 181 84 8 23 := ⟨46, true, 894, by decide +kernel, by decide +kernel⟩
theorem od_181_87 : decode (ov_byt 181) 87 = .ok (.iload_n 1, 1) := by decide +kernel
theorem oc_181_88 : ov_CL 181 88 1 164 := ⟨188, (1084, 1086, 29), (by show decode (ov_byt 181) 88 = Except.ok (Instr.invokevirtual 188, 3); decide +kernel), by decide +kernel⟩
theorem od_181_98 : decode (ov_byt 181) 98 = .ok (.iconst 0, 1) := by decide +kernel
theorem od_181_99 : decode (ov_byt 181) 99 = .ok (.ireturn, 1) := by decide +kernel
theorem od_181_94 : decode (ov_byt 181) 94 = .ok (.iconst 1, 1) := by decide +kernel
theorem od_181_95 : decode (ov_byt 181) 95 = .ok (.goto 4, 3) := by decide +kernel
theorem od_181_91 : decode (ov_byt 181) 91 = .ok (.ifCond .eq 7, 3) := by decide +kernel
theorem od_181_100 : decode (ov_byt 181) 100 = .ok (.bipush (-2), 2) := by decide +kernel
theorem od_181_102 : decode (ov_byt 181) 102 = .ok (.ireturn, 1) := by decide +kernel
theorem od_181_21 : decode (ov_byt 181) 21 = .ok (.iconst (-1), 1) := by decide +kernel
theorem od_181_22 : decode (ov_byt 181) 22 = .ok (.ireturn, 1) := by decide +kernel
theorem od_181_18 : decode (ov_byt 181) 18 = .ok (.ifCond .ne 5, 3) := by decide +kernel
theorem od_184_0 : decode (ov_byt 184) 0 = .ok (.aload_n 0, 1) := by decide +kernel
theorem od_184_1 : decode (ov_byt 184) 1 = .ok (.iconst 0, 1) := by decide +kernel
theorem op_184_2 : ov_PF 184 2 8 0 := ⟨83, 871, by decide +kernel, by decide +kernel⟩
theorem od_184_5 : decode (ov_byt 184) 5 = .ok (.aload_n 0, 1) := by decide +kernel
theorem od_184_6 : decode (ov_byt 184) 6 = .ok (.iload_n 1, 1) := by decide +kernel
theorem oc_184_7 : ov_CL 184 7 1 175 := ⟨223, (1127, 1129, 35), (by show decode (ov_byt 184) 7 = Except.ok (Instr.invokevirtual 223, 3); decide +kernel), by decide +kernel⟩
theorem od_184_21 : decode (ov_byt 184) 21 = .ok (.iconst (-1), 1) := by decide +kernel
theorem od_184_22 : decode (ov_byt 184) 22 = .ok (.ireturn, 1) := by decide +kernel
theorem od_184_13 : decode (ov_byt 184) 13 = .ok (.aload_n 0, 1) := by decide +kernel
theorem od_184_14 : decode (ov_byt 184) 14 = .ok (.iload_n 2, 1) := by decide +kernel
theorem oc_184_15 : ov_CL 184 15 1 172 := ⟨215, (1115, 1117, 34), (by show decode (ov_byt 184) 15 = Except.ok (Instr.invokevirtual 215, 3); decide +kernel), by decide +kernel⟩
theorem od_184_23 : decode (ov_byt 184) 23 = .ok (.aload_n 0, 1) := by decide +kernel
theorem od_184_24 : decode (ov_byt 184) 24 = .ok (.aload_n 0, 1) := by decide +kernel
theorem og_184_25 : ov_GF 184 25 8 23 := ⟨46, true, 894, by decide +kernel, by decide +kernel⟩
theorem od_184_28 : decode (ov_byt 184) 28 = .ok (.iload_n 1, 1) := by decide +kernel
theorem od_184_29 : decode (ov_byt 184) 29 = .ok (.iload_n 2, 1) := by decide +kernel
theorem oc_184_30 : ov_CL 184 30 1 185 := ⟨240, (1167, 1169, 41), (by show decode (ov_byt 184) 30 = Except.ok (Instr.invokevirtual 240, 3); decide +kernel), by decide +kernel⟩
theorem od_184_39 : decode (ov_byt 184) 39 = .ok (.aload_n 0, 1) := by decide +kernel
theorem oc_184_40 : ov_CL 184 40 1 187 := ⟨244, (1175, 1177, 43), (by show decode (ov_byt 184) 40 = Except.ok (Instr.invokevirtual 244, 3); decide +kernel), by decide +kernel⟩
theorem od_184_43 : decode (ov_byt 184) 43 = .ok (.aload_n 0, 1) := by decide +kernel
theorem og_184_44 : ov_GF 184 44 8 23 := ⟨46, true, 894, by decide +kernel, by decide +kernel⟩
theorem od_184_47 : decode (ov_byt 184) 47 = .ok (.iconst 0, 1) := by decide +kernel
theorem od_184_48 : decode (ov_byt 184) 48 = .ok (.iload_n 1, 1) := by decide +kernel
theorem od_184_49 : decode (ov_byt 184) 49 = .ok (.iadd, 1) := by decide +kernel
theorem od_184_50 : decode (ov_byt 184) 50 = .ok (.aload_n 0, 1) := by decide +kernel
theorem og_184_51 : ov_GF 184 51 8 5 := ⟨13, true, 876, by decide +kernel, by decide +kernel⟩
theorem od_184_54 : decode (ov_byt 184) 54 = .ok (.iload_n 2, 1) := by decide +kernel
theorem od_184_55 : decode (ov_byt 184) 55 = .ok (.iaload, 1) := by decide +kernel
theorem od_184_56 : decode (ov_byt 184) 56 = .ok (.iastore, 1) := by decide +kernel
theorem od_184_57 : decode (ov_byt 184) 57 = .ok (.aload_n 0, 1) := by decide +kernel
theorem og_184_58 : ov_GF 184 58 8 5 := ⟨13, true, 876, by decide +kernel, by decide +kernel⟩
theorem od_184_61 : decode (ov_byt 184) 61 = .ok (.iload_n 2, 1) := by decide +kernel
theorem od_184_62 : decode (ov_byt 184) 62 = .ok (.iaload, 1) := by decide +kernel
theorem od_184_63 : decode (ov_byt 184) 63 = .ok (.ireturn, 1) := by decide +kernel
theorem od_184_36 : decode (ov_byt 184) 36 = .ok (.bipush (-3), 2) := by decide +kernel
theorem od_184_38 : decode (ov_byt 184) 38 = .ok (.ireturn, 1) := by decide +kernel
theorem od_184_33 : decode (ov_byt 184) 33 = .ok (.ifCond .ne 6, 3) := by decide +kernel
theorem od_184_18 : decode (ov_byt 184) 18 = .ok (.ifCond .eq 5, 3) := by decide +kernel
theorem od_184_10 : decode (ov_byt 184) 10 = .ok (.ifCond .ne 11, 3) := by decide +kernel
theorem od_188_0 : decode (ov_byt 188) 0 = .ok (.aload_n 0, 1) := by decide +kernel
theorem od_188_1 : decode (ov_byt 188) 1 = .ok (.iconst 0, 1) := by decide +kernel
theorem op_188_2 : ov_PF 188 2 8 0 := ⟨83, 871, by decide +kernel, by decide +kernel⟩
theorem od_188_5 : decode (ov_byt 188) 5 = .ok (.aload_n 0, 1) := by decide +kernel
theorem od_188_6 : decode (ov_byt 188) 6 = .ok (.iload_n 1, 1) := by decide +kernel
theorem oc_188_7 : ov_CL 188 7 1 175 := ⟨223, (1127, 1129, 35), (by show decode (ov_byt 188) 7 = Except.ok (Instr.invokevirtual 223, 3); decide +kernel), by decide +kernel⟩
theorem od_188_15 : decode (ov_byt 188) 15 = .ok (.iload_n 2, 1) := by decide +kernel
theorem od_188_16 : decode (ov_byt 188) 16 = .ok (.i2l, 1) := by decide +kernel
theorem od_188_17 : decode (ov_byt 188) 17 = .ok (.lconst 0, 1) := by decide +kernel
theorem ok_188_18 : ∃ w, ov_find ov_k2t (247 * 32 + ov_oc 188) = some ((3 : Int64), w) := ⟨1183, by decide +kernel⟩
theorem od_188_18 : decode (ov_byt 188) 18 = .ok (.ldc2_w 247, 3) := by decide +kernel
theorem oc_188_21 : ov_CL 188 21 0 144 := ⟨90, (1006, 1007, 0), (by show decode (ov_byt 188) 21 = Except.ok (Instr.invokestatic 90, 3); decide +kernel), by decide +kernel⟩
theorem od_188_30 : decode (ov_byt 188) 30 = .ok (.aload_n 0, 1) := by decide +kernel
theorem od_188_31 : decode (ov_byt 188) 31 = .ok (.aload_n 0, 1) := by decide +kernel
theorem og_188_32 : ov_GF 188 32 8 23 := ⟨46, true, 894, by decide +kernel, by decide +kernel⟩
theorem od_188_35 : decode (ov_byt 188) 35 = .ok (.iload_n 1, 1) := by decide +kernel
theorem od_188_36 : decode (ov_byt 188) 36 = .ok (.iload_n 2, 1) := by decide +kernel
theorem oc_188_37 : ov_CL 188 37 1 189 := ⟨249, (1184, 1186, 44), (by show decode (ov_byt 188) 37 = Except.ok (Instr.invokevirtual 249, 3); decide +kernel), by decide +kernel⟩
theorem od_188_40 : decode (ov_byt 188) 40 = .ok (.istore_n 3, 1) := by decide +kernel
theorem od_188_41 : decode (ov_byt 188) 41 = .ok (.iload_n 3, 1) := by decide +kernel
theorem od_188_42 : decode (ov_byt 188) 42 = .ok (.bipush (-9), 2) := by decide +kernel
theorem od_188_50 : decode (ov_byt 188) 50 = .ok (.aload_n 0, 1) := by decide +kernel
theorem oc_188_51 : ov_CL 188 51 1 187 := ⟨244, (1175, 1177, 43), (by show decode (ov_byt 188) 51 = Except.ok (Instr.invokevirtual 244, 3); decide +kernel), by decide +kernel⟩
theorem od_188_54 : decode (ov_byt 188) 54 = .ok (.aload_n 0, 1) := by decide +kernel
theorem og_188_55 : ov_GF 188 55 8 23 := ⟨46, true, 894, by decide +kernel, by decide +kernel⟩
theorem od_188_58 : decode (ov_byt 188) 58 = .ok (.iconst 0, 1) := by decide +kernel
theorem od_188_59 : decode (ov_byt 188) 59 = .ok (.iload_n 1, 1) := by decide +kernel
theorem od_188_60 : decode (ov_byt 188) 60 = .ok (.iadd, 1) := by decide +kernel
theorem od_188_61 : decode (ov_byt 188) 61 = .ok (.iload_n 3, 1) := by decide +kernel
theorem od_188_62 : decode (ov_byt 188) 62 = .ok (.iastore, 1) := by decide +kernel
theorem od_188_63 : decode (ov_byt 188) 63 = .ok (.iload_n 3, 1) := by decide +kernel
theorem od_188_64 : decode (ov_byt 188) 64 = .ok (.ireturn, 1) := by decide +kernel
theorem od_188_47 : decode (ov_byt 188) 47 = .ok (.bipush (-3), 2) := by decide +kernel
theorem od_188_49 : decode (ov_byt 188) 49 = .ok (.ireturn, 1) := by decide +kernel
theorem od_188_44 : decode (ov_byt 188) 44 = .ok (.if_icmp .ne 6, 3) := by decide +kernel
theorem od_188_27 : decode (ov_byt 188) 27 = .ok (.bipush (-2), 2) := by decide +kernel
theorem od_188_29 : decode (ov_byt 188) 29 = .ok (.ireturn, 1) := by decide +kernel
theorem od_188_24 : decode (ov_byt 188) 24 = .ok (.ifCond .ne 6, 3) := by decide +kernel
theorem od_188_13 : decode (ov_byt 188) 13 = .ok (.iconst (-1), 1) := by decide +kernel
theorem od_188_14 : decode (ov_byt 188) 14 = .ok (.ireturn, 1) := by decide +kernel
theorem od_188_10 : decode (ov_byt 188) 10 = .ok (.ifCond .eq 5, 3) := by decide +kernel
theorem od_190_0 : decode (ov_byt 190) 0 = .ok (.aload_n 0, 1) := by decide +kernel
theorem od_190_1 : decode (ov_byt 190) 1 = .ok (.iconst 0, 1) := by decide +kernel
theorem op_190_2 : ov_PF 190 2 8 0 := ⟨83, 871, by decide +kernel, by decide +kernel⟩
theorem od_190_5 : decode (ov_byt 190) 5 = .ok (.iload_n 1, 1) := by decide +kernel
theorem od_190_6 : decode (ov_byt 190) 6 = .ok (.i2l, 1) := by decide +kernel
theorem od_190_7 : decode (ov_byt 190) 7 = .ok (.lconst 0, 1) := by decide +kernel
theorem od_190_8 : decode (ov_byt 190) 8 = .ok (.aload_n 0, 1) := by decide +kernel
theorem og_190_9 : ov_GF 190 9 8 10 := ⟨157, false, 881, by decide +kernel, by decide +kernel⟩
theorem od_190_12 : decode (ov_byt 190) 12 = .ok (.iconst 1, 1) := by decide +kernel
theorem od_190_13 : decode (ov_byt 190) 13 = .ok (.isub, 1) := by decide +kernel
theorem od_190_14 : decode (ov_byt 190) 14 = .ok (.i2l, 1) := by decide +kernel
theorem oc_190_15 : ov_CL 190 15 0 144 := ⟨90, (1006, 1007, 0), (by show decode (ov_byt 190) 15 = Except.ok (Instr.invokestatic 90, 3); decide +kernel), by decide +kernel⟩
theorem od_190_23 : decode (ov_byt 190) 23 = .ok (.aload_n 0, 1) := by decide +kernel
theorem od_190_24 : decode (ov_byt 190) 24 = .ok (.aload_n 0, 1) := by decide +kernel
theorem og_190_25 : ov_GF 190 25 8 23 := ⟨46, true, 894, by decide +kernel, by decide +kernel⟩
theorem od_190_28 : decode (ov_byt 190) 28 = .ok (.iload_n 1, 1) := by decide +kernel
theorem oc_190_29 : ov_CL 190 29 1 164 := ⟨188, (1084, 1086, 29), (by show decode (ov_byt 190) 29 = Except.ok (Instr.invokevirtual 188, 3); decide +kernel), by decide +kernel⟩
theorem od_190_38 : decode (ov_byt 190) 38 = .ok (.aload_n 0, 1) := by decide +kernel
theorem oc_190_39 : ov_CL 190 39 1 187 := ⟨244, (1175, 1177, 43), (by show decode (ov_byt 190) 39 = Except.ok (Instr.invokevirtual 244, 3); decide +kernel), by decide +kernel⟩
theorem od_190_42 : decode (ov_byt 190) 42 = .ok (.aload_n 0, 1) := by decide +kernel
theorem og_190_43 : ov_GF 190 43 8 23 := ⟨46, true, 894, by decide +kernel, by decide +kernel⟩
theorem od_190_46 : decode (ov_byt 190) 46 = .ok (.bipush 6, 2) := by decide +kernel
theorem od_190_48 : decode (ov_byt 190) 48 = .ok (.dup2, 1) := by decide +kernel
theorem od_190_49 : decode (ov_byt 190) 49 = .ok (.iaload, 1) := by decide +kernel
theorem od_190_50 : decode (ov_byt 190) 50 = .ok (.iconst 1, 1) := by decide +kernel
theorem od_190_51 : decode (ov_byt 190) 51 = .ok (.iload_n 1, 1) := by decide +kernel
theorem od_190_52 : decode (ov_byt 190) 52 = .ok (.ishl, 1) := by decide +kernel
theorem od_190_53 : decode (ov_byt 190) 53 = .ok (.ior, 1) := by decide +kernel
theorem od_190_54 : decode (ov_byt 190) 54 = .ok (.iastore, 1) := by decide +kernel
theorem od_190_55 : decode (ov_byt 190) 55 = .ok (.aload_n 0, 1) := by decide +kernel
theorem og_190_56 : ov_GF 190 56 8 23 := ⟨46, true, 894, by decide +kernel, by decide +kernel⟩
theorem od_190_59 : decode (ov_byt 190) 59 = .ok (.bipush 6, 2) := by decide +kernel
theorem od_190_61 : decode (ov_byt 190) 61 = .ok (.iaload, 1) := by decide +kernel
theorem oc_190_62 : ov_CL 190 62 0 191 := ⟨252, (1192, 1193, 0), (by show decode (ov_byt 190) 62 = Except.ok (Instr.invokestatic 252, 3); decide +kernel), by decide +kernel⟩
theorem od_190_65 : decode (ov_byt 190) 65 = .ok (.ireturn, 1) := by decide +kernel
theorem od_190_35 : decode (ov_byt 190) 35 = .ok (.bipush (-3), 2) := by decide +kernel
theorem od_190_37 : decode (ov_byt 190) 37 = .ok (.ireturn, 1) := by decide +kernel
theorem od_190_32 : decode (ov_byt 190) 32 = .ok (.ifCond .ne 6, 3) := by decide +kernel
theorem od_190_21 : decode (ov_byt 190) 21 = .ok (.iconst (-1), 1) := by decide +kernel
theorem od_190_22 : decode (ov_byt 190) 22 = .ok (.ireturn, 1) := by decide +kernel
theorem od_190_18 : decode (ov_byt 190) 18 = .ok (.ifCond .ne 5, 3) := by decide +kernel
theorem od_199_0 : decode (ov_byt 199) 0 = .ok (.iconst 0, 1) := by decide +kernel
theorem od_199_1 : decode (ov_byt 199) 1 = .ok (.istore_n 2, 1) := by decide +kernel
theorem od_199_2 : decode (ov_byt 199) 2 = .ok (.iconst 0, 1) := by decide +kernel
theorem od_199_3 : decode (ov_byt 199) 3 = .ok (.istore_n 3, 1) := by decide +kernel
theorem od_199_4 : decode (ov_byt 199) 4 = .ok (.iload_n 3, 1) := by decide +kernel
theorem od_199_5 : decode (ov_byt 199) 5 = .ok (.aload_n 0, 1) := by decide +kernel
theorem og_199_6 : ov_GF 199 6 8 10 := ⟨157, false, 881, by decide +kernel, by decide +kernel⟩
theorem od_199_12 : decode (ov_byt 199) 12 = .ok (.iload_n 2, 1) := by decide +kernel
theorem od_199_13 : decode (ov_byt 199) 13 = .ok (.aload_n 0, 1) := by decide +kernel
theorem og_199_14 : ov_GF 199 14 8 11 := ⟨22, true, 882, by decide +kernel, by decide +kernel⟩
theorem od_199_17 : decode (ov_byt 199) 17 = .ok (.iload_n 3, 1) := by decide +kernel
theorem od_199_18 : decode (ov_byt 199) 18 = .ok (.iaload, 1) := by decide +kernel
theorem od_199_19 : decode (ov_byt 199) 19 = .ok (.iload_n 1, 1) := by decide +kernel
theorem od_199_33 : decode (ov_byt 199) 33 = .ok (.aload_n 0, 1) := by decide +kernel
theorem od_199_34 : decode (ov_byt 199) 34 = .ok (.aload_n 0, 1) := by decide +kernel
theorem og_199_35 : ov_GF 199 35 8 24 := ⟨49, true, 895, by decide +kernel, by decide +kernel⟩
theorem od_199_38 : decode (ov_byt 199) 38 = .ok (.iload_n 3, 1) := by decide +kernel
theorem oc_199_39 : ov_CL 199 39 1 164 := ⟨188, (1084, 1086, 29), (by show decode (ov_byt 199) 39 = Except.ok (Instr.invokevirtual 188, 3); decide +kernel), by decide +kernel⟩
theorem od_199_49 : decode (ov_byt 199) 49 = .ok (.iconst 0, 1) := by decide +kernel
theorem od_199_50 : decode (ov_byt 199) 50 = .ok (.iadd, 1) := by decide +kernel
theorem od_199_51 : decode (ov_byt 199) 51 = .ok (.istore_n 2, 1) := by decide +kernel
theorem od_199_52 : decode (ov_byt 199) 52 = .ok (.iinc 3 1, 3) := by decide +kernel
theorem od_199_55 : decode (ov_byt 199) 55 = .ok (.goto (-51), 3) := by decide +kernel
theorem od_199_45 : decode (ov_byt 199) 45 = .ok (.iconst 1, 1) := by decide +kernel
theorem od_199_46 : decode (ov_byt 199) 46 = .ok (.goto 4, 3) := by decide +kernel
theorem od_199_42 : decode (ov_byt 199) 42 = .ok (.ifCond .eq 7, 3) := by decide +kernel
theorem od_199_23 : decode (ov_byt 199) 23 = .ok (.aload_n 0, 1) := by decide +kernel
theorem og_199_24 : ov_GF 199 24 8 12 := ⟨25, true, 883, by decide +kernel, by decide +kernel⟩
theorem od_199_27 : decode (ov_byt 199) 27 = .ok (.iload_n 3, 1) := by decide +kernel
theorem od_199_28 : decode (ov_byt 199) 28 = .ok (.iaload, 1) := by decide +kernel
theorem od_199_29 : decode (ov_byt 199) 29 = .ok (.iload_n 1, 1) := by decide +kernel
theorem od_199_30 : decode (ov_byt 199) 30 = .ok (.if_icmp .ne 19, 3) := by decide +kernel
theorem od_199_20 : decode (ov_byt 199) 20 = .ok (.if_icmp .eq 13, 3) := by decide +kernel
theorem od_199_9 : decode (ov_byt 199) 9 = .ok (.if_icmp .ge 49, 3) := by decide +kernel
theorem od_199_58 : decode (ov_byt 199) 58 = .ok (.iload_n 2, 1) := by decide +kernel
theorem od_199_59 : decode (ov_byt 199) 59 = .ok (.ireturn, 1) := by decide +kernel
theorem od_201_0 : decode (ov_byt 201) 0 = .ok (.aload_n 0, 1) := by decide +kernel
theorem od_201_1 : decode (ov_byt 201) 1 = .ok (.aload_n 0, 1) := by decide +kernel
theorem og_201_2 : ov_GF 201 2 8 24 := ⟨49, true, 895, by decide +kernel, by decide +kernel⟩
theorem od_201_5 : decode (ov_byt 201) 5 = .ok (.iload_n 1, 1) := by decide +kernel
theorem od_201_6 : decode (ov_byt 201) 6 = .ok (.iload_n 2, 1) := by decide +kernel
theorem oc_201_7 : ov_CL 201 7 1 185 := ⟨240, (1167, 1169, 41), (by show decode (ov_byt 201) 7 = Except.ok (Instr.invokevirtual 240, 3); decide +kernel), by decide +kernel⟩
theorem od_201_16 : decode (ov_byt 201) 16 = .ok (.aload_n 0, 1) := by decide +kernel
theorem og_201_17 : ov_GF 201 17 8 24 := ⟨49, true, 895, by decide +kernel, by decide +kernel⟩
theorem od_201_20 : decode (ov_byt 201) 20 = .ok (.iconst 0, 1) := by decide +kernel
theorem od_201_21 : decode (ov_byt 201) 21 = .ok (.iload_n 1, 1) := by decide +kernel
theorem od_201_22 : decode (ov_byt 201) 22 = .ok (.iadd, 1) := by decide +kernel
theorem od_201_23 : decode (ov_byt 201) 23 = .ok (.aload_n 0, 1) := by decide +kernel
theorem og_201_24 : ov_GF 201 24 8 5 := ⟨13, true, 876, by decide +kernel, by decide +kernel⟩
theorem od_201_27 : decode (ov_byt 201) 27 = .ok (.iload_n 2, 1) := by decide +kernel
theorem od_201_28 : decode (ov_byt 201) 28 = .ok (.iaload, 1) := by decide +kernel
theorem od_201_29 : decode (ov_byt 201) 29 = .ok (.iastore, 1) := by decide +kernel
theorem od_201_30 : decode (ov_byt 201) 30 = .ok (.aload_n 0, 1) := by decide +kernel
theorem od_201_31 : decode (ov_byt 201) 31 = .ok (.aload_n 0, 1) := by decide +kernel
theorem og_201_32 : ov_GF 201 32 8 24 := ⟨49, true, 895, by decide +kernel, by decide +kernel⟩
theorem od_201_35 : decode (ov_byt 201) 35 = .ok (.iload_n 1, 1) := by decide +kernel
theorem oc_201_36 : ov_CL 201 36 1 178 := ⟨219, (1139, 1141, 38), (by show decode (ov_byt 201) 36 = Except.ok (Instr.invokevirtual 219, 3); decide +kernel), by decide +kernel⟩
theorem od_201_39 : decode (ov_byt 201) 39 = .ok (.aload_n 0, 1) := by decide +kernel
theorem og_201_40 : ov_GF 201 40 8 5 := ⟨13, true, 876, by decide +kernel, by decide +kernel⟩
theorem od_201_43 : decode (ov_byt 201) 43 = .ok (.iload_n 2, 1) := by decide +kernel
theorem od_201_44 : decode (ov_byt 201) 44 = .ok (.iaload, 1) := by decide +kernel
theorem od_201_45 : decode (ov_byt 201) 45 = .ok (.istore_n 3, 1) := by decide +kernel
theorem od_201_46 : decode (ov_byt 201) 46 = .ok (.bipush (-9), 2) := by decide +kernel
theorem od_201_48 : decode (ov_byt 201) 48 = .ok (.istore 4, 2) := by decide +kernel
theorem od_201_50 : decode (ov_byt 201) 50 = .ok (.iconst 0, 1) := by decide +kernel
theorem od_201_51 : decode (ov_byt 201) 51 = .ok (.istore 5, 2) := by decide +kernel
theorem od_201_53 : decode (ov_byt 201) 53 = .ok (.iload 5, 2) := by decide +kernel
theorem od_201_55 : decode (ov_byt 201) 55 = .ok (.bipush 18, 2) := by decide +kernel
theorem od_201_60 : decode (ov_byt 201) 60 = .ok (.aload_n 0, 1) := by decide +kernel
theorem og_201_61 : ov_GF 201 61 8 24 := ⟨49, true, 895, by decide +kernel, by decide +kernel⟩
theorem od_201_64 : decode (ov_byt 201) 64 = .ok (.iconst 0, 1) := by decide +kernel
theorem od_201_65 : decode (ov_byt 201) 65 = .ok (.iload_n 1, 1) := by decide +kernel
theorem od_201_66 : decode (ov_byt 201) 66 = .ok (.iadd, 1) := by decide +kernel
theorem od_201_67 : decode (ov_byt 201) 67 = .ok (.iload 5, 2) := by decide +kernel
theorem od_201_69 : decode (ov_byt 201) 69 = .ok (.iastore, 1) := by decide +kernel
theorem od_201_70 : decode (ov_byt 201) 70 = .ok (.aload_n 0, 1) := by decide +kernel
theorem og_201_71 : ov_GF 201 71 8 34 := ⟨71, true, 905, by decide +kernel, by decide +kernel⟩
theorem od_201_74 : decode (ov_byt 201) 74 = .ok (.iload 5, 2) := by decide +kernel
theorem od_201_76 : decode (ov_byt 201) 76 = .ok (.iaload, 1) := by decide +kernel
theorem od_201_77 : decode (ov_byt 201) 77 = .ok (.bipush (-9), 2) := by decide +kernel
theorem od_201_125 : decode (ov_byt 201) 125 = .ok (.iinc 5 1, 3) := by decide +kernel
theorem od_201_128 : decode (ov_byt 201) 128 = .ok (.goto (-75), 3) := by decide +kernel
theorem od_201_82 : decode (ov_byt 201) 82 = .ok (.aload_n 0, 1) := by decide +kernel
theorem od_201_83 : decode (ov_byt 201) 83 = .ok (.aload_n 0, 1) := by decide +kernel
theorem og_201_84 : ov_GF 201 84 8 24 := ⟨49, true, 895, by decide +kernel, by decide +kernel⟩
theorem od_201_87 : decode (ov_byt 201) 87 = .ok (.iload_n 1, 1) := by decide +kernel
theorem oc_201_88 : ov_CL 201 88 1 162 := ⟨192, (1076, 1078, 27), (by show decode (ov_byt 201) 88 = Except.ok (Instr.invokevirtual 192, 3); decide +kernel), by decide +kernel⟩
theorem od_201_94 : decode (ov_byt 201) 94 = .ok (.iload 4, 2) := by decide +kernel
theorem od_201_96 : decode (ov_byt 201) 96 = .ok (.bipush (-9), 2) := by decide +kernel
theorem od_201_113 : decode (ov_byt 201) 113 = .ok (.iload 5, 2) := by decide +kernel
theorem od_201_115 : decode (ov_byt 201) 115 = .ok (.istore_n 3, 1) := by decide +kernel
theorem od_201_116 : decode (ov_byt 201) 116 = .ok (.aload_n 0, 1) := by decide +kernel
theorem og_201_117 : ov_GF 201 117 8 34 := ⟨71, true, 905, by decide +kernel, by decide +kernel⟩
theorem od_201_120 : decode (ov_byt 201) 120 = .ok (.iload 5, 2) := by decide +kernel
theorem od_201_122 : decode (ov_byt 201) 122 = .ok (.iaload, 1) := by decide +kernel
theorem od_201_123 : decode (ov_byt 201) 123 = .ok (.istore 4, 2) := by decide +kernel
theorem od_201_101 : decode (ov_byt 201) 101 = .ok (.aload_n 0, 1) := by decide +kernel
theorem og_201_102 : ov_GF 201 102 8 34 := ⟨71, true, 905, by decide +kernel, by decide +kernel⟩
theorem od_201_105 : decode (ov_byt 201) 105 = .ok (.iload 5, 2) := by decide +kernel
theorem od_201_107 : decode (ov_byt 201) 107 = .ok (.iaload, 1) := by decide +kernel
theorem od_201_108 : decode (ov_byt 201) 108 = .ok (.iload 4, 2) := by decide +kernel
theorem od_201_110 : decode (ov_byt 201) 110 = .ok (.if_icmp .ge 15, 3) := by decide +kernel
theorem od_201_98 : decode (ov_byt 201) 98 = .ok (.if_icmp .eq 15, 3) := by decide +kernel
theorem od_201_91 : decode (ov_byt 201) 91 = .ok (.ifCond .eq 34, 3) := by decide +kernel
theorem od_201_79 : decode (ov_byt 201) 79 = .ok (.if_icmp .eq 46, 3) := by decide +kernel
theorem od_201_57 : decode (ov_byt 201) 57 = .ok (.if_icmp .ge 74, 3) := by decide +kernel
theorem od_201_131 : decode (ov_byt 201) 131 = .ok (.aload_n 0, 1) := by decide +kernel
theorem og_201_132 : ov_GF 201 132 8 24 := ⟨49, true, 895, by decide +kernel, by decide +kernel⟩
theorem od_201_135 : decode (ov_byt 201) 135 = .ok (.iconst 0, 1) := by decide +kernel
theorem od_201_136 : decode (ov_byt 201) 136 = .ok (.iload_n 1, 1) := by decide +kernel
theorem od_201_137 : decode (ov_byt 201) 137 = .ok (.iadd, 1) := by decide +kernel
theorem od_201_138 : decode (ov_byt 201) 138 = .ok (.iload_n 3, 1) := by decide +kernel
theorem od_201_139 : decode (ov_byt 201) 139 = .ok (.iastore, 1) := by decide +kernel
theorem od_201_140 : decode (ov_byt 201) 140 = .ok (.iload 4, 2) := by decide +kernel
theorem od_201_142 : decode (ov_byt 201) 142 = .ok (.bipush (-9), 2) := by decide +kernel
theorem od_201_151 : decode (ov_byt 201) 151 = .ok (.iload 4, 2) := by decide +kernel
theorem od_201_153 : decode (ov_byt 201) 153 = .ok (.ireturn, 1) := by decide +kernel
theorem od_201_147 : decode (ov_byt 201) 147 = .ok (.iconst 0, 1) := by decide +kernel
theorem od_201_148 : decode (ov_byt 201) 148 = .ok (.goto 5, 3) := by decide +kernel
theorem od_201_144 : decode (ov_byt 201) 144 = .ok (.if_icmp .ne 7, 3) := by decide +kernel
theorem od_201_13 : decode (ov_byt 201) 13 = .ok (.bipush (-9), 2) := by decide +kernel
theorem od_201_15 : decode (ov_byt 201) 15 = .ok (.ireturn, 1) := by decide +kernel
theorem od_201_10 : decode (ov_byt 201) 10 = .ok (.ifCond .ne 6, 3) := by decide +kernel
theorem od_210_0 : decode (ov_byt 210) 0 = .ok (.iload_n 1, 1) := by decide +kernel
theorem od_210_1 : decode (ov_byt 210) 1 = .ok (.bipush 100, 2) := by decide +kernel
theorem od_210_3 : decode (ov_byt 210) 3 = .ok (.idiv, 1) := by decide +kernel
theorem od_210_4 : decode (ov_byt 210) 4 = .ok (.istore_n 2, 1) := by decide +kernel
theorem od_210_5 : decode (ov_byt 210) 5 = .ok (.iload_n 1, 1) := by decide +kernel
theorem od_210_6 : decode (ov_byt 210) 6 = .ok (.bipush 10, 2) := by decide +kernel
theorem od_210_8 : decode (ov_byt 210) 8 = .ok (.idiv, 1) := by decide +kernel
theorem od_210_9 : decode (ov_byt 210) 9 = .ok (.bipush 10, 2) := by decide +kernel
theorem od_210_11 : decode (ov_byt 210) 11 = .ok (.irem, 1) := by decide +kernel
theorem od_210_12 : decode (ov_byt 210) 12 = .ok (.istore_n 3, 1) := by decide +kernel
