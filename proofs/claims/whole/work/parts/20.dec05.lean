theorem og_215_46 : ov_GF 215 46 8 30 := ⟨212, false, 901, by decide +kernel, by decide +kernel⟩
theorem od_215_49 : decode (ov_byt 215) 49 = .ok (.iload_n 1, 1) := by decide +kernel
theorem od_215_50 : decode (ov_byt 215) 50 = .ok (.iastore, 1) := by decide +kernel
theorem od_215_51 : decode (ov_byt 215) 51 = .ok (.aload_n 0, 1) := by decide +kernel
theorem og_215_52 : ov_GF 215 52 8 32 := ⟨68, true, 903, by decide +kernel, by decide +kernel⟩
theorem od_215_55 : decode (ov_byt 215) 55 = .ok (.aload_n 0, 1) := by decide +kernel
theorem og_215_56 : ov_GF 215 56 8 30 := ⟨212, false, 901, by decide +kernel, by decide +kernel⟩
theorem od_215_59 : decode (ov_byt 215) 59 = .ok (.iload_n 2, 1) := by decide +kernel
theorem od_215_60 : decode (ov_byt 215) 60 = .ok (.iastore, 1) := by decide +kernel
theorem od_215_61 : decode (ov_byt 215) 61 = .ok (.aload_n 0, 1) := by decide +kernel
theorem od_215_62 : decode (ov_byt 215) 62 = .ok (.dup, 1) := by decide +kernel
theorem og_215_63 : ov_GF 215 63 8 30 := ⟨212, false, 901, by decide +kernel, by decide +kernel⟩
theorem od_215_66 : decode (ov_byt 215) 66 = .ok (.iconst 1, 1) := by decide +kernel
theorem od_215_67 : decode (ov_byt 215) 67 = .ok (.iadd, 1) := by decide +kernel
theorem op_215_68 : ov_PF 215 68 8 30 := ⟨212, 901, by decide +kernel, by decide +kernel⟩
theorem od_215_71 : decode (ov_byt 215) 71 = .ok (.aload_n 0, 1) := by decide +kernel
theorem og_215_72 : ov_GF 215 72 8 30 := ⟨212, false, 901, by decide +kernel, by decide +kernel⟩
theorem od_215_75 : decode (ov_byt 215) 75 = .ok (.ireturn, 1) := by decide +kernel
theorem od_215_38 : decode (ov_byt 215) 38 = .ok (.bipush (-4), 2) := by decide +kernel
theorem od_215_40 : decode (ov_byt 215) 40 = .ok (.ireturn, 1) := by decide +kernel
theorem od_215_35 : decode (ov_byt 215) 35 = .ok (.if_icmp .ne 6, 3) := by decide +kernel
theorem od_215_26 : decode (ov_byt 215) 26 = .ok (.bipush (-2), 2) := by decide +kernel
theorem od_215_28 : decode (ov_byt 215) 28 = .ok (.ireturn, 1) := by decide +kernel
theorem od_215_23 : decode (ov_byt 215) 23 = .ok (.ifCond .ne 6, 3) := by decide +kernel
theorem od_215_12 : decode (ov_byt 215) 12 = .ok (.iconst (-1), 1) := by decide +kernel
theorem od_215_13 : decode (ov_byt 215) 13 = .ok (.ireturn, 1) := by decide +kernel
theorem od_215_9 : decode (ov_byt 215) 9 = .ok (.ifCond .eq 5, 3) := by decide +kernel
theorem od_217_0 : decode (ov_byt 217) 0 = .ok (.aload_n 0, 1) := by decide +kernel
theorem od_217_1 : decode (ov_byt 217) 1 = .ok (.iconst 0, 1) := by decide +kernel
theorem op_217_2 : ov_PF 217 2 8 0 := ⟨83, 871, by decide +kernel, by decide +kernel⟩
theorem od_217_5 : decode (ov_byt 217) 5 = .ok (.iconst 0, 1) := by decide +kernel
theorem od_217_6 : decode (ov_byt 217) 6 = .ok (.istore_n 1, 1) := by decide +kernel
theorem od_217_7 : decode (ov_byt 217) 7 = .ok (.iconst 0, 1) := by decide +kernel
theorem od_217_8 : decode (ov_byt 217) 8 = .ok (.istore_n 2, 1) := by decide +kernel
theorem od_217_9 : decode (ov_byt 217) 9 = .ok (.iload_n 2, 1) := by decide +kernel
theorem od_217_10 : decode (ov_byt 217) 10 = .ok (.aload_n 0, 1) := by decide +kernel
theorem og_217_11 : ov_GF 217 11 8 4 := ⟨94, false, 875, by decide +kernel, by decide +kernel⟩
theorem od_217_17 : decode (ov_byt 217) 17 = .ok (.aload_n 0, 1) := by decide +kernel
theorem od_217_18 : decode (ov_byt 217) 18 = .ok (.aload_n 0, 1) := by decide +kernel
theorem og_217_19 : ov_GF 217 19 8 5 := ⟨13, true, 876, by decide +kernel, by decide +kernel⟩
theorem od_217_22 : decode (ov_byt 217) 22 = .ok (.iload_n 2, 1) := by decide +kernel
theorem od_217_23 : decode (ov_byt 217) 23 = .ok (.iaload, 1) := by decide +kernel
theorem od_217_24 : decode (ov_byt 217) 24 = .ok (.aload_n 0, 1) := by decide +kernel
theorem od_217_25 : decode (ov_byt 217) 25 = .ok (.aload_n 0, 1) := by decide +kernel
theorem og_217_26 : ov_GF 217 26 8 23 := ⟨46, true, 894, by decide +kernel, by decide +kernel⟩
theorem oc_217_29 : ov_CL 217 29 1 168 := ⟨167, (1098, 1100, 31), (by show decode (ov_byt 217) 29 = Except.ok (Instr.invokevirtual 167, 3); decide +kernel), by decide +kernel⟩
theorem oc_217_32 : ov_CL 217 32 1 179 := ⟨199, (1143, 1145, 39), (by show decode (ov_byt 217) 32 = Except.ok (Instr.invokevirtual 199, 3); decide +kernel), by decide +kernel⟩
theorem od_217_35 : decode (ov_byt 217) 35 = .ok (.iconst 1, 1) := by decide +kernel
theorem od_217_36 : decode (ov_byt 217) 36 = .ok (.istore_n 3, 1) := by decide +kernel
theorem od_217_37 : decode (ov_byt 217) 37 = .ok (.iconst 0, 1) := by decide +kernel
theorem od_217_38 : decode (ov_byt 217) 38 = .ok (.istore 4, 2) := by decide +kernel
theorem od_217_40 : decode (ov_byt 217) 40 = .ok (.iload 4, 2) := by decide +kernel
theorem od_217_42 : decode (ov_byt 217) 42 = .ok (.aload_n 0, 1) := by decide +kernel
theorem og_217_43 : ov_GF 217 43 8 30 := ⟨212, false, 901, by decide +kernel, by decide +kernel⟩
theorem od_217_49 : decode (ov_byt 217) 49 = .ok (.iload_n 3, 1) := by decide +kernel
theorem od_217_79 : decode (ov_byt 217) 79 = .ok (.iconst 0, 1) := by decide +kernel
theorem od_217_80 : decode (ov_byt 217) 80 = .ok (.istore_n 3, 1) := by decide +kernel
theorem od_217_81 : decode (ov_byt 217) 81 = .ok (.iinc 4 1, 3) := by decide +kernel
theorem od_217_84 : decode (ov_byt 217) 84 = .ok (.goto (-44), 3) := by decide +kernel
theorem od_217_53 : decode (ov_byt 217) 53 = .ok (.aload_n 0, 1) := by decide +kernel
theorem og_217_54 : ov_GF 217 54 8 34 := ⟨71, true, 905, by decide +kernel, by decide +kernel⟩
theorem od_217_57 : decode (ov_byt 217) 57 = .ok (.aload_n 0, 1) := by decide +kernel
theorem og_217_58 : ov_GF 217 58 8 31 := ⟨65, true, 902, by decide +kernel, by decide +kernel⟩
theorem od_217_61 : decode (ov_byt 217) 61 = .ok (.iload 4, 2) := by decide +kernel
theorem od_217_63 : decode (ov_byt 217) 63 = .ok (.iaload, 1) := by decide +kernel
theorem od_217_64 : decode (ov_byt 217) 64 = .ok (.iaload, 1) := by decide +kernel
theorem od_217_65 : decode (ov_byt 217) 65 = .ok (.aload_n 0, 1) := by decide +kernel
theorem og_217_66 : ov_GF 217 66 8 32 := ⟨68, true, 903, by decide +kernel, by decide +kernel⟩
theorem od_217_69 : decode (ov_byt 217) 69 = .ok (.iload 4, 2) := by decide +kernel
theorem od_217_71 : decode (ov_byt 217) 71 = .ok (.iaload, 1) := by decide +kernel
theorem od_217_75 : decode (ov_byt 217) 75 = .ok (.iconst 1, 1) := by decide +kernel
theorem od_217_76 : decode (ov_byt 217) 76 = .ok (.goto 4, 3) := by decide +kernel
theorem od_217_72 : decode (ov_byt 217) 72 = .ok (.if_icmp .ne 7, 3) := by decide +kernel
theorem od_217_50 : decode (ov_byt 217) 50 = .ok (.ifCond .eq 29, 3) := by decide +kernel
theorem od_217_46 : decode (ov_byt 217) 46 = .ok (.if_icmp .ge 41, 3) := by decide +kernel
theorem od_217_87 : decode (ov_byt 217) 87 = .ok (.iload_n 1, 1) := by decide +kernel
theorem od_217_88 : decode (ov_byt 217) 88 = .ok (.iload_n 3, 1) := by decide +kernel
theorem od_217_98 : decode (ov_byt 217) 98 = .ok (.iconst 0, 1) := by decide +kernel
theorem od_217_99 : decode (ov_byt 217) 99 = .ok (.ior, 1) := by decide +kernel
theorem od_217_100 : decode (ov_byt 217) 100 = .ok (.istore_n 1, 1) := by decide +kernel
theorem od_217_101 : decode (ov_byt 217) 101 = .ok (.iinc 2 1, 3) := by decide +kernel
theorem od_217_104 : decode (ov_byt 217) 104 = .ok (.goto (-95), 3) := by decide +kernel
theorem od_217_92 : decode (ov_byt 217) 92 = .ok (.iconst 1, 1) := by decide +kernel
theorem od_217_93 : decode (ov_byt 217) 93 = .ok (.iload_n 2, 1) := by decide +kernel
theorem od_217_94 : decode (ov_byt 217) 94 = .ok (.ishl, 1) := by decide +kernel
theorem od_217_95 : decode (ov_byt 217) 95 = .ok (.goto 4, 3) := by decide +kernel
theorem od_217_89 : decode (ov_byt 217) 89 = .ok (.ifCond .eq 9, 3) := by decide +kernel
theorem od_217_14 : decode (ov_byt 217) 14 = .ok (.if_icmp .ge 93, 3) := by decide +kernel
theorem od_217_107 : decode (ov_byt 217) 107 = .ok (.iload_n 1, 1) := by decide +kernel
theorem od_217_108 : decode (ov_byt 217) 108 = .ok (.ireturn, 1) := by decide +kernel
theorem od_221_0 : decode (ov_byt 221) 0 = .ok (.aload_n 0, 1) := by decide +kernel
theorem od_221_1 : decode (ov_byt 221) 1 = .ok (.iconst 0, 1) := by decide +kernel
theorem op_221_2 : ov_PF 221 2 8 0 := ⟨83, 871, by decide +kernel, by decide +kernel⟩
theorem od_221_5 : decode (ov_byt 221) 5 = .ok (.iload_n 1, 1) := by decide +kernel
theorem od_221_6 : decode (ov_byt 221) 6 = .ok (.i2l, 1) := by decide +kernel
theorem od_221_7 : decode (ov_byt 221) 7 = .ok (.lconst 0, 1) := by decide +kernel
theorem ok_221_8 : ∃ w, ov_find ov_k2t (321 * 32 + ov_oc 221) = some ((6 : Int64), w) := ⟨1313, by decide +kernel⟩
theorem od_221_8 : decode (ov_byt 221) 8 = .ok (.ldc2_w 321, 3) := by decide +kernel
theorem oc_221_11 : ov_CL 221 11 0 144 := ⟨90, (1006, 1007, 0), (by show decode (ov_byt 221) 11 = Except.ok (Instr.invokestatic 90, 3); decide +kernel), by decide +kernel⟩
theorem od_221_29 : decode (ov_byt 221) 29 = .ok (.bipush (-2), 2) := by decide +kernel
theorem od_221_31 : decode (ov_byt 221) 31 = .ok (.ireturn, 1) := by decide +kernel
theorem od_221_17 : decode (ov_byt 221) 17 = .ok (.iload_n 2, 1) := by decide +kernel
theorem od_221_18 : decode (ov_byt 221) 18 = .ok (.i2l, 1) := by decide +kernel
theorem od_221_19 : decode (ov_byt 221) 19 = .ok (.lconst 0, 1) := by decide +kernel
theorem ok_221_20 : ∃ w, ov_find ov_k2t (323 * 32 + ov_oc 221) = some ((10 : Int64), w) := ⟨1314, by decide +kernel⟩
theorem od_221_20 : decode (ov_byt 221) 20 = .ok (.ldc2_w 323, 3) := by decide +kernel
theorem oc_221_23 : ov_CL 221 23 0 144 := ⟨90, (1006, 1007, 0), (by show decode (ov_byt 221) 23 = Except.ok (Instr.invokestatic 90, 3); decide +kernel), by decide +kernel⟩
theorem od_221_32 : decode (ov_byt 221) 32 = .ok (.iconst 0, 1) := by decide +kernel
theorem od_221_33 : decode (ov_byt 221) 33 = .ok (.istore 4, 2) := by decide +kernel
theorem od_221_35 : decode (ov_byt 221) 35 = .ok (.iconst 0, 1) := by decide +kernel
theorem od_221_36 : decode (ov_byt 221) 36 = .ok (.istore 5, 2) := by decide +kernel
theorem od_221_38 : decode (ov_byt 221) 38 = .ok (.iload 5, 2) := by decide +kernel
theorem od_221_40 : decode (ov_byt 221) 40 = .ok (.bipush 6, 2) := by decide +kernel
theorem od_221_45 : decode (ov_byt 221) 45 = .ok (.iload 4, 2) := by decide +kernel
theorem od_221_47 : decode (ov_byt 221) 47 = .ok (.aload_n 0, 1) := by decide +kernel
theorem od_221_48 : decode (ov_byt 221) 48 = .ok (.aload_n 0, 1) := by decide +kernel
theorem og_221_49 : ov_GF 221 49 8 23 := ⟨46, true, 894, by decide +kernel, by decide +kernel⟩
theorem od_221_52 : decode (ov_byt 221) 52 = .ok (.iload 5, 2) := by decide +kernel
theorem oc_221_54 : ov_CL 221 54 1 183 := ⟨234, (1159, 1161, 40), (by show decode (ov_byt 221) 54 = Except.ok (Instr.invokevirtual 234, 3); decide +kernel), by decide +kernel⟩
theorem od_221_57 : decode (ov_byt 221) 57 = .ok (.bipush 10, 2) := by decide +kernel
theorem od_221_66 : decode (ov_byt 221) 66 = .ok (.iconst 0, 1) := by decide +kernel
theorem od_221_67 : decode (ov_byt 221) 67 = .ok (.iadd, 1) := by decide +kernel
theorem od_221_68 : decode (ov_byt 221) 68 = .ok (.istore 4, 2) := by decide +kernel
theorem od_221_70 : decode (ov_byt 221) 70 = .ok (.iinc 5 1, 3) := by decide +kernel
theorem od_221_73 : decode (ov_byt 221) 73 = .ok (.goto (-35), 3) := by decide +kernel
theorem od_221_62 : decode (ov_byt 221) 62 = .ok (.iconst 1, 1) := by decide +kernel
theorem od_221_63 : decode (ov_byt 221) 63 = .ok (.goto 4, 3) := by decide +kernel
theorem od_221_59 : decode (ov_byt 221) 59 = .ok (.if_icmp .lt 7, 3) := by decide +kernel
theorem od_221_42 : decode (ov_byt 221) 42 = .ok (.if_icmp .ge 34, 3) := by decide +kernel
theorem od_221_76 : decode (ov_byt 221) 76 = .ok (.iconst 0, 1) := by decide +kernel
theorem od_221_77 : decode (ov_byt 221) 77 = .ok (.istore 5, 2) := by decide +kernel
theorem od_221_79 : decode (ov_byt 221) 79 = .ok (.iconst 0, 1) := by decide +kernel
theorem od_221_80 : decode (ov_byt 221) 80 = .ok (.istore 6, 2) := by decide +kernel
theorem od_221_82 : decode (ov_byt 221) 82 = .ok (.iload 6, 2) := by decide +kernel
theorem od_221_84 : decode (ov_byt 221) 84 = .ok (.iconst 1, 1) := by decide +kernel
theorem od_221_85 : decode (ov_byt 221) 85 = .ok (.iload 4, 2) := by decide +kernel
theorem od_221_87 : decode (ov_byt 221) 87 = .ok (.ishl, 1) := by decide +kernel
theorem od_221_91 : decode (ov_byt 221) 91 = .ok (.iload 6, 2) := by decide +kernel
theorem oc_221_93 : ov_CL 221 93 0 191 := ⟨252, (1192, 1193, 0), (by show decode (ov_byt 221) 93 = Except.ok (Instr.invokestatic 252, 3); decide +kernel), by decide +kernel⟩
theorem od_221_96 : decode (ov_byt 221) 96 = .ok (.istore 7, 2) := by decide +kernel
theorem od_221_98 : decode (ov_byt 221) 98 = .ok (.iload 5, 2) := by decide +kernel
theorem od_221_100 : decode (ov_byt 221) 100 = .ok (.iload 7, 2) := by decide +kernel
theorem od_221_102 : decode (ov_byt 221) 102 = .ok (.iload_n 1, 1) := by decide +kernel
theorem od_221_131 : decode (ov_byt 221) 131 = .ok (.iconst 0, 1) := by decide +kernel
theorem od_221_132 : decode (ov_byt 221) 132 = .ok (.iadd, 1) := by decide +kernel
theorem od_221_133 : decode (ov_byt 221) 133 = .ok (.istore 5, 2) := by decide +kernel
theorem od_221_135 : decode (ov_byt 221) 135 = .ok (.iinc 6 1, 3) := by decide +kernel
theorem od_221_138 : decode (ov_byt 221) 138 = .ok (.goto (-56), 3) := by decide +kernel
theorem od_221_106 : decode (ov_byt 221) 106 = .ok (.iload_n 2, 1) := by decide +kernel
theorem od_221_107 : decode (ov_byt 221) 107 = .ok (.i2l, 1) := by decide +kernel
theorem od_221_108 : decode (ov_byt 221) 108 = .ok (.iload 7, 2) := by decide +kernel
theorem oc_221_110 : ov_CL 221 110 0 209 := ⟨290, (1264, 1265, 0), (by show decode (ov_byt 221) 110 = Except.ok (Instr.invokestatic 290, 3); decide +kernel), by decide +kernel⟩
theorem od_221_113 : decode (ov_byt 221) 113 = .ok (.bipush 10, 2) := by decide +kernel
theorem od_221_115 : decode (ov_byt 221) 115 = .ok (.iload_n 2, 1) := by decide +kernel
theorem od_221_116 : decode (ov_byt 221) 116 = .ok (.isub, 1) := by decide +kernel
theorem od_221_117 : decode (ov_byt 221) 117 = .ok (.i2l, 1) := by decide +kernel
theorem od_221_118 : decode (ov_byt 221) 118 = .ok (.iload 4, 2) := by decide +kernel
theorem od_221_120 : decode (ov_byt 221) 120 = .ok (.iload 7, 2) := by decide +kernel
theorem od_221_122 : decode (ov_byt 221) 122 = .ok (.isub, 1) := by decide +kernel
theorem oc_221_123 : ov_CL 221 123 0 209 := ⟨290, (1264, 1265, 0), (by show decode (ov_byt 221) 123 = Except.ok (Instr.invokestatic 290, 3); decide +kernel), by decide +kernel⟩
theorem od_221_126 : decode (ov_byt 221) 126 = .ok (.lmul, 1) := by decide +kernel
theorem od_221_127 : decode (ov_byt 221) 127 = .ok (.l2i, 1) := by decide +kernel
theorem od_221_128 : decode (ov_byt 221) 128 = .ok (.goto 4, 3) := by decide +kernel
theorem od_221_103 : decode (ov_byt 221) 103 = .ok (.if_icmp .lt 28, 3) := by decide +kernel
theorem od_221_88 : decode (ov_byt 221) 88 = .ok (.if_icmp .ge 53, 3) := by decide +kernel
theorem od_221_141 : decode (ov_byt 221) 141 = .ok (.iload 5, 2) := by decide +kernel
theorem ok_221_143 : ∃ w, ov_find ov_k2t (323 * 32 + ov_oc 221) = some ((10 : Int64), w) := ⟨1314, by decide +kernel⟩
theorem od_221_143 : decode (ov_byt 221) 143 = .ok (.ldc2_w 323, 3) := by decide +kernel
theorem od_221_146 : decode (ov_byt 221) 146 = .ok (.iload 4, 2) := by decide +kernel
theorem oc_221_148 : ov_CL 221 148 0 209 := ⟨290, (1264, 1265, 0), (by show decode (ov_byt 221) 148 = Except.ok (Instr.invokestatic 290, 3); decide +kernel), by decide +kernel⟩
theorem od_221_151 : decode (ov_byt 221) 151 = .ok (.l2i, 1) := by decide +kernel
theorem od_221_152 : decode (ov_byt 221) 152 = .ok (.iload_n 3, 1) := by decide +kernel
theorem oc_221_153 : ov_CL 221 153 0 213 := ⟨303, (1278, 1279, 0), (by show decode (ov_byt 221) 153 = Except.ok (Instr.invokestatic 303, 3); decide +kernel), by decide +kernel⟩
theorem od_221_156 : decode (ov_byt 221) 156 = .ok (.ireturn, 1) := by decide +kernel
theorem od_221_26 : decode (ov_byt 221) 26 = .ok (.ifCond .ne 6, 3) := by decide +kernel
theorem od_221_14 : decode (ov_byt 221) 14 = .ok (.ifCond .eq 15, 3) := by decide +kernel
theorem od_18_0 : decode (ov_byt 18) 0 = .ok (.aload_n 0, 1) := by decide +kernel
theorem oc_18_1 : ov_CL 18 1 1 19 := ⟨30, (327, 329, 0), (by show decode (ov_byt 18) 1 = Except.ok (Instr.invokevirtual 30, 3); decide +kernel), by decide +kernel⟩
theorem od_18_4 : decode (ov_byt 18) 4 = .ok (.aload_n 1, 1) := by decide +kernel
theorem od_18_5 : decode (ov_byt 18) 5 = .ok (.iconst 0, 1) := by decide +kernel
theorem oc_18_6 : ov_CL 18 6 1 20 := ⟨33, (331, 332, 333), (by show decode (ov_byt 18) 6 = Except.ok (Instr.invokevirtual 33, 3); decide +kernel), by decide +kernel⟩
theorem od_18_9 : decode (ov_byt 18) 9 = .ok (.bipush 69, 2) := by decide +kernel
theorem od_18_16 : decode (ov_byt 18) 16 = .ok (.iconst 1, 1) := by decide +kernel
theorem od_18_17 : decode (ov_byt 18) 17 = .ok (.istore_n 2, 1) := by decide +kernel
theorem od_18_18 : decode (ov_byt 18) 18 = .ok (.iload_n 2, 1) := by decide +kernel
theorem od_18_19 : decode (ov_byt 18) 19 = .ok (.aload_n 1, 1) := by decide +kernel
theorem oc_18_20 : ov_CL 18 20 1 14 := ⟨39, (335, 308, 309), (by show decode (ov_byt 18) 20 = Except.ok (Instr.invokevirtual 39, 3); decide +kernel), by decide +kernel⟩
theorem od_18_26 : decode (ov_byt 18) 26 = .ok (.aload_n 1, 1) := by decide +kernel
theorem od_18_27 : decode (ov_byt 18) 27 = .ok (.iload_n 2, 1) := by decide +kernel
theorem oc_18_28 : ov_CL 18 28 1 20 := ⟨33, (331, 332, 333), (by show decode (ov_byt 18) 28 = Except.ok (Instr.invokevirtual 33, 3); decide +kernel), by decide +kernel⟩
theorem od_18_31 : decode (ov_byt 18) 31 = .ok (.istore_n 3, 1) := by decide +kernel
theorem od_18_32 : decode (ov_byt 18) 32 = .ok (.iload_n 3, 1) := by decide +kernel
theorem od_18_33 : decode (ov_byt 18) 33 = .ok (.bipush 68, 2) := by decide +kernel
theorem od_18_44 : decode (ov_byt 18) 44 = .ok (.iconst 2, 1) := by decide +kernel
theorem od_18_45 : decode (ov_byt 18) 45 = .ok (.goto 4, 3) := by decide +kernel
theorem od_18_49 : decode (ov_byt 18) 49 = .ok (.istore 4, 2) := by decide +kernel
theorem od_18_51 : decode (ov_byt 18) 51 = .ok (.aload_n 0, 1) := by decide +kernel
theorem od_18_52 : decode (ov_byt 18) 52 = .ok (.iload_n 3, 1) := by decide +kernel
theorem od_18_53 : decode (ov_byt 18) 53 = .ok (.aload_n 1, 1) := by decide +kernel
theorem od_18_54 : decode (ov_byt 18) 54 = .ok (.iload_n 2, 1) := by decide +kernel
theorem od_18_55 : decode (ov_byt 18) 55 = .ok (.iconst 1, 1) := by decide +kernel
theorem od_18_56 : decode (ov_byt 18) 56 = .ok (.iadd, 1) := by decide +kernel
theorem oc_18_57 : ov_CL 18 57 1 20 := ⟨33, (331, 332, 333), (by show decode (ov_byt 18) 57 = Except.ok (Instr.invokevirtual 33, 3); decide +kernel), by decide +kernel⟩
theorem od_18_60 : decode (ov_byt 18) 60 = .ok (.aload_n 1, 1) := by decide +kernel
theorem od_18_61 : decode (ov_byt 18) 61 = .ok (.iload_n 2, 1) := by decide +kernel
theorem od_18_62 : decode (ov_byt 18) 62 = .ok (.iconst 2, 1) := by decide +kernel
theorem od_18_63 : decode (ov_byt 18) 63 = .ok (.iadd, 1) := by decide +kernel
theorem oc_18_64 : ov_CL 18 64 1 20 := ⟨33, (331, 332, 333), (by show decode (ov_byt 18) 64 = Except.ok (Instr.invokevirtual 33, 3); decide +kernel), by decide +kernel⟩
theorem oc_18_67 : ov_CL 18 67 1 21 := ⟨43, (336, 338, 1), (by show decode (ov_byt 18) 67 = Except.ok (Instr.invokevirtual 43, 3); decide +kernel), by decide +kernel⟩
theorem od_18_70 : decode (ov_byt 18) 70 = .ok (.istore 5, 2) := by decide +kernel
theorem od_18_72 : decode (ov_byt 18) 72 = .ok (.iload 5, 2) := by decide +kernel
theorem od_18_74 : decode (ov_byt 18) 74 = .ok (.iload 4, 2) := by decide +kernel
theorem od_18_84 : decode (ov_byt 18) 84 = .ok (.iload_n 2, 1) := by decide +kernel
theorem od_18_85 : decode (ov_byt 18) 85 = .ok (.iload 4, 2) := by decide +kernel
theorem od_18_87 : decode (ov_byt 18) 87 = .ok (.iadd, 1) := by decide +kernel
theorem od_18_88 : decode (ov_byt 18) 88 = .ok (.istore_n 2, 1) := by decide +kernel
theorem od_18_89 : decode (ov_byt 18) 89 = .ok (.goto (-71), 3) := by decide +kernel
theorem od_18_79 : decode (ov_byt 18) 79 = .ok (.iload_n 2, 1) := by decide +kernel
theorem od_18_80 : decode (ov_byt 18) 80 = .ok (.iload 5, 2) := by decide +kernel
theorem od_18_82 : decode (ov_byt 18) 82 = .ok (.iadd, 1) := by decide +kernel
theorem od_18_83 : decode (ov_byt 18) 83 = .ok (.ireturn, 1) := by decide +kernel
theorem od_18_76 : decode (ov_byt 18) 76 = .ok (.if_icmp .ge 8, 3) := by decide +kernel
theorem od_18_38 : decode (ov_byt 18) 38 = .ok (.iload_n 3, 1) := by decide +kernel
theorem od_18_39 : decode (ov_byt 18) 39 = .ok (.bipush 70, 2) := by decide +kernel
theorem od_18_48 : decode (ov_byt 18) 48 = .ok (.iconst 3, 1) := by decide +kernel
theorem od_18_41 : decode (ov_byt 18) 41 = .ok (.if_icmp .ne 7, 3) := by decide +kernel
theorem od_18_35 : decode (ov_byt 18) 35 = .ok (.if_icmp .eq 9, 3) := by decide +kernel
theorem od_18_23 : decode (ov_byt 18) 23 = .ok (.if_icmp .ge 69, 3) := by decide +kernel
theorem od_18_92 : decode (ov_byt 18) 92 = .ok (.bipush (-9), 2) := by decide +kernel
theorem od_18_94 : decode (ov_byt 18) 94 = .ok (.ireturn, 1) := by decide +kernel
theorem od_18_14 : decode (ov_byt 18) 14 = .ok (.iconst 0, 1) := by decide +kernel
theorem od_18_15 : decode (ov_byt 18) 15 = .ok (.ireturn, 1) := by decide +kernel
theorem od_18_11 : decode (ov_byt 18) 11 = .ok (.if_icmp .eq 5, 3) := by decide +kernel
theorem od_33_0 : decode (ov_byt 33) 0 = .ok (.iconst 0, 1) := by decide +kernel
theorem od_33_1 : decode (ov_byt 33) 1 = .ok (.istore_n 1, 1) := by decide +kernel
theorem od_33_2 : decode (ov_byt 33) 2 = .ok (.iconst 0, 1) := by decide +kernel
theorem od_33_3 : decode (ov_byt 33) 3 = .ok (.istore_n 2, 1) := by decide +kernel
theorem od_33_4 : decode (ov_byt 33) 4 = .ok (.iload_n 2, 1) := by decide +kernel
theorem od_33_5 : decode (ov_byt 33) 5 = .ok (.aload_n 0, 1) := by decide +kernel
theorem og_33_6 : ov_GF 33 6 3 0 := ⟨18, true, 163, by decide +kernel, by decide +kernel⟩
theorem og_33_9 : ov_GF 33 9 2 2 := ⟨54, false, 108, by decide +kernel, by decide +kernel⟩
theorem od_33_15 : decode (ov_byt 33) 15 = .ok (.aload_n 0, 1) := by decide +kernel
theorem od_33_16 : decode (ov_byt 33) 16 = .ok (.iload_n 2, 1) := by decide +kernel
theorem oc_33_17 : ov_CL 33 17 1 34 := ⟨57, (388, 389, 390), (by show decode (ov_byt 33) 17 = Except.ok (Instr.invokevirtual 57, 3); decide +kernel), by decide +kernel⟩
theorem od_33_31 : decode (ov_byt 33) 31 = .ok (.iload_n 1, 1) := by decide +kernel
theorem od_33_32 : decode (ov_byt 33) 32 = .ok (.istore_n 1, 1) := by decide +kernel
theorem od_33_33 : decode (ov_byt 33) 33 = .ok (.iinc 2 1, 3) := by decide +kernel
theorem od_33_36 : decode (ov_byt 33) 36 = .ok (.goto (-32), 3) := by decide +kernel
theorem od_33_23 : decode (ov_byt 33) 23 = .ok (.iload_n 1, 1) := by decide +kernel
theorem od_33_24 : decode (ov_byt 33) 24 = .ok (.iload_n 2, 1) := by decide +kernel
theorem oc_33_25 : ov_CL 33 25 0 27 := ⟨60, (397, 361, 0), (by show decode (ov_byt 33) 25 = Except.ok (Instr.invokestatic 60, 3); decide +kernel), by decide +kernel⟩
theorem od_33_28 : decode (ov_byt 33) 28 = .ok (.goto 4, 3) := by decide +kernel
theorem od_33_20 : decode (ov_byt 33) 20 = .ok (.ifCond .eq 11, 3) := by decide +kernel
theorem od_33_12 : decode (ov_byt 33) 12 = .ok (.if_icmp .ge 27, 3) := by decide +kernel
theorem od_33_39 : decode (ov_byt 33) 39 = .ok (.iload_n 1, 1) := by decide +kernel
theorem od_33_40 : decode (ov_byt 33) 40 = .ok (.ireturn, 1) := by decide +kernel
theorem od_37_0 : decode (ov_byt 37) 0 = .ok (.aload_n 0, 1) := by decide +kernel
theorem od_37_1 : decode (ov_byt 37) 1 = .ok (.bipush 63, 2) := by decide +kernel
theorem oc_37_3 : ov_CL 37 3 1 38 := ⟨92, (406, 408, 7), (by show decode (ov_byt 37) 3 = Except.ok (Instr.invokevirtual 92, 3); decide +kernel), by decide +kernel⟩
theorem od_37_6 : decode (ov_byt 37) 6 = .ok (.istore_n 1, 1) := by decide +kernel
theorem ok_37_7 : ∃ w, ov_find ov_kt (82 * 32 + ov_oc 37) = some ((262143 : Int32), w) := ⟨420, by decide +kernel⟩
theorem od_37_7 : decode (ov_byt 37) 7 = .ok (.ldc 82, 2) := by decide +kernel
theorem od_37_9 : decode (ov_byt 37) 9 = .ok (.iload_n 1, 1) := by decide +kernel
theorem od_37_10 : decode (ov_byt 37) 10 = .ok (.bipush 6, 2) := by decide +kernel
theorem od_37_12 : decode (ov_byt 37) 12 = .ok (.ishl, 1) := by decide +kernel
theorem od_37_13 : decode (ov_byt 37) 13 = .ok (.iload_n 1, 1) := by decide +kernel
theorem od_37_14 : decode (ov_byt 37) 14 = .ok (.bipush 12, 2) := by decide +kernel
theorem od_37_16 : decode (ov_byt 37) 16 = .ok (.ishl, 1) := by decide +kernel
theorem od_37_17 : decode (ov_byt 37) 17 = .ok (.ior, 1) := by decide +kernel
theorem od_37_18 : decode (ov_byt 37) 18 = .ok (.iconst (-1), 1) := by decide +kernel
theorem od_37_19 : decode (ov_byt 37) 19 = .ok (.ixor, 1) := by decide +kernel
theorem od_37_20 : decode (ov_byt 37) 20 = .ok (.iand, 1) := by decide +kernel
theorem od_37_21 : decode (ov_byt 37) 21 = .ok (.ireturn, 1) := by decide +kernel
theorem od_42_0 : decode (ov_byt 42) 0 = .ok (.aload_n 0, 1) := by decide +kernel
theorem oc_42_1 : ov_CL 42 1 1 43 := ⟨83, (429, 430, 431), (by show decode (ov_byt 42) 1 = Except.ok (Instr.invokevirtual 83, 3); decide +kernel), by decide +kernel⟩
theorem od_42_4 : decode (ov_byt 42) 4 = .ok (.aload_n 0, 1) := by decide +kernel
theorem od_42_5 : decode (ov_byt 42) 5 = .ok (.iload_n 1, 1) := by decide +kernel
theorem oc_42_6 : ov_CL 42 6 1 38 := ⟨92, (406, 408, 7), (by show decode (ov_byt 42) 6 = Except.ok (Instr.invokevirtual 92, 3); decide +kernel), by decide +kernel⟩
theorem od_42_9 : decode (ov_byt 42) 9 = .ok (.ior, 1) := by decide +kernel
theorem od_42_10 : decode (ov_byt 42) 10 = .ok (.istore_n 2, 1) := by decide +kernel
theorem od_42_11 : decode (ov_byt 42) 11 = .ok (.iconst 0, 1) := by decide +kernel
theorem od_42_12 : decode (ov_byt 42) 12 = .ok (.istore_n 3, 1) := by decide +kernel
theorem od_42_13 : decode (ov_byt 42) 13 = .ok (.iconst 0, 1) := by decide +kernel
theorem od_42_14 : decode (ov_byt 42) 14 = .ok (.istore 4, 2) := by decide +kernel
theorem od_42_16 : decode (ov_byt 42) 16 = .ok (.iload 4, 2) := by decide +kernel
theorem od_42_18 : decode (ov_byt 42) 18 = .ok (.aload_n 0, 1) := by decide +kernel
theorem og_42_19 : ov_GF 42 19 3 0 := ⟨18, true, 163, by decide +kernel, by decide +kernel⟩
theorem og_42_22 : ov_GF 42 22 2 3 := ⟨105, false, 111, by decide +kernel, by decide +kernel⟩
theorem od_42_28 : decode (ov_byt 42) 28 = .ok (.aload_n 0, 1) := by decide +kernel
theorem og_42_29 : ov_GF 42 29 3 0 := ⟨18, true, 163, by decide +kernel, by decide +kernel⟩
theorem od_42_32 : decode (ov_byt 42) 32 = .ok (.iload 4, 2) := by decide +kernel
theorem oc_42_34 : ov_CL 42 34 1 44 := ⟨108, (433, 434, 435), (by show decode (ov_byt 42) 34 = Except.ok (Instr.invokevirtual 108, 3); decide +kernel), by decide +kernel⟩
theorem od_42_37 : decode (ov_byt 42) 37 = .ok (.istore 5, 2) := by decide +kernel
theorem od_42_39 : decode (ov_byt 42) 39 = .ok (.aload_n 0, 1) := by decide +kernel
theorem og_42_40 : ov_GF 42 40 3 0 := ⟨18, true, 163, by decide +kernel, by decide +kernel⟩
theorem od_42_43 : decode (ov_byt 42) 43 = .ok (.iload 4, 2) := by decide +kernel
theorem oc_42_45 : ov_CL 42 45 1 46 := ⟨111, (441, 442, 443), (by show decode (ov_byt 42) 45 = Except.ok (Instr.invokevirtual 111, 3); decide +kernel), by decide +kernel⟩
theorem od_42_48 : decode (ov_byt 42) 48 = .ok (.istore 6, 2) := by decide +kernel
theorem od_42_50 : decode (ov_byt 42) 50 = .ok (.aload_n 0, 1) := by decide +kernel
theorem og_42_51 : ov_GF 42 51 3 3 := ⟨31, false, 166, by decide +kernel, by decide +kernel⟩
theorem od_42_54 : decode (ov_byt 42) 54 = .ok (.iload 4, 2) := by decide +kernel
theorem oc_42_56 : ov_CL 42 56 0 23 := ⟨71, (418, 346, 0), (by show decode (ov_byt 42) 56 = Except.ok (Instr.invokestatic 71, 3); decide +kernel), by decide +kernel⟩
theorem od_42_84 : decode (ov_byt 42) 84 = .ok (.iconst 0, 1) := by decide +kernel
theorem od_42_85 : decode (ov_byt 42) 85 = .ok (.istore 7, 2) := by decide +kernel
theorem od_42_87 : decode (ov_byt 42) 87 = .ok (.iload 7, 2) := by decide +kernel
theorem od_42_111 : decode (ov_byt 42) 111 = .ok (.iinc 4 1, 3) := by decide +kernel
theorem od_42_114 : decode (ov_byt 42) 114 = .ok (.goto (-98), 3) := by decide +kernel
theorem od_42_92 : decode (ov_byt 42) 92 = .ok (.aload_n 0, 1) := by decide +kernel
theorem od_42_93 : decode (ov_byt 42) 93 = .ok (.iload 5, 2) := by decide +kernel
theorem od_42_95 : decode (ov_byt 42) 95 = .ok (.iload 6, 2) := by decide +kernel
theorem od_42_97 : decode (ov_byt 42) 97 = .ok (.iload_n 2, 1) := by decide +kernel
theorem oc_42_98 : ov_CL 42 98 1 47 := ⟨101, (445, 447, 9), (by show decode (ov_byt 42) 98 = Except.ok (Instr.invokevirtual 101, 3); decide +kernel), by decide +kernel⟩
theorem od_42_104 : decode (ov_byt 42) 104 = .ok (.iload_n 3, 1) := by decide +kernel
theorem od_42_105 : decode (ov_byt 42) 105 = .ok (.iload 4, 2) := by decide +kernel
theorem oc_42_107 : ov_CL 42 107 0 27 := ⟨60, (397, 361, 0), (by show decode (ov_byt 42) 107 = Except.ok (Instr.invokestatic 60, 3); decide +kernel), by decide +kernel⟩
theorem od_42_110 : decode (ov_byt 42) 110 = .ok (.istore_n 3, 1) := by decide +kernel
theorem od_42_101 : decode (ov_byt 42) 101 = .ok (.ifCond .eq 10, 3) := by decide +kernel
theorem od_42_89 : decode (ov_byt 42) 89 = .ok (.ifCond .eq 22, 3) := by decide +kernel
theorem od_42_62 : decode (ov_byt 42) 62 = .ok (.iload_n 1, 1) := by decide +kernel
theorem od_42_63 : decode (ov_byt 42) 63 = .ok (.iload 5, 2) := by decide +kernel
theorem oc_42_65 : ov_CL 42 65 0 23 := ⟨71, (418, 346, 0), (by show decode (ov_byt 42) 65 = Except.ok (Instr.invokestatic 71, 3); decide +kernel), by decide +kernel⟩
theorem od_42_71 : decode (ov_byt 42) 71 = .ok (.iload_n 1, 1) := by decide +kernel
theorem od_42_72 : decode (ov_byt 42) 72 = .ok (.iload 6, 2) := by decide +kernel
theorem oc_42_74 : ov_CL 42 74 0 23 := ⟨71, (418, 346, 0), (by show decode (ov_byt 42) 74 = Except.ok (Instr.invokestatic 71, 3); decide +kernel), by decide +kernel⟩
theorem od_42_80 : decode (ov_byt 42) 80 = .ok (.iconst 1, 1) := by decide +kernel
theorem od_42_81 : decode (ov_byt 42) 81 = .ok (.goto 4, 3) := by decide +kernel
theorem od_42_77 : decode (ov_byt 42) 77 = .ok (.ifCond .eq 7, 3) := by decide +kernel
theorem od_42_68 : decode (ov_byt 42) 68 = .ok (.ifCond .eq 16, 3) := by decide +kernel
theorem od_42_59 : decode (ov_byt 42) 59 = .ok (.ifCond .ne 25, 3) := by decide +kernel
theorem od_42_25 : decode (ov_byt 42) 25 = .ok (.if_icmp .ge 92, 3) := by decide +kernel
theorem od_42_117 : decode (ov_byt 42) 117 = .ok (.iload_n 3, 1) := by decide +kernel
theorem od_42_118 : decode (ov_byt 42) 118 = .ok (.ireturn, 1) := by decide +kernel
theorem od_65_0 : decode (ov_byt 65) 0 = .ok (.aload_n 0, 1) := by decide +kernel
theorem oc_65_1 : ov_CL 65 1 1 43 := ⟨83, (429, 430, 431), (by show decode (ov_byt 65) 1 = Except.ok (Instr.invokevirtual 83, 3); decide +kernel), by decide +kernel⟩
theorem od_65_4 : decode (ov_byt 65) 4 = .ok (.aload_n 0, 1) := by decide +kernel
theorem od_65_5 : decode (ov_byt 65) 5 = .ok (.bipush 63, 2) := by decide +kernel
theorem oc_65_7 : ov_CL 65 7 1 38 := ⟨92, (406, 408, 7), (by show decode (ov_byt 65) 7 = Except.ok (Instr.invokevirtual 92, 3); decide +kernel), by decide +kernel⟩
theorem od_65_10 : decode (ov_byt 65) 10 = .ok (.ior, 1) := by decide +kernel
theorem od_65_11 : decode (ov_byt 65) 11 = .ok (.istore_n 2, 1) := by decide +kernel
theorem od_65_12 : decode (ov_byt 65) 12 = .ok (.iconst 0, 1) := by decide +kernel
theorem od_65_13 : decode (ov_byt 65) 13 = .ok (.istore_n 3, 1) := by decide +kernel
theorem od_65_14 : decode (ov_byt 65) 14 = .ok (.iconst 0, 1) := by decide +kernel
theorem od_65_15 : decode (ov_byt 65) 15 = .ok (.istore 4, 2) := by decide +kernel
theorem od_65_17 : decode (ov_byt 65) 17 = .ok (.iload 4, 2) := by decide +kernel
theorem od_65_19 : decode (ov_byt 65) 19 = .ok (.aload_n 0, 1) := by decide +kernel
theorem og_65_20 : ov_GF 65 20 3 0 := ⟨18, true, 163, by decide +kernel, by decide +kernel⟩
theorem og_65_23 : ov_GF 65 23 2 2 := ⟨54, false, 108, by decide +kernel, by decide +kernel⟩
theorem od_65_29 : decode (ov_byt 65) 29 = .ok (.aload_n 0, 1) := by decide +kernel
theorem od_65_30 : decode (ov_byt 65) 30 = .ok (.iload_n 1, 1) := by decide +kernel
theorem od_65_31 : decode (ov_byt 65) 31 = .ok (.iload 4, 2) := by decide +kernel
theorem od_65_33 : decode (ov_byt 65) 33 = .ok (.iload_n 2, 1) := by decide +kernel
theorem oc_65_34 : ov_CL 65 34 1 47 := ⟨101, (445, 447, 9), (by show decode (ov_byt 65) 34 = Except.ok (Instr.invokevirtual 101, 3); decide +kernel), by decide +kernel⟩
theorem od_65_49 : decode (ov_byt 65) 49 = .ok (.iload_n 3, 1) := by decide +kernel
theorem od_65_50 : decode (ov_byt 65) 50 = .ok (.istore_n 3, 1) := by decide +kernel
theorem od_65_51 : decode (ov_byt 65) 51 = .ok (.iinc 4 1, 3) := by decide +kernel
theorem od_65_54 : decode (ov_byt 65) 54 = .ok (.goto (-37), 3) := by decide +kernel
theorem od_65_40 : decode (ov_byt 65) 40 = .ok (.iload_n 3, 1) := by decide +kernel
theorem od_65_41 : decode (ov_byt 65) 41 = .ok (.iload 4, 2) := by decide +kernel
theorem oc_65_43 : ov_CL 65 43 0 27 := ⟨60, (397, 361, 0), (by show decode (ov_byt 65) 43 = Except.ok (Instr.invokestatic 60, 3); decide +kernel), by decide +kernel⟩
theorem od_65_46 : decode (ov_byt 65) 46 = .ok (.goto 4, 3) := by decide +kernel
theorem od_65_37 : decode (ov_byt 65) 37 = .ok (.ifCond .eq 12, 3) := by decide +kernel
theorem od_65_26 : decode (ov_byt 65) 26 = .ok (.if_icmp .ge 31, 3) := by decide +kernel
theorem od_65_57 : decode (ov_byt 65) 57 = .ok (.iload_n 3, 1) := by decide +kernel
theorem od_65_58 : decode (ov_byt 65) 58 = .ok (.ireturn, 1) := by decide +kernel
theorem od_66_0 : decode (ov_byt 66) 0 = .ok (.aload_n 0, 1) := by decide +kernel
theorem og_66_1 : ov_GF 66 1 3 0 := ⟨18, true, 163, by decide +kernel, by decide +kernel⟩
theorem od_66_4 : decode (ov_byt 66) 4 = .ok (.iload_n 1, 1) := by decide +kernel
theorem oc_66_5 : ov_CL 66 5 1 64 := ⟨86, (526, 514, 515), (by show decode (ov_byt 66) 5 = Except.ok (Instr.invokevirtual 86, 3); decide +kernel), by decide +kernel⟩
theorem od_66_8 : decode (ov_byt 66) 8 = .ok (.iconst 1, 1) := by decide +kernel
theorem od_66_16 : decode (ov_byt 66) 16 = .ok (.aload_n 0, 1) := by decide +kernel
theorem oc_66_17 : ov_CL 66 17 1 53 := ⟨89, (527, 466, 467), (by show decode (ov_byt 66) 17 = Except.ok (Instr.invokevirtual 89, 3); decide +kernel), by decide +kernel⟩
theorem od_66_20 : decode (ov_byt 66) 20 = .ok (.ireturn, 1) := by decide +kernel
theorem od_66_12 : decode (ov_byt 66) 12 = .ok (.iconst 0, 1) := by decide +kernel
theorem od_66_13 : decode (ov_byt 66) 13 = .ok (.goto 7, 3) := by decide +kernel
theorem od_66_9 : decode (ov_byt 66) 9 = .ok (.if_icmp .ne 7, 3) := by decide +kernel
theorem od_72_0 : decode (ov_byt 72) 0 = .ok (.iconst 0, 1) := by decide +kernel
theorem od_72_1 : decode (ov_byt 72) 1 = .ok (.istore_n 2, 1) := by decide +kernel
theorem od_72_2 : decode (ov_byt 72) 2 = .ok (.iconst 0, 1) := by decide +kernel
theorem od_72_3 : decode (ov_byt 72) 3 = .ok (.istore_n 3, 1) := by decide +kernel
theorem od_72_4 : decode (ov_byt 72) 4 = .ok (.iload_n 3, 1) := by decide +kernel
theorem od_72_5 : decode (ov_byt 72) 5 = .ok (.aload_n 0, 1) := by decide +kernel
theorem og_72_6 : ov_GF 72 6 3 0 := ⟨18, true, 163, by decide +kernel, by decide +kernel⟩
theorem og_72_9 : ov_GF 72 9 2 2 := ⟨54, false, 108, by decide +kernel, by decide +kernel⟩
theorem od_72_15 : decode (ov_byt 72) 15 = .ok (.aload_n 0, 1) := by decide +kernel
theorem od_72_16 : decode (ov_byt 72) 16 = .ok (.iload_n 3, 1) := by decide +kernel
theorem oc_72_17 : ov_CL 72 17 1 34 := ⟨57, (388, 389, 390), (by show decode (ov_byt 72) 17 = Except.ok (Instr.invokevirtual 57, 3); decide +kernel), by decide +kernel⟩
theorem od_72_64 : decode (ov_byt 72) 64 = .ok (.iinc 3 1, 3) := by decide +kernel
theorem od_72_67 : decode (ov_byt 72) 67 = .ok (.goto (-63), 3) := by decide +kernel
theorem od_72_23 : decode (ov_byt 72) 23 = .ok (.aload_n 0, 1) := by decide +kernel
theorem od_72_24 : decode (ov_byt 72) 24 = .ok (.iload_n 3, 1) := by decide +kernel
theorem oc_72_25 : ov_CL 72 25 1 35 := ⟨48, (392, 393, 394), (by show decode (ov_byt 72) 25 = Except.ok (Instr.invokevirtual 48, 3); decide +kernel), by decide +kernel⟩
theorem od_72_28 : decode (ov_byt 72) 28 = .ok (.bipush 6, 2) := by decide +kernel
theorem od_72_30 : decode (ov_byt 72) 30 = .ok (.irem, 1) := by decide +kernel
theorem od_72_31 : decode (ov_byt 72) 31 = .ok (.iload_n 1, 1) := by decide +kernel
theorem od_72_35 : decode (ov_byt 72) 35 = .ok (.iload_n 2, 1) := by decide +kernel
theorem od_72_36 : decode (ov_byt 72) 36 = .ok (.aload_n 0, 1) := by decide +kernel
theorem og_72_37 : ov_GF 72 37 3 0 := ⟨18, true, 163, by decide +kernel, by decide +kernel⟩
theorem od_72_40 : decode (ov_byt 72) 40 = .ok (.iload_n 3, 1) := by decide +kernel
theorem oc_72_41 : ov_CL 72 41 1 63 := ⟨122, (557, 510, 511), (by show decode (ov_byt 72) 41 = Except.ok (Instr.invokevirtual 122, 3); decide +kernel), by decide +kernel⟩
theorem od_72_44 : decode (ov_byt 72) 44 = .ok (.aload_n 0, 1) := by decide +kernel
theorem og_72_45 : ov_GF 72 45 3 0 := ⟨18, true, 163, by decide +kernel, by decide +kernel⟩
theorem od_72_48 : decode (ov_byt 72) 48 = .ok (.iload_n 3, 1) := by decide +kernel
theorem oc_72_49 : ov_CL 72 49 1 64 := ⟨86, (526, 514, 515), (by show decode (ov_byt 72) 49 = Except.ok (Instr.invokevirtual 86, 3); decide +kernel), by decide +kernel⟩
theorem od_72_52 : decode (ov_byt 72) 52 = .ok (.iconst 3, 1) := by decide +kernel
theorem od_72_60 : decode (ov_byt 72) 60 = .ok (.iconst 0, 1) := by decide +kernel
theorem od_72_61 : decode (ov_byt 72) 61 = .ok (.iadd, 1) := by decide +kernel
theorem od_72_62 : decode (ov_byt 72) 62 = .ok (.iadd, 1) := by decide +kernel
theorem od_72_63 : decode (ov_byt 72) 63 = .ok (.istore_n 2, 1) := by decide +kernel
theorem od_72_56 : decode (ov_byt 72) 56 = .ok (.iconst 2, 1) := by decide +kernel
theorem od_72_57 : decode (ov_byt 72) 57 = .ok (.goto 4, 3) := by decide +kernel
theorem od_72_53 : decode (ov_byt 72) 53 = .ok (.if_icmp .ne 7, 3) := by decide +kernel
theorem od_72_32 : decode (ov_byt 72) 32 = .ok (.if_icmp .ne 32, 3) := by decide +kernel
theorem od_72_20 : decode (ov_byt 72) 20 = .ok (.ifCond .eq 44, 3) := by decide +kernel
theorem od_72_12 : decode (ov_byt 72) 12 = .ok (.if_icmp .ge 58, 3) := by decide +kernel
theorem od_72_70 : decode (ov_byt 72) 70 = .ok (.iload_n 2, 1) := by decide +kernel
theorem od_72_71 : decode (ov_byt 72) 71 = .ok (.ireturn, 1) := by decide +kernel
theorem od_74_0 : decode (ov_byt 74) 0 = .ok (.aload_n 0, 1) := by decide +kernel
theorem og_74_1 : ov_GF 74 1 3 0 := ⟨18, true, 163, by decide +kernel, by decide +kernel⟩
theorem od_74_4 : decode (ov_byt 74) 4 = .ok (.iload_n 2, 1) := by decide +kernel
theorem oc_74_5 : ov_CL 74 5 1 59 := ⟨125, (566, 490, 491), (by show decode (ov_byt 74) 5 = Except.ok (Instr.invokevirtual 125, 3); decide +kernel), by decide +kernel⟩
theorem od_74_8 : decode (ov_byt 74) 8 = .ok (.istore_n 3, 1) := by decide +kernel
theorem od_74_9 : decode (ov_byt 74) 9 = .ok (.aload_n 0, 1) := by decide +kernel
theorem og_74_10 : ov_GF 74 10 3 0 := ⟨18, true, 163, by decide +kernel, by decide +kernel⟩
theorem od_74_13 : decode (ov_byt 74) 13 = .ok (.iload_n 1, 1) := by decide +kernel
theorem oc_74_14 : ov_CL 74 14 1 29 := ⟨44, (396, 368, 369), (by show decode (ov_byt 74) 14 = Except.ok (Instr.invokevirtual 44, 3); decide +kernel), by decide +kernel⟩
theorem od_74_39 : decode (ov_byt 74) 39 = .ok (.iconst 0, 1) := by decide +kernel
theorem od_74_40 : decode (ov_byt 74) 40 = .ok (.ireturn, 1) := by decide +kernel
theorem od_74_20 : decode (ov_byt 74) 20 = .ok (.aload_n 0, 1) := by decide +kernel
theorem od_74_21 : decode (ov_byt 74) 21 = .ok (.iload_n 1, 1) := by decide +kernel
theorem oc_74_22 : ov_CL 74 22 1 34 := ⟨57, (388, 389, 390), (by show decode (ov_byt 74) 22 = Except.ok (Instr.invokevirtual 57, 3); decide +kernel), by decide +kernel⟩
theorem od_74_28 : decode (ov_byt 74) 28 = .ok (.aload_n 0, 1) := by decide +kernel
theorem oc_74_29 : ov_CL 74 29 1 53 := ⟨89, (527, 466, 467), (by show decode (ov_byt 74) 29 = Except.ok (Instr.invokevirtual 89, 3); decide +kernel), by decide +kernel⟩
theorem od_74_32 : decode (ov_byt 74) 32 = .ok (.iload_n 3, 1) := by decide +kernel
theorem oc_74_33 : ov_CL 74 33 0 23 := ⟨71, (418, 346, 0), (by show decode (ov_byt 74) 33 = Except.ok (Instr.invokestatic 71, 3); decide +kernel), by decide +kernel⟩
theorem od_74_41 : decode (ov_byt 74) 41 = .ok (.aload_n 0, 1) := by decide +kernel
theorem og_74_42 : ov_GF 74 42 3 1 := ⟨9, true, 164, by decide +kernel, by decide +kernel⟩
theorem od_74_45 : decode (ov_byt 74) 45 = .ok (.iload_n 1, 1) := by decide +kernel
theorem od_74_46 : decode (ov_byt 74) 46 = .ok (.iload_n 3, 1) := by decide +kernel
theorem od_74_47 : decode (ov_byt 74) 47 = .ok (.iastore, 1) := by decide +kernel
theorem od_74_48 : decode (ov_byt 74) 48 = .ok (.aload_n 0, 1) := by decide +kernel
theorem od_74_49 : decode (ov_byt 74) 49 = .ok (.dup, 1) := by decide +kernel
theorem og_74_50 : ov_GF 74 50 3 4 := ⟨35, false, 167, by decide +kernel, by decide +kernel⟩
theorem od_74_53 : decode (ov_byt 74) 53 = .ok (.iconst 1, 1) := by decide +kernel
theorem od_74_54 : decode (ov_byt 74) 54 = .ok (.iadd, 1) := by decide +kernel
theorem op_74_55 : ov_PF 74 55 3 4 := ⟨35, 167, by decide +kernel, by decide +kernel⟩
theorem od_74_58 : decode (ov_byt 74) 58 = .ok (.iconst 1, 1) := by decide +kernel
theorem od_74_59 : decode (ov_byt 74) 59 = .ok (.ireturn, 1) := by decide +kernel
theorem od_74_36 : decode (ov_byt 74) 36 = .ok (.ifCond .ne 5, 3) := by decide +kernel
theorem od_74_25 : decode (ov_byt 74) 25 = .ok (.ifCond .ne 14, 3) := by decide +kernel
theorem od_74_17 : decode (ov_byt 74) 17 = .ok (.ifCond .eq 22, 3) := by decide +kernel
theorem od_83_0 : decode (ov_byt 83) 0 = .ok (.aload_n 0, 1) := by decide +kernel
theorem og_83_1 : ov_GF 83 1 3 0 := ⟨18, true, 163, by decide +kernel, by decide +kernel⟩
theorem od_83_4 : decode (ov_byt 83) 4 = .ok (.iload_n 1, 1) := by decide +kernel
theorem oc_83_5 : ov_CL 83 5 1 7 := ⟨51, (503, 160, 161), (by show decode (ov_byt 83) 5 = Except.ok (Instr.invokevirtual 51, 3); decide +kernel), by decide +kernel⟩
theorem od_83_32 : decode (ov_byt 83) 32 = .ok (.iconst 0, 1) := by decide +kernel
theorem od_83_33 : decode (ov_byt 83) 33 = .ok (.ireturn, 1) := by decide +kernel
theorem od_83_11 : decode (ov_byt 83) 11 = .ok (.aload_n 0, 1) := by decide +kernel
theorem oc_83_12 : ov_CL 83 12 1 53 := ⟨89, (527, 466, 467), (by show decode (ov_byt 83) 12 = Except.ok (Instr.invokevirtual 89, 3); decide +kernel), by decide +kernel⟩
theorem od_83_15 : decode (ov_byt 83) 15 = .ok (.aload_n 0, 1) := by decide +kernel
theorem og_83_16 : ov_GF 83 16 3 0 := ⟨18, true, 163, by decide +kernel, by decide +kernel⟩
theorem oc_83_19 : ov_CL 83 19 1 84 := ⟨134, (611, 612, 613), (by show decode (ov_byt 83) 19 = Except.ok (Instr.invokevirtual 134, 3); decide +kernel), by decide +kernel⟩
theorem od_83_22 : decode (ov_byt 83) 22 = .ok (.iconst (-1), 1) := by decide +kernel
theorem od_83_23 : decode (ov_byt 83) 23 = .ok (.ixor, 1) := by decide +kernel
theorem od_83_24 : decode (ov_byt 83) 24 = .ok (.iand, 1) := by decide +kernel
theorem od_83_25 : decode (ov_byt 83) 25 = .ok (.iload_n 2, 1) := by decide +kernel
theorem oc_83_26 : ov_CL 83 26 0 23 := ⟨71, (418, 346, 0), (by show decode (ov_byt 83) 26 = Except.ok (Instr.invokestatic 71, 3); decide +kernel), by decide +kernel⟩
theorem od_83_34 : decode (ov_byt 83) 34 = .ok (.aload_n 0, 1) := by decide +kernel
theorem og_83_35 : ov_GF 83 35 3 2 := ⟨15, true, 165, by decide +kernel, by decide +kernel⟩
theorem od_83_38 : decode (ov_byt 83) 38 = .ok (.iload_n 1, 1) := by decide +kernel
theorem od_83_39 : decode (ov_byt 83) 39 = .ok (.iload_n 2, 1) := by decide +kernel
theorem od_83_40 : decode (ov_byt 83) 40 = .ok (.iastore, 1) := by decide +kernel
theorem od_83_41 : decode (ov_byt 83) 41 = .ok (.aload_n 0, 1) := by decide +kernel
theorem od_83_42 : decode (ov_byt 83) 42 = .ok (.dup, 1) := by decide +kernel
theorem og_83_43 : ov_GF 83 43 3 4 := ⟨35, false, 167, by decide +kernel, by decide +kernel⟩
theorem od_83_46 : decode (ov_byt 83) 46 = .ok (.iconst 1, 1) := by decide +kernel
theorem od_83_47 : decode (ov_byt 83) 47 = .ok (.iadd, 1) := by decide +kernel
theorem op_83_48 : ov_PF 83 48 3 4 := ⟨35, 167, by decide +kernel, by decide +kernel⟩
theorem od_83_51 : decode (ov_byt 83) 51 = .ok (.iconst 1, 1) := by decide +kernel
theorem od_83_52 : decode (ov_byt 83) 52 = .ok (.ireturn, 1) := by decide +kernel
theorem od_83_29 : decode (ov_byt 83) 29 = .ok (.ifCond .ne 5, 3) := by decide +kernel
theorem od_83_8 : decode (ov_byt 83) 8 = .ok (.ifCond .eq 24, 3) := by decide +kernel
theorem od_85_0 : decode (ov_byt 85) 0 = .ok (.aload_n 0, 1) := by decide +kernel
theorem og_85_1 : ov_GF 85 1 0 5 := ⟨41, true, 267, by decide +kernel, by decide +kernel⟩
theorem oc_85_4 : ov_CL 85 4 1 55 := ⟨134, (473, 474, 475), (by show decode (ov_byt 85) 4 = Except.ok (Instr.invokevirtual 134, 3); decide +kernel), by decide +kernel⟩
theorem od_85_13 : decode (ov_byt 85) 13 = .ok (.aload_n 0, 1) := by decide +kernel
theorem og_85_14 : ov_GF 85 14 0 3 := ⟨31, true, 265, by decide +kernel, by decide +kernel⟩
theorem od_85_17 : decode (ov_byt 85) 17 = .ok (.aload_n 0, 1) := by decide +kernel
theorem og_85_18 : ov_GF 85 18 0 5 := ⟨41, true, 267, by decide +kernel, by decide +kernel⟩
theorem oc_85_21 : ov_CL 85 21 1 86 := ⟨214, (620, 621, 622), (by show decode (ov_byt 85) 21 = Except.ok (Instr.invokevirtual 214, 3); decide +kernel), by decide +kernel⟩
theorem od_85_24 : decode (ov_byt 85) 24 = .ok (.aload_n 0, 1) := by decide +kernel
theorem og_85_25 : ov_GF 85 25 0 5 := ⟨41, true, 267, by decide +kernel, by decide +kernel⟩
theorem oc_85_28 : ov_CL 85 28 1 87 := ⟨217, (624, 625, 626), (by show decode (ov_byt 85) 28 = Except.ok (Instr.invokevirtual 217, 3); decide +kernel), by decide +kernel⟩
theorem od_85_31 : decode (ov_byt 85) 31 = .ok (.aload_n 0, 1) := by decide +kernel
theorem og_85_32 : ov_GF 85 32 0 5 := ⟨41, true, 267, by decide +kernel, by decide +kernel⟩
theorem oc_85_35 : ov_CL 85 35 1 88 := ⟨220, (628, 629, 630), (by show decode (ov_byt 85) 35 = Except.ok (Instr.invokevirtual 220, 3); decide +kernel), by decide +kernel⟩
theorem oc_85_38 : ov_CL 85 38 1 89 := ⟨223, (632, 633, 634), (by show decode (ov_byt 85) 38 = Except.ok (Instr.invokevirtual 223, 3); decide +kernel), by decide +kernel⟩
theorem od_85_41 : decode (ov_byt 85) 41 = .ok (.aload_n 0, 1) := by decide +kernel
theorem og_85_42 : ov_GF 85 42 0 5 := ⟨41, true, 267, by decide +kernel, by decide +kernel⟩
theorem oc_85_45 : ov_CL 85 45 1 92 := ⟨226, (643, 644, 645), (by show decode (ov_byt 85) 45 = Except.ok (Instr.invokevirtual 226, 3); decide +kernel), by decide +kernel⟩
theorem od_85_48 : decode (ov_byt 85) 48 = .ok (.aload_n 0, 1) := by decide +kernel
theorem og_85_49 : ov_GF 85 49 0 5 := ⟨41, true, 267, by decide +kernel, by decide +kernel⟩
theorem oc_85_52 : ov_CL 85 52 1 55 := ⟨134, (473, 474, 475), (by show decode (ov_byt 85) 52 = Except.ok (Instr.invokevirtual 134, 3); decide +kernel), by decide +kernel⟩
theorem od_85_55 : decode (ov_byt 85) 55 = .ok (.ireturn, 1) := by decide +kernel
theorem od_85_10 : decode (ov_byt 85) 10 = .ok (.bipush (-3), 2) := by decide +kernel
theorem od_85_12 : decode (ov_byt 85) 12 = .ok (.ireturn, 1) := by decide +kernel
theorem od_85_7 : decode (ov_byt 85) 7 = .ok (.ifCond .ne 6, 3) := by decide +kernel
theorem od_107_0 : decode (ov_byt 107) 0 = .ok (.aload_n 0, 1) := by decide +kernel
theorem oc_107_1 : ov_CL 107 1 1 53 := ⟨89, (527, 466, 467), (by show decode (ov_byt 107) 1 = Except.ok (Instr.invokevirtual 89, 3); decide +kernel), by decide +kernel⟩
theorem od_107_4 : decode (ov_byt 107) 4 = .ok (.istore_n 1, 1) := by decide +kernel
theorem od_107_5 : decode (ov_byt 107) 5 = .ok (.iconst 0, 1) := by decide +kernel
theorem od_107_6 : decode (ov_byt 107) 6 = .ok (.istore_n 2, 1) := by decide +kernel
theorem od_107_7 : decode (ov_byt 107) 7 = .ok (.iload_n 2, 1) := by decide +kernel
theorem od_107_8 : decode (ov_byt 107) 8 = .ok (.aload_n 0, 1) := by decide +kernel
theorem og_107_9 : ov_GF 107 9 3 0 := ⟨18, true, 163, by decide +kernel, by decide +kernel⟩
theorem og_107_12 : ov_GF 107 12 2 0 := ⟨153, false, 102, by decide +kernel, by decide +kernel⟩
theorem od_107_18 : decode (ov_byt 107) 18 = .ok (.iload_n 1, 1) := by decide +kernel
theorem od_107_19 : decode (ov_byt 107) 19 = .ok (.aload_n 0, 1) := by decide +kernel
theorem og_107_20 : ov_GF 107 20 3 0 := ⟨18, true, 163, by decide +kernel, by decide +kernel⟩
theorem od_107_23 : decode (ov_byt 107) 23 = .ok (.iload_n 2, 1) := by decide +kernel
theorem oc_107_24 : ov_CL 107 24 1 59 := ⟨125, (566, 490, 491), (by show decode (ov_byt 107) 24 = Except.ok (Instr.invokevirtual 125, 3); decide +kernel), by decide +kernel⟩
theorem oc_107_27 : ov_CL 107 27 0 23 := ⟨71, (418, 346, 0), (by show decode (ov_byt 107) 27 = Except.ok (Instr.invokestatic 71, 3); decide +kernel), by decide +kernel⟩
theorem od_107_35 : decode (ov_byt 107) 35 = .ok (.iinc 2 1, 3) := by decide +kernel
theorem od_107_38 : decode (ov_byt 107) 38 = .ok (.goto (-31), 3) := by decide +kernel
theorem od_107_33 : decode (ov_byt 107) 33 = .ok (.iload_n 2, 1) := by decide +kernel
theorem od_107_34 : decode (ov_byt 107) 34 = .ok (.ireturn, 1) := by decide +kernel
theorem od_107_30 : decode (ov_byt 107) 30 = .ok (.ifCond .eq 5, 3) := by decide +kernel
theorem od_107_15 : decode (ov_byt 107) 15 = .ok (.if_icmp .ge 26, 3) := by decide +kernel
theorem od_107_41 : decode (ov_byt 107) 41 = .ok (.bipush (-9), 2) := by decide +kernel
theorem od_107_43 : decode (ov_byt 107) 43 = .ok (.ireturn, 1) := by decide +kernel
theorem od_110_0 : decode (ov_byt 110) 0 = .ok (.aload_n 0, 1) := by decide +kernel
theorem og_110_1 : ov_GF 110 1 0 1 := ⟨19, true, 263, by decide +kernel, by decide +kernel⟩
theorem od_110_4 : decode (ov_byt 110) 4 = .ok (.iload_n 1, 1) := by decide +kernel
theorem oc_110_5 : ov_CL 110 5 1 45 := ⟨177, (545, 438, 439), (by show decode (ov_byt 110) 5 = Except.ok (Instr.invokevirtual 177, 3); decide +kernel), by decide +kernel⟩
theorem od_110_37 : decode (ov_byt 110) 37 = .ok (.iconst (-1), 1) := by decide +kernel
theorem od_110_38 : decode (ov_byt 110) 38 = .ok (.ireturn, 1) := by decide +kernel
theorem od_110_11 : decode (ov_byt 110) 11 = .ok (.aload_n 0, 1) := by decide +kernel
theorem og_110_12 : ov_GF 110 12 0 3 := ⟨31, true, 265, by decide +kernel, by decide +kernel⟩
theorem od_110_15 : decode (ov_byt 110) 15 = .ok (.aload_n 0, 1) := by decide +kernel
theorem og_110_16 : ov_GF 110 16 0 1 := ⟨19, true, 263, by decide +kernel, by decide +kernel⟩
theorem od_110_19 : decode (ov_byt 110) 19 = .ok (.iload_n 1, 1) := by decide +kernel
theorem oc_110_20 : ov_CL 110 20 1 44 := ⟨180, (546, 434, 435), (by show decode (ov_byt 110) 20 = Except.ok (Instr.invokevirtual 180, 3); decide +kernel), by decide +kernel⟩
theorem od_110_23 : decode (ov_byt 110) 23 = .ok (.aload_n 0, 1) := by decide +kernel
theorem og_110_24 : ov_GF 110 24 0 1 := ⟨19, true, 263, by decide +kernel, by decide +kernel⟩
theorem od_110_27 : decode (ov_byt 110) 27 = .ok (.iload_n 1, 1) := by decide +kernel
theorem oc_110_28 : ov_CL 110 28 1 46 := ⟨183, (547, 442, 443), (by show decode (ov_byt 110) 28 = Except.ok (Instr.invokevirtual 183, 3); decide +kernel), by decide +kernel⟩
theorem oc_110_31 : ov_CL 110 31 1 111 := ⟨271, (732, 733, 734), (by show decode (ov_byt 110) 31 = Except.ok (Instr.invokevirtual 271, 3); decide +kernel), by decide +kernel⟩
theorem od_110_34 : decode (ov_byt 110) 34 = .ok (.goto 4, 3) := by decide +kernel
theorem od_110_8 : decode (ov_byt 110) 8 = .ok (.ifCond .eq 29, 3) := by decide +kernel
theorem ok_127_0 : ∃ w, ov_find ov_kt (310 * 32 + ov_oc 127) = some ((262143 : Int32), w) := ⟨801, by decide +kernel⟩
theorem od_127_0 : decode (ov_byt 127) 0 = .ok (.ldc_w 310, 3) := by decide +kernel
theorem od_127_3 : decode (ov_byt 127) 3 = .ok (.aload_n 0, 1) := by decide +kernel
theorem og_127_4 : ov_GF 127 4 0 3 := ⟨31, true, 265, by decide +kernel, by decide +kernel⟩
theorem oc_127_7 : ov_CL 127 7 1 43 := ⟨311, (802, 430, 431), (by show decode (ov_byt 127) 7 = Except.ok (Instr.invokevirtual 311, 3); decide +kernel), by decide +kernel⟩
theorem od_127_10 : decode (ov_byt 127) 10 = .ok (.iconst (-1), 1) := by decide +kernel
theorem od_127_11 : decode (ov_byt 127) 11 = .ok (.ixor, 1) := by decide +kernel
theorem od_127_12 : decode (ov_byt 127) 12 = .ok (.iand, 1) := by decide +kernel
theorem od_127_13 : decode (ov_byt 127) 13 = .ok (.istore_n 1, 1) := by decide +kernel
theorem od_127_14 : decode (ov_byt 127) 14 = .ok (.iconst 0, 1) := by decide +kernel
theorem od_127_15 : decode (ov_byt 127) 15 = .ok (.istore_n 2, 1) := by decide +kernel
theorem od_127_16 : decode (ov_byt 127) 16 = .ok (.iconst 0, 1) := by decide +kernel
theorem od_127_17 : decode (ov_byt 127) 17 = .ok (.istore_n 3, 1) := by decide +kernel
theorem od_127_18 : decode (ov_byt 127) 18 = .ok (.iload_n 3, 1) := by decide +kernel
theorem od_127_19 : decode (ov_byt 127) 19 = .ok (.aload_n 0, 1) := by decide +kernel
theorem og_127_20 : ov_GF 127 20 0 1 := ⟨19, true, 263, by decide +kernel, by decide +kernel⟩
theorem og_127_23 : ov_GF 127 23 2 0 := ⟨103, false, 101, by decide +kernel, by decide +kernel⟩
theorem od_127_29 : decode (ov_byt 127) 29 = .ok (.aload_n 0, 1) := by decide +kernel
theorem og_127_30 : ov_GF 127 30 0 6 := ⟨48, true, 268, by decide +kernel, by decide +kernel⟩
theorem od_127_33 : decode (ov_byt 127) 33 = .ok (.aload_n 0, 1) := by decide +kernel
theorem og_127_34 : ov_GF 127 34 0 1 := ⟨19, true, 263, by decide +kernel, by decide +kernel⟩
theorem od_127_37 : decode (ov_byt 127) 37 = .ok (.iload_n 3, 1) := by decide +kernel
theorem oc_127_38 : ov_CL 127 38 1 59 := ⟨139, (489, 490, 491), (by show decode (ov_byt 127) 38 = Except.ok (Instr.invokevirtual 139, 3); decide +kernel), by decide +kernel⟩
theorem od_127_41 : decode (ov_byt 127) 41 = .ok (.iload_n 1, 1) := by decide +kernel
theorem oc_127_42 : ov_CL 127 42 1 128 := ⟨314, (803, 804, 805), (by show decode (ov_byt 127) 42 = Except.ok (Instr.invokevirtual 314, 3); decide +kernel), by decide +kernel⟩
theorem od_127_54 : decode (ov_byt 127) 54 = .ok (.iinc 3 1, 3) := by decide +kernel
theorem od_127_57 : decode (ov_byt 127) 57 = .ok (.goto (-39), 3) := by decide +kernel
theorem od_127_48 : decode (ov_byt 127) 48 = .ok (.iload_n 2, 1) := by decide +kernel
theorem od_127_49 : decode (ov_byt 127) 49 = .ok (.iload_n 3, 1) := by decide +kernel
theorem oc_127_50 : ov_CL 127 50 0 27 := ⟨304, (780, 361, 0), (by show decode (ov_byt 127) 50 = Except.ok (Instr.invokestatic 304, 3); decide +kernel), by decide +kernel⟩
theorem od_127_53 : decode (ov_byt 127) 53 = .ok (.istore_n 2, 1) := by decide +kernel
theorem od_127_45 : decode (ov_byt 127) 45 = .ok (.ifCond .eq 9, 3) := by decide +kernel
theorem od_127_26 : decode (ov_byt 127) 26 = .ok (.if_icmp .ge 34, 3) := by decide +kernel
theorem od_127_60 : decode (ov_byt 127) 60 = .ok (.iload_n 2, 1) := by decide +kernel
theorem od_127_61 : decode (ov_byt 127) 61 = .ok (.ireturn, 1) := by decide +kernel
theorem od_148_0 : decode (ov_byt 148) 0 = .ok (.aload_n 0, 1) := by decide +kernel
theorem og_148_1 : ov_GF 148 1 8 1 := ⟨7, true, 872, by decide +kernel, by decide +kernel⟩
theorem od_148_4 : decode (ov_byt 148) 4 = .ok (.aload_n 0, 1) := by decide +kernel
theorem og_148_5 : ov_GF 148 5 8 3 := ⟨104, false, 874, by decide +kernel, by decide +kernel⟩
theorem od_148_8 : decode (ov_byt 148) 8 = .ok (.iaload, 1) := by decide +kernel
theorem od_148_9 : decode (ov_byt 148) 9 = .ok (.istore_n 1, 1) := by decide +kernel
theorem od_148_10 : decode (ov_byt 148) 10 = .ok (.aload_n 0, 1) := by decide +kernel
theorem od_148_11 : decode (ov_byt 148) 11 = .ok (.dup, 1) := by decide +kernel
theorem og_148_12 : ov_GF 148 12 8 3 := ⟨104, false, 874, by decide +kernel, by decide +kernel⟩
theorem od_148_15 : decode (ov_byt 148) 15 = .ok (.iconst 1, 1) := by decide +kernel
theorem od_148_16 : decode (ov_byt 148) 16 = .ok (.iadd, 1) := by decide +kernel
theorem op_148_17 : ov_PF 148 17 8 3 := ⟨104, 874, by decide +kernel, by decide +kernel⟩
theorem od_148_20 : decode (ov_byt 148) 20 = .ok (.iload_n 1, 1) := by decide +kernel
theorem od_148_21 : decode (ov_byt 148) 21 = .ok (.bipush 68, 2) := by decide +kernel
theorem od_148_51 : decode (ov_byt 148) 51 = .ok (.iload_n 1, 1) := by decide +kernel
theorem od_148_52 : decode (ov_byt 148) 52 = .ok (.bipush 70, 2) := by decide +kernel
theorem od_148_70 : decode (ov_byt 148) 70 = .ok (.iload_n 1, 1) := by decide +kernel
