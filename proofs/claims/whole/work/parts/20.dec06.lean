theorem od_148_71 : decode (ov_byt 148) 71 = .ok (.bipush 80, 2) := by decide +kernel
theorem od_148_90 : decode (ov_byt 148) 90 = .ok (.iload_n 1, 1) := by decide +kernel
theorem od_148_91 : decode (ov_byt 148) 91 = .ok (.bipush 76, 2) := by decide +kernel
theorem od_148_118 : decode (ov_byt 148) 118 = .ok (.aload_n 0, 1) := by decide +kernel
theorem od_148_119 : decode (ov_byt 148) 119 = .ok (.dup, 1) := by decide +kernel
theorem og_148_120 : ov_GF 148 120 8 3 := ⟨104, false, 874, by decide +kernel, by decide +kernel⟩
theorem od_148_123 : decode (ov_byt 148) 123 = .ok (.iconst 1, 1) := by decide +kernel
theorem od_148_124 : decode (ov_byt 148) 124 = .ok (.isub, 1) := by decide +kernel
theorem op_148_125 : ov_PF 148 125 8 3 := ⟨104, 874, by decide +kernel, by decide +kernel⟩
theorem od_148_128 : decode (ov_byt 148) 128 = .ok (.iconst 0, 1) := by decide +kernel
theorem od_148_129 : decode (ov_byt 148) 129 = .ok (.ireturn, 1) := by decide +kernel
theorem od_148_96 : decode (ov_byt 148) 96 = .ok (.aload_n 0, 1) := by decide +kernel
theorem og_148_97 : ov_GF 148 97 8 20 := ⟨132, false, 891, by decide +kernel, by decide +kernel⟩
theorem od_148_100 : decode (ov_byt 148) 100 = .ok (.bipush 6, 2) := by decide +kernel
theorem od_148_105 : decode (ov_byt 148) 105 = .ok (.aload_n 0, 1) := by decide +kernel
theorem og_148_106 : ov_GF 148 106 8 17 := ⟨129, false, 888, by decide +kernel, by decide +kernel⟩
theorem od_148_109 : decode (ov_byt 148) 109 = .ok (.iconst 1, 1) := by decide +kernel
theorem od_148_113 : decode (ov_byt 148) 113 = .ok (.aload_n 0, 1) := by decide +kernel
theorem oc_148_114 : ov_CL 148 114 1 156 := ⟨145, (1053, 1055, 24), (by show decode (ov_byt 148) 114 = Except.ok (Instr.invokevirtual 145, 3); decide +kernel), by decide +kernel⟩
theorem od_148_117 : decode (ov_byt 148) 117 = .ok (.ireturn, 1) := by decide +kernel
theorem od_148_110 : decode (ov_byt 148) 110 = .ok (.if_icmp .le 8, 3) := by decide +kernel
theorem od_148_102 : decode (ov_byt 148) 102 = .ok (.if_icmp .ge 16, 3) := by decide +kernel
theorem od_148_93 : decode (ov_byt 148) 93 = .ok (.if_icmp .ne 25, 3) := by decide +kernel
theorem od_148_76 : decode (ov_byt 148) 76 = .ok (.aload_n 0, 1) := by decide +kernel
theorem og_148_77 : ov_GF 148 77 8 17 := ⟨129, false, 888, by decide +kernel, by decide +kernel⟩
theorem od_148_80 : decode (ov_byt 148) 80 = .ok (.bipush 6, 2) := by decide +kernel
theorem od_148_85 : decode (ov_byt 148) 85 = .ok (.aload_n 0, 1) := by decide +kernel
theorem oc_148_86 : ov_CL 148 86 1 154 := ⟨142, (1045, 1047, 22), (by show decode (ov_byt 148) 86 = Except.ok (Instr.invokevirtual 142, 3); decide +kernel), by decide +kernel⟩
theorem od_148_89 : decode (ov_byt 148) 89 = .ok (.ireturn, 1) := by decide +kernel
theorem od_148_82 : decode (ov_byt 148) 82 = .ok (.if_icmp .ge 8, 3) := by decide +kernel
theorem od_148_73 : decode (ov_byt 148) 73 = .ok (.if_icmp .ne 17, 3) := by decide +kernel
theorem od_148_57 : decode (ov_byt 148) 57 = .ok (.aload_n 0, 1) := by decide +kernel
theorem og_148_58 : ov_GF 148 58 8 15 := ⟨110, false, 886, by decide +kernel, by decide +kernel⟩
theorem od_148_61 : decode (ov_byt 148) 61 = .ok (.iconst 4, 1) := by decide +kernel
theorem od_148_65 : decode (ov_byt 148) 65 = .ok (.aload_n 0, 1) := by decide +kernel
theorem oc_148_66 : ov_CL 148 66 1 153 := ⟨139, (1041, 1043, 21), (by show decode (ov_byt 148) 66 = Except.ok (Instr.invokevirtual 139, 3); decide +kernel), by decide +kernel⟩
theorem od_148_69 : decode (ov_byt 148) 69 = .ok (.ireturn, 1) := by decide +kernel
theorem od_148_62 : decode (ov_byt 148) 62 = .ok (.if_icmp .ge 8, 3) := by decide +kernel
theorem od_148_54 : decode (ov_byt 148) 54 = .ok (.if_icmp .ne 16, 3) := by decide +kernel
theorem od_148_26 : decode (ov_byt 148) 26 = .ok (.aload_n 0, 1) := by decide +kernel
theorem og_148_27 : ov_GF 148 27 8 13 := ⟨107, false, 884, by decide +kernel, by decide +kernel⟩
theorem od_148_30 : decode (ov_byt 148) 30 = .ok (.iconst 3, 1) := by decide +kernel
theorem od_148_34 : decode (ov_byt 148) 34 = .ok (.aload_n 0, 1) := by decide +kernel
theorem oc_148_35 : ov_CL 148 35 1 149 := ⟨113, (1025, 1027, 18), (by show decode (ov_byt 148) 35 = Except.ok (Instr.invokevirtual 113, 3); decide +kernel), by decide +kernel⟩
theorem od_148_38 : decode (ov_byt 148) 38 = .ok (.bipush 12, 2) := by decide +kernel
theorem od_148_40 : decode (ov_byt 148) 40 = .ok (.ishr, 1) := by decide +kernel
theorem od_148_41 : decode (ov_byt 148) 41 = .ok (.bipush 63, 2) := by decide +kernel
theorem od_148_46 : decode (ov_byt 148) 46 = .ok (.aload_n 0, 1) := by decide +kernel
theorem oc_148_47 : ov_CL 148 47 1 150 := ⟨135, (1029, 1031, 19), (by show decode (ov_byt 148) 47 = Except.ok (Instr.invokevirtual 135, 3); decide +kernel), by decide +kernel⟩
theorem od_148_50 : decode (ov_byt 148) 50 = .ok (.ireturn, 1) := by decide +kernel
theorem od_148_43 : decode (ov_byt 148) 43 = .ok (.if_icmp .eq 8, 3) := by decide +kernel
theorem od_148_31 : decode (ov_byt 148) 31 = .ok (.if_icmp .ge 20, 3) := by decide +kernel
theorem od_148_23 : decode (ov_byt 148) 23 = .ok (.if_icmp .ne 28, 3) := by decide +kernel
theorem od_164_0 : decode (ov_byt 164) 0 = .ok (.aload_n 1, 1) := by decide +kernel
theorem od_164_1 : decode (ov_byt 164) 1 = .ok (.bipush 6, 2) := by decide +kernel
theorem od_164_3 : decode (ov_byt 164) 3 = .ok (.iaload, 1) := by decide +kernel
theorem od_164_4 : decode (ov_byt 164) 4 = .ok (.iload_n 2, 1) := by decide +kernel
theorem oc_164_5 : ov_CL 164 5 0 152 := ⟨117, (1038, 1039, 0), (by show decode (ov_byt 164) 5 = Except.ok (Instr.invokestatic 117, 3); decide +kernel), by decide +kernel⟩
theorem od_164_35 : decode (ov_byt 164) 35 = .ok (.iconst 0, 1) := by decide +kernel
theorem od_164_36 : decode (ov_byt 164) 36 = .ok (.ireturn, 1) := by decide +kernel
theorem od_164_11 : decode (ov_byt 164) 11 = .ok (.aload_n 0, 1) := by decide +kernel
theorem od_164_12 : decode (ov_byt 164) 12 = .ok (.aload_n 1, 1) := by decide +kernel
theorem od_164_13 : decode (ov_byt 164) 13 = .ok (.aload_n 0, 1) := by decide +kernel
theorem og_164_14 : ov_GF 164 14 8 11 := ⟨22, true, 882, by decide +kernel, by decide +kernel⟩
theorem od_164_17 : decode (ov_byt 164) 17 = .ok (.iload_n 2, 1) := by decide +kernel
theorem od_164_18 : decode (ov_byt 164) 18 = .ok (.iaload, 1) := by decide +kernel
theorem od_164_19 : decode (ov_byt 164) 19 = .ok (.aload_n 0, 1) := by decide +kernel
theorem og_164_20 : ov_GF 164 20 8 12 := ⟨25, true, 883, by decide +kernel, by decide +kernel⟩
theorem od_164_23 : decode (ov_byt 164) 23 = .ok (.iload_n 2, 1) := by decide +kernel
theorem od_164_24 : decode (ov_byt 164) 24 = .ok (.iaload, 1) := by decide +kernel
theorem oc_164_25 : ov_CL 164 25 1 165 := ⟨184, (1088, 1090, 30), (by show decode (ov_byt 164) 25 = Except.ok (Instr.invokevirtual 184, 3); decide +kernel), by decide +kernel⟩
theorem od_164_31 : decode (ov_byt 164) 31 = .ok (.iconst 1, 1) := by decide +kernel
theorem od_164_32 : decode (ov_byt 164) 32 = .ok (.goto 4, 3) := by decide +kernel
theorem od_164_28 : decode (ov_byt 164) 28 = .ok (.ifCond .ne 7, 3) := by decide +kernel
theorem od_164_8 : decode (ov_byt 164) 8 = .ok (.ifCond .ne 27, 3) := by decide +kernel
theorem od_176_0 : decode (ov_byt 176) 0 = .ok (.iconst 0, 1) := by decide +kernel
theorem od_176_1 : decode (ov_byt 176) 1 = .ok (.istore_n 2, 1) := by decide +kernel
theorem od_176_2 : decode (ov_byt 176) 2 = .ok (.iconst 0, 1) := by decide +kernel
theorem od_176_3 : decode (ov_byt 176) 3 = .ok (.istore_n 3, 1) := by decide +kernel
theorem od_176_4 : decode (ov_byt 176) 4 = .ok (.iload_n 3, 1) := by decide +kernel
theorem od_176_5 : decode (ov_byt 176) 5 = .ok (.aload_n 0, 1) := by decide +kernel
theorem og_176_6 : ov_GF 176 6 8 7 := ⟨87, false, 878, by decide +kernel, by decide +kernel⟩
theorem od_176_12 : decode (ov_byt 176) 12 = .ok (.iload_n 2, 1) := by decide +kernel
theorem od_176_13 : decode (ov_byt 176) 13 = .ok (.iload_n 3, 1) := by decide +kernel
theorem od_176_14 : decode (ov_byt 176) 14 = .ok (.iload_n 1, 1) := by decide +kernel
theorem od_176_37 : decode (ov_byt 176) 37 = .ok (.iconst 0, 1) := by decide +kernel
theorem od_176_38 : decode (ov_byt 176) 38 = .ok (.ior, 1) := by decide +kernel
theorem od_176_39 : decode (ov_byt 176) 39 = .ok (.istore_n 2, 1) := by decide +kernel
theorem od_176_40 : decode (ov_byt 176) 40 = .ok (.iinc 3 1, 3) := by decide +kernel
theorem od_176_43 : decode (ov_byt 176) 43 = .ok (.goto (-39), 3) := by decide +kernel
theorem od_176_18 : decode (ov_byt 176) 18 = .ok (.aload_n 0, 1) := by decide +kernel
theorem od_176_19 : decode (ov_byt 176) 19 = .ok (.aload_n 0, 1) := by decide +kernel
theorem og_176_20 : ov_GF 176 20 8 23 := ⟨46, true, 894, by decide +kernel, by decide +kernel⟩
theorem od_176_23 : decode (ov_byt 176) 23 = .ok (.iload_n 1, 1) := by decide +kernel
theorem od_176_24 : decode (ov_byt 176) 24 = .ok (.iload_n 3, 1) := by decide +kernel
theorem oc_176_25 : ov_CL 176 25 1 165 := ⟨184, (1088, 1090, 30), (by show decode (ov_byt 176) 25 = Except.ok (Instr.invokevirtual 184, 3); decide +kernel), by decide +kernel⟩
theorem od_176_31 : decode (ov_byt 176) 31 = .ok (.iconst 1, 1) := by decide +kernel
theorem od_176_32 : decode (ov_byt 176) 32 = .ok (.iload_n 3, 1) := by decide +kernel
theorem od_176_33 : decode (ov_byt 176) 33 = .ok (.ishl, 1) := by decide +kernel
theorem od_176_34 : decode (ov_byt 176) 34 = .ok (.goto 4, 3) := by decide +kernel
theorem od_176_28 : decode (ov_byt 176) 28 = .ok (.ifCond .ne 9, 3) := by decide +kernel
theorem od_176_15 : decode (ov_byt 176) 15 = .ok (.if_icmp .eq 22, 3) := by decide +kernel
theorem od_176_9 : decode (ov_byt 176) 9 = .ok (.if_icmp .ge 37, 3) := by decide +kernel
theorem od_176_46 : decode (ov_byt 176) 46 = .ok (.iload_n 2, 1) := by decide +kernel
theorem od_176_47 : decode (ov_byt 176) 47 = .ok (.ireturn, 1) := by decide +kernel
theorem od_177_0 : decode (ov_byt 177) 0 = .ok (.aload_n 0, 1) := by decide +kernel
theorem og_177_1 : ov_GF 177 1 8 23 := ⟨46, true, 894, by decide +kernel, by decide +kernel⟩
theorem od_177_4 : decode (ov_byt 177) 4 = .ok (.iconst 0, 1) := by decide +kernel
theorem od_177_5 : decode (ov_byt 177) 5 = .ok (.iload_n 1, 1) := by decide +kernel
theorem od_177_6 : decode (ov_byt 177) 6 = .ok (.iadd, 1) := by decide +kernel
theorem od_177_7 : decode (ov_byt 177) 7 = .ok (.iaload, 1) := by decide +kernel
theorem od_177_8 : decode (ov_byt 177) 8 = .ok (.bipush (-9), 2) := by decide +kernel
theorem od_177_15 : decode (ov_byt 177) 15 = .ok (.aload_n 0, 1) := by decide +kernel
theorem od_177_16 : decode (ov_byt 177) 16 = .ok (.aload_n 0, 1) := by decide +kernel
theorem og_177_17 : ov_GF 177 17 8 23 := ⟨46, true, 894, by decide +kernel, by decide +kernel⟩
theorem od_177_20 : decode (ov_byt 177) 20 = .ok (.iload_n 1, 1) := by decide +kernel
theorem oc_177_21 : ov_CL 177 21 1 178 := ⟨219, (1139, 1141, 38), (by show decode (ov_byt 177) 21 = Except.ok (Instr.invokevirtual 219, 3); decide +kernel), by decide +kernel⟩
theorem od_177_24 : decode (ov_byt 177) 24 = .ok (.iconst 0, 1) := by decide +kernel
theorem od_177_25 : decode (ov_byt 177) 25 = .ok (.istore_n 2, 1) := by decide +kernel
theorem od_177_26 : decode (ov_byt 177) 26 = .ok (.iconst 0, 1) := by decide +kernel
theorem od_177_27 : decode (ov_byt 177) 27 = .ok (.istore_n 3, 1) := by decide +kernel
theorem od_177_28 : decode (ov_byt 177) 28 = .ok (.iload_n 3, 1) := by decide +kernel
theorem od_177_29 : decode (ov_byt 177) 29 = .ok (.bipush 18, 2) := by decide +kernel
theorem od_177_34 : decode (ov_byt 177) 34 = .ok (.iload_n 2, 1) := by decide +kernel
theorem od_177_35 : decode (ov_byt 177) 35 = .ok (.aload_n 0, 1) := by decide +kernel
theorem og_177_36 : ov_GF 177 36 8 34 := ⟨71, true, 905, by decide +kernel, by decide +kernel⟩
theorem od_177_39 : decode (ov_byt 177) 39 = .ok (.iload_n 3, 1) := by decide +kernel
theorem od_177_40 : decode (ov_byt 177) 40 = .ok (.iaload, 1) := by decide +kernel
theorem od_177_41 : decode (ov_byt 177) 41 = .ok (.bipush (-9), 2) := by decide +kernel
theorem od_177_50 : decode (ov_byt 177) 50 = .ok (.iconst 1, 1) := by decide +kernel
theorem od_177_51 : decode (ov_byt 177) 51 = .ok (.iadd, 1) := by decide +kernel
theorem od_177_52 : decode (ov_byt 177) 52 = .ok (.istore_n 2, 1) := by decide +kernel
theorem od_177_53 : decode (ov_byt 177) 53 = .ok (.iinc 3 1, 3) := by decide +kernel
theorem od_177_56 : decode (ov_byt 177) 56 = .ok (.goto (-28), 3) := by decide +kernel
theorem od_177_46 : decode (ov_byt 177) 46 = .ok (.iconst 0, 1) := by decide +kernel
theorem od_177_47 : decode (ov_byt 177) 47 = .ok (.goto 4, 3) := by decide +kernel
theorem od_177_43 : decode (ov_byt 177) 43 = .ok (.if_icmp .ne 7, 3) := by decide +kernel
theorem od_177_31 : decode (ov_byt 177) 31 = .ok (.if_icmp .ge 28, 3) := by decide +kernel
theorem od_177_59 : decode (ov_byt 177) 59 = .ok (.iload_n 2, 1) := by decide +kernel
theorem od_177_60 : decode (ov_byt 177) 60 = .ok (.ireturn, 1) := by decide +kernel
theorem od_177_13 : decode (ov_byt 177) 13 = .ok (.iconst 0, 1) := by decide +kernel
theorem od_177_14 : decode (ov_byt 177) 14 = .ok (.ireturn, 1) := by decide +kernel
theorem od_177_10 : decode (ov_byt 177) 10 = .ok (.if_icmp .ne 5, 3) := by decide +kernel
theorem od_185_0 : decode (ov_byt 185) 0 = .ok (.aload_n 1, 1) := by decide +kernel
theorem od_185_1 : decode (ov_byt 185) 1 = .ok (.iconst 0, 1) := by decide +kernel
theorem od_185_2 : decode (ov_byt 185) 2 = .ok (.iload_n 2, 1) := by decide +kernel
theorem od_185_3 : decode (ov_byt 185) 3 = .ok (.iadd, 1) := by decide +kernel
theorem od_185_4 : decode (ov_byt 185) 4 = .ok (.iaload, 1) := by decide +kernel
theorem od_185_5 : decode (ov_byt 185) 5 = .ok (.bipush (-9), 2) := by decide +kernel
theorem od_185_28 : decode (ov_byt 185) 28 = .ok (.iconst 0, 1) := by decide +kernel
theorem od_185_29 : decode (ov_byt 185) 29 = .ok (.ireturn, 1) := by decide +kernel
theorem od_185_10 : decode (ov_byt 185) 10 = .ok (.aload_n 0, 1) := by decide +kernel
theorem od_185_11 : decode (ov_byt 185) 11 = .ok (.aload_n 1, 1) := by decide +kernel
theorem od_185_12 : decode (ov_byt 185) 12 = .ok (.aload_n 0, 1) := by decide +kernel
theorem og_185_13 : ov_GF 185 13 8 5 := ⟨13, true, 876, by decide +kernel, by decide +kernel⟩
theorem od_185_16 : decode (ov_byt 185) 16 = .ok (.iload_n 3, 1) := by decide +kernel
theorem od_185_17 : decode (ov_byt 185) 17 = .ok (.iaload, 1) := by decide +kernel
theorem oc_185_18 : ov_CL 185 18 1 186 := ⟨237, (1171, 1173, 42), (by show decode (ov_byt 185) 18 = Except.ok (Instr.invokevirtual 237, 3); decide +kernel), by decide +kernel⟩
theorem od_185_24 : decode (ov_byt 185) 24 = .ok (.iconst 1, 1) := by decide +kernel
theorem od_185_25 : decode (ov_byt 185) 25 = .ok (.goto 4, 3) := by decide +kernel
theorem od_185_21 : decode (ov_byt 185) 21 = .ok (.ifCond .eq 7, 3) := by decide +kernel
theorem od_185_7 : decode (ov_byt 185) 7 = .ok (.if_icmp .ne 21, 3) := by decide +kernel
theorem od_189_0 : decode (ov_byt 189) 0 = .ok (.aload_n 1, 1) := by decide +kernel
theorem od_189_1 : decode (ov_byt 189) 1 = .ok (.iconst 0, 1) := by decide +kernel
theorem od_189_2 : decode (ov_byt 189) 2 = .ok (.iload_n 2, 1) := by decide +kernel
theorem od_189_3 : decode (ov_byt 189) 3 = .ok (.iadd, 1) := by decide +kernel
theorem od_189_4 : decode (ov_byt 189) 4 = .ok (.iaload, 1) := by decide +kernel
theorem od_189_5 : decode (ov_byt 189) 5 = .ok (.bipush (-9), 2) := by decide +kernel
theorem od_189_20 : decode (ov_byt 189) 20 = .ok (.bipush (-9), 2) := by decide +kernel
theorem od_189_22 : decode (ov_byt 189) 22 = .ok (.ireturn, 1) := by decide +kernel
theorem od_189_10 : decode (ov_byt 189) 10 = .ok (.aload_n 0, 1) := by decide +kernel
theorem og_189_11 : ov_GF 189 11 8 9 := ⟨19, true, 880, by decide +kernel, by decide +kernel⟩
theorem od_189_14 : decode (ov_byt 189) 14 = .ok (.iload_n 2, 1) := by decide +kernel
theorem od_189_15 : decode (ov_byt 189) 15 = .ok (.iaload, 1) := by decide +kernel
theorem od_189_16 : decode (ov_byt 189) 16 = .ok (.iconst 1, 1) := by decide +kernel
theorem od_189_23 : decode (ov_byt 189) 23 = .ok (.aload_n 1, 1) := by decide +kernel
theorem od_189_24 : decode (ov_byt 189) 24 = .ok (.iconst 0, 1) := by decide +kernel
theorem od_189_25 : decode (ov_byt 189) 25 = .ok (.iload_n 2, 1) := by decide +kernel
theorem od_189_26 : decode (ov_byt 189) 26 = .ok (.iadd, 1) := by decide +kernel
theorem od_189_27 : decode (ov_byt 189) 27 = .ok (.iaload, 1) := by decide +kernel
theorem od_189_28 : decode (ov_byt 189) 28 = .ok (.iload_n 3, 1) := by decide +kernel
theorem oc_189_29 : ov_CL 189 29 0 180 := ⟨195, (1147, 1148, 0), (by show decode (ov_byt 189) 29 = Except.ok (Instr.invokestatic 195, 3); decide +kernel), by decide +kernel⟩
theorem od_189_32 : decode (ov_byt 189) 32 = .ok (.istore 4, 2) := by decide +kernel
theorem od_189_34 : decode (ov_byt 189) 34 = .ok (.iload 4, 2) := by decide +kernel
theorem od_189_36 : decode (ov_byt 189) 36 = .ok (.bipush (-9), 2) := by decide +kernel
theorem od_189_56 : decode (ov_byt 189) 56 = .ok (.bipush (-9), 2) := by decide +kernel
theorem od_189_58 : decode (ov_byt 189) 58 = .ok (.ireturn, 1) := by decide +kernel
theorem od_189_41 : decode (ov_byt 189) 41 = .ok (.aload_n 0, 1) := by decide +kernel
theorem od_189_42 : decode (ov_byt 189) 42 = .ok (.aload_n 1, 1) := by decide +kernel
theorem od_189_43 : decode (ov_byt 189) 43 = .ok (.iload 4, 2) := by decide +kernel
theorem oc_189_45 : ov_CL 189 45 1 186 := ⟨237, (1171, 1173, 42), (by show decode (ov_byt 189) 45 = Except.ok (Instr.invokevirtual 237, 3); decide +kernel), by decide +kernel⟩
theorem od_189_51 : decode (ov_byt 189) 51 = .ok (.iload 4, 2) := by decide +kernel
theorem od_189_53 : decode (ov_byt 189) 53 = .ok (.goto 5, 3) := by decide +kernel
theorem od_189_48 : decode (ov_byt 189) 48 = .ok (.ifCond .eq 8, 3) := by decide +kernel
theorem od_189_38 : decode (ov_byt 189) 38 = .ok (.if_icmp .eq 18, 3) := by decide +kernel
theorem od_189_17 : decode (ov_byt 189) 17 = .ok (.if_icmp .ne 6, 3) := by decide +kernel
theorem od_189_7 : decode (ov_byt 189) 7 = .ok (.if_icmp .eq 13, 3) := by decide +kernel
theorem od_192_0 : decode (ov_byt 192) 0 = .ok (.aload_n 0, 1) := by decide +kernel
theorem od_192_1 : decode (ov_byt 192) 1 = .ok (.iconst 0, 1) := by decide +kernel
theorem op_192_2 : ov_PF 192 2 8 0 := ⟨83, 871, by decide +kernel, by decide +kernel⟩
theorem od_192_5 : decode (ov_byt 192) 5 = .ok (.iload_n 1, 1) := by decide +kernel
theorem od_192_6 : decode (ov_byt 192) 6 = .ok (.i2l, 1) := by decide +kernel
theorem od_192_7 : decode (ov_byt 192) 7 = .ok (.lconst 0, 1) := by decide +kernel
theorem od_192_8 : decode (ov_byt 192) 8 = .ok (.aload_n 0, 1) := by decide +kernel
theorem og_192_9 : ov_GF 192 9 8 6 := ⟨154, false, 877, by decide +kernel, by decide +kernel⟩
theorem od_192_12 : decode (ov_byt 192) 12 = .ok (.iconst 1, 1) := by decide +kernel
theorem od_192_13 : decode (ov_byt 192) 13 = .ok (.isub, 1) := by decide +kernel
theorem od_192_14 : decode (ov_byt 192) 14 = .ok (.i2l, 1) := by decide +kernel
theorem oc_192_15 : ov_CL 192 15 0 144 := ⟨90, (1006, 1007, 0), (by show decode (ov_byt 192) 15 = Except.ok (Instr.invokestatic 90, 3); decide +kernel), by decide +kernel⟩
theorem od_192_28 : decode (ov_byt 192) 28 = .ok (.iconst (-1), 1) := by decide +kernel
theorem od_192_29 : decode (ov_byt 192) 29 = .ok (.ireturn, 1) := by decide +kernel
theorem od_192_21 : decode (ov_byt 192) 21 = .ok (.iload_n 2, 1) := by decide +kernel
theorem oc_192_22 : ov_CL 192 22 0 193 := ⟨255, (1199, 1200, 0), (by show decode (ov_byt 192) 22 = Except.ok (Instr.invokestatic 255, 3); decide +kernel), by decide +kernel⟩
theorem od_192_30 : decode (ov_byt 192) 30 = .ok (.aload_n 0, 1) := by decide +kernel
theorem od_192_31 : decode (ov_byt 192) 31 = .ok (.aload_n 0, 1) := by decide +kernel
theorem og_192_32 : ov_GF 192 32 8 23 := ⟨46, true, 894, by decide +kernel, by decide +kernel⟩
theorem od_192_35 : decode (ov_byt 192) 35 = .ok (.iload_n 2, 1) := by decide +kernel
theorem oc_192_36 : ov_CL 192 36 1 186 := ⟨237, (1171, 1173, 42), (by show decode (ov_byt 192) 36 = Except.ok (Instr.invokevirtual 237, 3); decide +kernel), by decide +kernel⟩
theorem od_192_50 : decode (ov_byt 192) 50 = .ok (.bipush (-3), 2) := by decide +kernel
theorem od_192_52 : decode (ov_byt 192) 52 = .ok (.ireturn, 1) := by decide +kernel
theorem od_192_42 : decode (ov_byt 192) 42 = .ok (.aload_n 0, 1) := by decide +kernel
theorem od_192_43 : decode (ov_byt 192) 43 = .ok (.iload_n 2, 1) := by decide +kernel
theorem oc_192_44 : ov_CL 192 44 1 194 := ⟨258, (1202, 1204, 45), (by show decode (ov_byt 192) 44 = Except.ok (Instr.invokevirtual 258, 3); decide +kernel), by decide +kernel⟩
theorem od_192_53 : decode (ov_byt 192) 53 = .ok (.aload_n 0, 1) := by decide +kernel
theorem oc_192_54 : ov_CL 192 54 1 187 := ⟨244, (1175, 1177, 43), (by show decode (ov_byt 192) 54 = Except.ok (Instr.invokevirtual 244, 3); decide +kernel), by decide +kernel⟩
theorem od_192_57 : decode (ov_byt 192) 57 = .ok (.aload_n 0, 1) := by decide +kernel
theorem og_192_58 : ov_GF 192 58 8 23 := ⟨46, true, 894, by decide +kernel, by decide +kernel⟩
theorem od_192_61 : decode (ov_byt 192) 61 = .ok (.bipush 7, 2) := by decide +kernel
theorem od_192_63 : decode (ov_byt 192) 63 = .ok (.iload_n 1, 1) := by decide +kernel
theorem od_192_64 : decode (ov_byt 192) 64 = .ok (.iadd, 1) := by decide +kernel
theorem od_192_65 : decode (ov_byt 192) 65 = .ok (.iaload, 1) := by decide +kernel
theorem od_192_66 : decode (ov_byt 192) 66 = .ok (.istore_n 3, 1) := by decide +kernel
theorem od_192_67 : decode (ov_byt 192) 67 = .ok (.aload_n 0, 1) := by decide +kernel
theorem og_192_68 : ov_GF 192 68 8 23 := ⟨46, true, 894, by decide +kernel, by decide +kernel⟩
theorem od_192_71 : decode (ov_byt 192) 71 = .ok (.bipush 7, 2) := by decide +kernel
theorem od_192_73 : decode (ov_byt 192) 73 = .ok (.iload_n 1, 1) := by decide +kernel
theorem od_192_74 : decode (ov_byt 192) 74 = .ok (.iadd, 1) := by decide +kernel
theorem od_192_75 : decode (ov_byt 192) 75 = .ok (.iload_n 2, 1) := by decide +kernel
theorem od_192_76 : decode (ov_byt 192) 76 = .ok (.iastore, 1) := by decide +kernel
theorem od_192_77 : decode (ov_byt 192) 77 = .ok (.iload_n 3, 1) := by decide +kernel
theorem od_192_78 : decode (ov_byt 192) 78 = .ok (.ireturn, 1) := by decide +kernel
theorem od_192_47 : decode (ov_byt 192) 47 = .ok (.ifCond .eq 6, 3) := by decide +kernel
theorem od_192_39 : decode (ov_byt 192) 39 = .ok (.ifCond .eq 11, 3) := by decide +kernel
theorem od_192_25 : decode (ov_byt 192) 25 = .ok (.ifCond .eq 5, 3) := by decide +kernel
theorem od_192_18 : decode (ov_byt 192) 18 = .ok (.ifCond .eq 10, 3) := by decide +kernel
theorem od_196_0 : decode (ov_byt 196) 0 = .ok (.aload_n 0, 1) := by decide +kernel
theorem od_196_1 : decode (ov_byt 196) 1 = .ok (.iconst 0, 1) := by decide +kernel
theorem op_196_2 : ov_PF 196 2 8 0 := ⟨83, 871, by decide +kernel, by decide +kernel⟩
theorem od_196_5 : decode (ov_byt 196) 5 = .ok (.aload_n 0, 1) := by decide +kernel
theorem od_196_6 : decode (ov_byt 196) 6 = .ok (.iload_n 1, 1) := by decide +kernel
theorem oc_196_7 : ov_CL 196 7 1 175 := ⟨223, (1127, 1129, 35), (by show decode (ov_byt 196) 7 = Except.ok (Instr.invokevirtual 223, 3); decide +kernel), by decide +kernel⟩
theorem od_196_20 : decode (ov_byt 196) 20 = .ok (.iconst (-1), 1) := by decide +kernel
theorem od_196_21 : decode (ov_byt 196) 21 = .ok (.ireturn, 1) := by decide +kernel
theorem od_196_13 : decode (ov_byt 196) 13 = .ok (.iload_n 2, 1) := by decide +kernel
theorem oc_196_14 : ov_CL 196 14 0 193 := ⟨255, (1199, 1200, 0), (by show decode (ov_byt 196) 14 = Except.ok (Instr.invokestatic 255, 3); decide +kernel), by decide +kernel⟩
theorem od_196_22 : decode (ov_byt 196) 22 = .ok (.aload_n 0, 1) := by decide +kernel
theorem og_196_23 : ov_GF 196 23 8 23 := ⟨46, true, 894, by decide +kernel, by decide +kernel⟩
theorem od_196_26 : decode (ov_byt 196) 26 = .ok (.iconst 0, 1) := by decide +kernel
theorem od_196_27 : decode (ov_byt 196) 27 = .ok (.iload_n 1, 1) := by decide +kernel
theorem od_196_28 : decode (ov_byt 196) 28 = .ok (.iadd, 1) := by decide +kernel
theorem od_196_29 : decode (ov_byt 196) 29 = .ok (.iaload, 1) := by decide +kernel
theorem od_196_30 : decode (ov_byt 196) 30 = .ok (.bipush (-9), 2) := by decide +kernel
theorem od_196_38 : decode (ov_byt 196) 38 = .ok (.aload_n 0, 1) := by decide +kernel
theorem od_196_39 : decode (ov_byt 196) 39 = .ok (.aload_n 0, 1) := by decide +kernel
theorem og_196_40 : ov_GF 196 40 8 23 := ⟨46, true, 894, by decide +kernel, by decide +kernel⟩
theorem od_196_43 : decode (ov_byt 196) 43 = .ok (.iload_n 1, 1) := by decide +kernel
theorem oc_196_44 : ov_CL 196 44 1 178 := ⟨219, (1139, 1141, 38), (by show decode (ov_byt 196) 44 = Except.ok (Instr.invokevirtual 219, 3); decide +kernel), by decide +kernel⟩
theorem od_196_47 : decode (ov_byt 196) 47 = .ok (.aload_n 0, 1) := by decide +kernel
theorem og_196_48 : ov_GF 196 48 8 34 := ⟨71, true, 905, by decide +kernel, by decide +kernel⟩
theorem od_196_51 : decode (ov_byt 196) 51 = .ok (.iload_n 2, 1) := by decide +kernel
theorem od_196_52 : decode (ov_byt 196) 52 = .ok (.iaload, 1) := by decide +kernel
theorem od_196_53 : decode (ov_byt 196) 53 = .ok (.ireturn, 1) := by decide +kernel
theorem od_196_35 : decode (ov_byt 196) 35 = .ok (.bipush (-3), 2) := by decide +kernel
theorem od_196_37 : decode (ov_byt 196) 37 = .ok (.ireturn, 1) := by decide +kernel
theorem od_196_32 : decode (ov_byt 196) 32 = .ok (.if_icmp .ne 6, 3) := by decide +kernel
theorem od_196_17 : decode (ov_byt 196) 17 = .ok (.ifCond .eq 5, 3) := by decide +kernel
theorem od_196_10 : decode (ov_byt 196) 10 = .ok (.ifCond .ne 10, 3) := by decide +kernel
theorem od_206_0 : decode (ov_byt 206) 0 = .ok (.aload_n 0, 1) := by decide +kernel
theorem od_206_1 : decode (ov_byt 206) 1 = .ok (.iconst 0, 1) := by decide +kernel
theorem op_206_2 : ov_PF 206 2 8 0 := ⟨83, 871, by decide +kernel, by decide +kernel⟩
theorem od_206_5 : decode (ov_byt 206) 5 = .ok (.iload_n 1, 1) := by decide +kernel
theorem od_206_6 : decode (ov_byt 206) 6 = .ok (.i2l, 1) := by decide +kernel
theorem od_206_7 : decode (ov_byt 206) 7 = .ok (.lconst 0, 1) := by decide +kernel
theorem od_206_8 : decode (ov_byt 206) 8 = .ok (.aload_n 0, 1) := by decide +kernel
theorem og_206_9 : ov_GF 206 9 8 10 := ⟨157, false, 881, by decide +kernel, by decide +kernel⟩
theorem od_206_12 : decode (ov_byt 206) 12 = .ok (.iconst 1, 1) := by decide +kernel
theorem od_206_13 : decode (ov_byt 206) 13 = .ok (.isub, 1) := by decide +kernel
theorem od_206_14 : decode (ov_byt 206) 14 = .ok (.i2l, 1) := by decide +kernel
theorem oc_206_15 : ov_CL 206 15 0 144 := ⟨90, (1006, 1007, 0), (by show decode (ov_byt 206) 15 = Except.ok (Instr.invokestatic 90, 3); decide +kernel), by decide +kernel⟩
theorem od_206_44 : decode (ov_byt 206) 44 = .ok (.iconst (-1), 1) := by decide +kernel
theorem od_206_45 : decode (ov_byt 206) 45 = .ok (.ireturn, 1) := by decide +kernel
theorem od_206_21 : decode (ov_byt 206) 21 = .ok (.aload_n 0, 1) := by decide +kernel
theorem od_206_22 : decode (ov_byt 206) 22 = .ok (.aload_n 0, 1) := by decide +kernel
theorem og_206_23 : ov_GF 206 23 8 23 := ⟨46, true, 894, by decide +kernel, by decide +kernel⟩
theorem od_206_26 : decode (ov_byt 206) 26 = .ok (.aload_n 0, 1) := by decide +kernel
theorem og_206_27 : ov_GF 206 27 8 11 := ⟨22, true, 882, by decide +kernel, by decide +kernel⟩
theorem od_206_30 : decode (ov_byt 206) 30 = .ok (.iload_n 1, 1) := by decide +kernel
theorem od_206_31 : decode (ov_byt 206) 31 = .ok (.iaload, 1) := by decide +kernel
theorem od_206_32 : decode (ov_byt 206) 32 = .ok (.aload_n 0, 1) := by decide +kernel
theorem og_206_33 : ov_GF 206 33 8 12 := ⟨25, true, 883, by decide +kernel, by decide +kernel⟩
theorem od_206_36 : decode (ov_byt 206) 36 = .ok (.iload_n 1, 1) := by decide +kernel
theorem od_206_37 : decode (ov_byt 206) 37 = .ok (.iaload, 1) := by decide +kernel
theorem oc_206_38 : ov_CL 206 38 1 165 := ⟨184, (1088, 1090, 30), (by show decode (ov_byt 206) 38 = Except.ok (Instr.invokevirtual 184, 3); decide +kernel), by decide +kernel⟩
theorem od_206_41 : decode (ov_byt 206) 41 = .ok (.goto 4, 3) := by decide +kernel
theorem od_206_18 : decode (ov_byt 206) 18 = .ok (.ifCond .eq 26, 3) := by decide +kernel
theorem od_17_0 : decode (ov_byt 17) 0 = .ok (.aload_n 0, 1) := by decide +kernel
theorem og_17_1 : ov_GF 17 1 0 2 := ⟨23, true, 264, by decide +kernel, by decide +kernel⟩
theorem od_17_4 : decode (ov_byt 17) 4 = .ok (.aload_n 0, 1) := by decide +kernel
theorem og_17_5 : ov_GF 17 5 0 0 := ⟨12, true, 262, by decide +kernel, by decide +kernel⟩
theorem oc_17_8 : ov_CL 17 8 1 18 := ⟨93, (323, 324, 325), (by show decode (ov_byt 17) 8 = Except.ok (Instr.invokevirtual 93, 3); decide +kernel), by decide +kernel⟩
theorem od_17_11 : decode (ov_byt 17) 11 = .ok (.ireturn, 1) := by decide +kernel
theorem od_30_0 : decode (ov_byt 30) 0 = .ok (.aload_n 0, 1) := by decide +kernel
theorem og_30_1 : ov_GF 30 1 0 2 := ⟨23, true, 264, by decide +kernel, by decide +kernel⟩
theorem od_30_4 : decode (ov_byt 30) 4 = .ok (.aload_n 0, 1) := by decide +kernel
theorem og_30_5 : ov_GF 30 5 0 0 := ⟨12, true, 262, by decide +kernel, by decide +kernel⟩
theorem oc_30_8 : ov_CL 30 8 1 18 := ⟨93, (323, 324, 325), (by show decode (ov_byt 30) 8 = Except.ok (Instr.invokevirtual 93, 3); decide +kernel), by decide +kernel⟩
theorem od_30_11 : decode (ov_byt 30) 11 = .ok (.bipush (-9), 2) := by decide +kernel
theorem od_30_19 : decode (ov_byt 30) 19 = .ok (.aload_n 0, 1) := by decide +kernel
theorem og_30_20 : ov_GF 30 20 0 1 := ⟨19, true, 263, by decide +kernel, by decide +kernel⟩
theorem od_30_23 : decode (ov_byt 30) 23 = .ok (.aload_n 0, 1) := by decide +kernel
theorem og_30_24 : ov_GF 30 24 0 0 := ⟨12, true, 262, by decide +kernel, by decide +kernel⟩
theorem oc_30_27 : ov_CL 30 27 1 18 := ⟨93, (323, 324, 325), (by show decode (ov_byt 30) 27 = Except.ok (Instr.invokevirtual 93, 3); decide +kernel), by decide +kernel⟩
theorem od_30_30 : decode (ov_byt 30) 30 = .ok (.pop, 1) := by decide +kernel
theorem od_30_31 : decode (ov_byt 30) 31 = .ok (.aload_n 0, 1) := by decide +kernel
theorem og_30_32 : ov_GF 30 32 0 3 := ⟨31, true, 265, by decide +kernel, by decide +kernel⟩
theorem oc_30_35 : ov_CL 30 35 1 5 := ⟨97, (375, 152, 153), (by show decode (ov_byt 30) 35 = Except.ok (Instr.invokevirtual 97, 3); decide +kernel), by decide +kernel⟩
theorem od_30_38 : decode (ov_byt 30) 38 = .ok (.aload_n 0, 1) := by decide +kernel
theorem og_30_39 : ov_GF 30 39 0 5 := ⟨41, true, 267, by decide +kernel, by decide +kernel⟩
theorem oc_30_42 : ov_CL 30 42 1 31 := ⟨100, (376, 377, 378), (by show decode (ov_byt 30) 42 = Except.ok (Instr.invokevirtual 100, 3); decide +kernel), by decide +kernel⟩
theorem od_30_45 : decode (ov_byt 30) 45 = .ok (.aload_n 0, 1) := by decide +kernel
theorem od_30_46 : decode (ov_byt 30) 46 = .ok (.iconst 0, 1) := by decide +kernel
theorem op_30_47 : ov_PF 30 47 0 10 := ⟨74, 272, by decide +kernel, by decide +kernel⟩
theorem od_30_50 : decode (ov_byt 30) 50 = .ok (.sipush 1000, 3) := by decide +kernel
theorem od_30_53 : decode (ov_byt 30) 53 = .ok (.aload_n 0, 1) := by decide +kernel
theorem og_30_54 : ov_GF 30 54 0 1 := ⟨19, true, 263, by decide +kernel, by decide +kernel⟩
theorem og_30_57 : ov_GF 30 57 2 0 := ⟨103, false, 101, by decide +kernel, by decide +kernel⟩
theorem od_30_60 : decode (ov_byt 30) 60 = .ok (.imul, 1) := by decide +kernel
theorem od_30_61 : decode (ov_byt 30) 61 = .ok (.bipush 100, 2) := by decide +kernel
theorem od_30_63 : decode (ov_byt 30) 63 = .ok (.aload_n 0, 1) := by decide +kernel
theorem og_30_64 : ov_GF 30 64 0 1 := ⟨19, true, 263, by decide +kernel, by decide +kernel⟩
theorem og_30_67 : ov_GF 30 67 2 1 := ⟨106, false, 104, by decide +kernel, by decide +kernel⟩
theorem od_30_70 : decode (ov_byt 30) 70 = .ok (.imul, 1) := by decide +kernel
theorem od_30_71 : decode (ov_byt 30) 71 = .ok (.iadd, 1) := by decide +kernel
theorem od_30_72 : decode (ov_byt 30) 72 = .ok (.bipush 10, 2) := by decide +kernel
theorem od_30_74 : decode (ov_byt 30) 74 = .ok (.aload_n 0, 1) := by decide +kernel
theorem og_30_75 : ov_GF 30 75 0 1 := ⟨19, true, 263, by decide +kernel, by decide +kernel⟩
theorem og_30_78 : ov_GF 30 78 2 2 := ⟨109, false, 107, by decide +kernel, by decide +kernel⟩
theorem od_30_81 : decode (ov_byt 30) 81 = .ok (.imul, 1) := by decide +kernel
theorem od_30_82 : decode (ov_byt 30) 82 = .ok (.iadd, 1) := by decide +kernel
theorem od_30_83 : decode (ov_byt 30) 83 = .ok (.aload_n 0, 1) := by decide +kernel
theorem og_30_84 : ov_GF 30 84 0 1 := ⟨19, true, 263, by decide +kernel, by decide +kernel⟩
theorem og_30_87 : ov_GF 30 87 2 3 := ⟨112, false, 110, by decide +kernel, by decide +kernel⟩
theorem od_30_90 : decode (ov_byt 30) 90 = .ok (.iadd, 1) := by decide +kernel
theorem od_30_91 : decode (ov_byt 30) 91 = .ok (.ireturn, 1) := by decide +kernel
theorem od_30_16 : decode (ov_byt 30) 16 = .ok (.bipush (-3), 2) := by decide +kernel
theorem od_30_18 : decode (ov_byt 30) 18 = .ok (.ireturn, 1) := by decide +kernel
theorem od_30_13 : decode (ov_byt 30) 13 = .ok (.if_icmp .eq 6, 3) := by decide +kernel
theorem od_36_0 : decode (ov_byt 36) 0 = .ok (.aload_n 0, 1) := by decide +kernel
theorem oc_36_1 : ov_CL 36 1 1 37 := ⟨95, (402, 404, 6), (by show decode (ov_byt 36) 1 = Except.ok (Instr.invokevirtual 95, 3); decide +kernel), by decide +kernel⟩
theorem od_36_4 : decode (ov_byt 36) 4 = .ok (.istore_n 1, 1) := by decide +kernel
theorem od_36_5 : decode (ov_byt 36) 5 = .ok (.iconst 0, 1) := by decide +kernel
theorem od_36_6 : decode (ov_byt 36) 6 = .ok (.istore_n 2, 1) := by decide +kernel
theorem od_36_7 : decode (ov_byt 36) 7 = .ok (.iconst 0, 1) := by decide +kernel
theorem od_36_8 : decode (ov_byt 36) 8 = .ok (.istore_n 3, 1) := by decide +kernel
theorem od_36_9 : decode (ov_byt 36) 9 = .ok (.iload_n 3, 1) := by decide +kernel
theorem od_36_10 : decode (ov_byt 36) 10 = .ok (.aload_n 0, 1) := by decide +kernel
theorem og_36_11 : ov_GF 36 11 3 0 := ⟨18, true, 163, by decide +kernel, by decide +kernel⟩
theorem og_36_14 : ov_GF 36 14 2 2 := ⟨54, false, 108, by decide +kernel, by decide +kernel⟩
theorem od_36_20 : decode (ov_byt 36) 20 = .ok (.iload_n 1, 1) := by decide +kernel
theorem od_36_21 : decode (ov_byt 36) 21 = .ok (.aload_n 0, 1) := by decide +kernel
theorem od_36_22 : decode (ov_byt 36) 22 = .ok (.iload_n 3, 1) := by decide +kernel
theorem oc_36_23 : ov_CL 36 23 1 35 := ⟨48, (392, 393, 394), (by show decode (ov_byt 36) 23 = Except.ok (Instr.invokevirtual 48, 3); decide +kernel), by decide +kernel⟩
theorem oc_36_26 : ov_CL 36 26 0 23 := ⟨71, (418, 346, 0), (by show decode (ov_byt 36) 26 = Except.ok (Instr.invokestatic 71, 3); decide +kernel), by decide +kernel⟩
theorem od_36_40 : decode (ov_byt 36) 40 = .ok (.iload_n 2, 1) := by decide +kernel
theorem od_36_41 : decode (ov_byt 36) 41 = .ok (.istore_n 2, 1) := by decide +kernel
theorem od_36_42 : decode (ov_byt 36) 42 = .ok (.iinc 3 1, 3) := by decide +kernel
theorem od_36_45 : decode (ov_byt 36) 45 = .ok (.goto (-36), 3) := by decide +kernel
theorem od_36_32 : decode (ov_byt 36) 32 = .ok (.iload_n 2, 1) := by decide +kernel
theorem od_36_33 : decode (ov_byt 36) 33 = .ok (.iload_n 3, 1) := by decide +kernel
theorem oc_36_34 : ov_CL 36 34 0 27 := ⟨60, (397, 361, 0), (by show decode (ov_byt 36) 34 = Except.ok (Instr.invokestatic 60, 3); decide +kernel), by decide +kernel⟩
theorem od_36_37 : decode (ov_byt 36) 37 = .ok (.goto 4, 3) := by decide +kernel
theorem od_36_29 : decode (ov_byt 36) 29 = .ok (.ifCond .eq 11, 3) := by decide +kernel
theorem od_36_17 : decode (ov_byt 36) 17 = .ok (.if_icmp .ge 31, 3) := by decide +kernel
theorem od_36_48 : decode (ov_byt 36) 48 = .ok (.iload_n 2, 1) := by decide +kernel
theorem od_36_49 : decode (ov_byt 36) 49 = .ok (.ireturn, 1) := by decide +kernel
theorem od_62_0 : decode (ov_byt 62) 0 = .ok (.aload_n 0, 1) := by decide +kernel
theorem og_62_1 : ov_GF 62 1 0 1 := ⟨19, true, 263, by decide +kernel, by decide +kernel⟩
theorem od_62_4 : decode (ov_byt 62) 4 = .ok (.iload_n 1, 1) := by decide +kernel
theorem oc_62_5 : ov_CL 62 5 1 29 := ⟨148, (508, 368, 369), (by show decode (ov_byt 62) 5 = Except.ok (Instr.invokevirtual 148, 3); decide +kernel), by decide +kernel⟩
theorem od_62_13 : decode (ov_byt 62) 13 = .ok (.iload_n 2, 1) := by decide +kernel
theorem od_62_48 : decode (ov_byt 62) 48 = .ok (.aload_n 0, 1) := by decide +kernel
theorem og_62_49 : ov_GF 62 49 0 1 := ⟨19, true, 263, by decide +kernel, by decide +kernel⟩
theorem od_62_52 : decode (ov_byt 62) 52 = .ok (.iload_n 1, 1) := by decide +kernel
theorem oc_62_53 : ov_CL 62 53 1 63 := ⟨151, (509, 510, 511), (by show decode (ov_byt 62) 53 = Except.ok (Instr.invokevirtual 151, 3); decide +kernel), by decide +kernel⟩
theorem od_62_56 : decode (ov_byt 62) 56 = .ok (.ireturn, 1) := by decide +kernel
theorem od_62_14 : decode (ov_byt 62) 14 = .ok (.tableswitch 93 0 4 #[34, 43, 52, 61, 70], 34) := by decide +kernel
theorem od_62_57 : decode (ov_byt 62) 57 = .ok (.aload_n 0, 1) := by decide +kernel
theorem og_62_58 : ov_GF 62 58 0 1 := ⟨19, true, 263, by decide +kernel, by decide +kernel⟩
theorem od_62_61 : decode (ov_byt 62) 61 = .ok (.iload_n 1, 1) := by decide +kernel
theorem oc_62_62 : ov_CL 62 62 1 64 := ⟨154, (513, 514, 515), (by show decode (ov_byt 62) 62 = Except.ok (Instr.invokevirtual 154, 3); decide +kernel), by decide +kernel⟩
theorem od_62_65 : decode (ov_byt 62) 65 = .ok (.ireturn, 1) := by decide +kernel
theorem od_62_66 : decode (ov_byt 62) 66 = .ok (.aload_n 0, 1) := by decide +kernel
theorem og_62_67 : ov_GF 62 67 0 3 := ⟨31, true, 265, by decide +kernel, by decide +kernel⟩
theorem od_62_70 : decode (ov_byt 62) 70 = .ok (.iload_n 1, 1) := by decide +kernel
theorem oc_62_71 : ov_CL 62 71 1 35 := ⟨157, (517, 393, 394), (by show decode (ov_byt 62) 71 = Except.ok (Instr.invokevirtual 157, 3); decide +kernel), by decide +kernel⟩
theorem od_62_74 : decode (ov_byt 62) 74 = .ok (.ireturn, 1) := by decide +kernel
theorem od_62_75 : decode (ov_byt 62) 75 = .ok (.aload_n 0, 1) := by decide +kernel
theorem og_62_76 : ov_GF 62 76 0 3 := ⟨31, true, 265, by decide +kernel, by decide +kernel⟩
theorem od_62_79 : decode (ov_byt 62) 79 = .ok (.iload_n 1, 1) := by decide +kernel
theorem oc_62_80 : ov_CL 62 80 1 65 := ⟨160, (518, 519, 520), (by show decode (ov_byt 62) 80 = Except.ok (Instr.invokevirtual 160, 3); decide +kernel), by decide +kernel⟩
theorem od_62_83 : decode (ov_byt 62) 83 = .ok (.ireturn, 1) := by decide +kernel
theorem od_62_84 : decode (ov_byt 62) 84 = .ok (.aload_n 0, 1) := by decide +kernel
theorem og_62_85 : ov_GF 62 85 0 3 := ⟨31, true, 265, by decide +kernel, by decide +kernel⟩
theorem od_62_88 : decode (ov_byt 62) 88 = .ok (.iload_n 1, 1) := by decide +kernel
theorem oc_62_89 : ov_CL 62 89 1 35 := ⟨157, (517, 393, 394), (by show decode (ov_byt 62) 89 = Except.ok (Instr.invokevirtual 157, 3); decide +kernel), by decide +kernel⟩
theorem od_62_92 : decode (ov_byt 62) 92 = .ok (.aload_n 0, 1) := by decide +kernel
theorem og_62_93 : ov_GF 62 93 0 3 := ⟨31, true, 265, by decide +kernel, by decide +kernel⟩
theorem od_62_96 : decode (ov_byt 62) 96 = .ok (.iload_n 1, 1) := by decide +kernel
theorem oc_62_97 : ov_CL 62 97 1 66 := ⟨163, (522, 523, 524), (by show decode (ov_byt 62) 97 = Except.ok (Instr.invokevirtual 163, 3); decide +kernel), by decide +kernel⟩
theorem oc_62_100 : ov_CL 62 100 0 67 := ⟨166, (528, 529, 0), (by show decode (ov_byt 62) 100 = Except.ok (Instr.invokestatic 166, 3); decide +kernel), by decide +kernel⟩
theorem oc_62_103 : ov_CL 62 103 0 69 := ⟨172, (535, 536, 0), (by show decode (ov_byt 62) 103 = Except.ok (Instr.invokestatic 172, 3); decide +kernel), by decide +kernel⟩
theorem od_62_106 : decode (ov_byt 62) 106 = .ok (.ireturn, 1) := by decide +kernel
theorem od_62_107 : decode (ov_byt 62) 107 = .ok (.bipush (-2), 2) := by decide +kernel
theorem od_62_109 : decode (ov_byt 62) 109 = .ok (.ireturn, 1) := by decide +kernel
theorem od_62_11 : decode (ov_byt 62) 11 = .ok (.iconst (-1), 1) := by decide +kernel
theorem od_62_12 : decode (ov_byt 62) 12 = .ok (.ireturn, 1) := by decide +kernel
theorem od_62_8 : decode (ov_byt 62) 8 = .ok (.ifCond .ne 5, 3) := by decide +kernel
theorem od_70_0 : decode (ov_byt 70) 0 = .ok (.aload_n 0, 1) := by decide +kernel
theorem og_70_1 : ov_GF 70 1 0 1 := ⟨19, true, 263, by decide +kernel, by decide +kernel⟩
theorem od_70_4 : decode (ov_byt 70) 4 = .ok (.iload_n 1, 1) := by decide +kernel
theorem oc_70_5 : ov_CL 70 5 1 45 := ⟨177, (545, 438, 439), (by show decode (ov_byt 70) 5 = Except.ok (Instr.invokevirtual 177, 3); decide +kernel), by decide +kernel⟩
theorem od_70_13 : decode (ov_byt 70) 13 = .ok (.iload_n 2, 1) := by decide +kernel
theorem od_70_44 : decode (ov_byt 70) 44 = .ok (.aload_n 0, 1) := by decide +kernel
theorem og_70_45 : ov_GF 70 45 0 1 := ⟨19, true, 263, by decide +kernel, by decide +kernel⟩
theorem od_70_48 : decode (ov_byt 70) 48 = .ok (.iload_n 1, 1) := by decide +kernel
theorem oc_70_49 : ov_CL 70 49 1 44 := ⟨180, (546, 434, 435), (by show decode (ov_byt 70) 49 = Except.ok (Instr.invokevirtual 180, 3); decide +kernel), by decide +kernel⟩
theorem od_70_52 : decode (ov_byt 70) 52 = .ok (.ireturn, 1) := by decide +kernel
theorem od_70_14 : decode (ov_byt 70) 14 = .ok (.tableswitch 90 0 3 #[30, 39, 48, 68], 30) := by decide +kernel
theorem od_70_53 : decode (ov_byt 70) 53 = .ok (.aload_n 0, 1) := by decide +kernel
theorem og_70_54 : ov_GF 70 54 0 1 := ⟨19, true, 263, by decide +kernel, by decide +kernel⟩
theorem od_70_57 : decode (ov_byt 70) 57 = .ok (.iload_n 1, 1) := by decide +kernel
theorem oc_70_58 : ov_CL 70 58 1 46 := ⟨183, (547, 442, 443), (by show decode (ov_byt 70) 58 = Except.ok (Instr.invokevirtual 183, 3); decide +kernel), by decide +kernel⟩
theorem od_70_61 : decode (ov_byt 70) 61 = .ok (.ireturn, 1) := by decide +kernel
theorem od_70_62 : decode (ov_byt 70) 62 = .ok (.aload_n 0, 1) := by decide +kernel
theorem og_70_63 : ov_GF 70 63 0 3 := ⟨31, true, 265, by decide +kernel, by decide +kernel⟩
theorem oc_70_66 : ov_CL 70 66 1 41 := ⟨121, (421, 422, 423), (by show decode (ov_byt 70) 66 = Except.ok (Instr.invokevirtual 121, 3); decide +kernel), by decide +kernel⟩
theorem od_70_69 : decode (ov_byt 70) 69 = .ok (.iload_n 1, 1) := by decide +kernel
theorem oc_70_70 : ov_CL 70 70 0 23 := ⟨186, (548, 346, 0), (by show decode (ov_byt 70) 70 = Except.ok (Instr.invokestatic 186, 3); decide +kernel), by decide +kernel⟩
theorem od_70_80 : decode (ov_byt 70) 80 = .ok (.iconst 0, 1) := by decide +kernel
theorem od_70_81 : decode (ov_byt 70) 81 = .ok (.ireturn, 1) := by decide +kernel
theorem od_70_76 : decode (ov_byt 70) 76 = .ok (.iconst 1, 1) := by decide +kernel
theorem od_70_77 : decode (ov_byt 70) 77 = .ok (.goto 4, 3) := by decide +kernel
theorem od_70_73 : decode (ov_byt 70) 73 = .ok (.ifCond .eq 7, 3) := by decide +kernel
theorem od_70_82 : decode (ov_byt 70) 82 = .ok (.aload_n 0, 1) := by decide +kernel
theorem og_70_83 : ov_GF 70 83 0 3 := ⟨31, true, 265, by decide +kernel, by decide +kernel⟩
theorem od_70_86 : decode (ov_byt 70) 86 = .ok (.bipush 63, 2) := by decide +kernel
theorem oc_70_88 : ov_CL 70 88 1 42 := ⟨124, (425, 426, 427), (by show decode (ov_byt 70) 88 = Except.ok (Instr.invokevirtual 124, 3); decide +kernel), by decide +kernel⟩
theorem od_70_91 : decode (ov_byt 70) 91 = .ok (.iload_n 1, 1) := by decide +kernel
theorem oc_70_92 : ov_CL 70 92 0 23 := ⟨186, (548, 346, 0), (by show decode (ov_byt 70) 92 = Except.ok (Instr.invokestatic 186, 3); decide +kernel), by decide +kernel⟩
theorem od_70_102 : decode (ov_byt 70) 102 = .ok (.iconst 0, 1) := by decide +kernel
theorem od_70_103 : decode (ov_byt 70) 103 = .ok (.ireturn, 1) := by decide +kernel
theorem od_70_98 : decode (ov_byt 70) 98 = .ok (.iconst 1, 1) := by decide +kernel
theorem od_70_99 : decode (ov_byt 70) 99 = .ok (.goto 4, 3) := by decide +kernel
theorem od_70_95 : decode (ov_byt 70) 95 = .ok (.ifCond .eq 7, 3) := by decide +kernel
theorem od_70_104 : decode (ov_byt 70) 104 = .ok (.bipush (-2), 2) := by decide +kernel
theorem od_70_106 : decode (ov_byt 70) 106 = .ok (.ireturn, 1) := by decide +kernel
theorem od_70_11 : decode (ov_byt 70) 11 = .ok (.iconst (-1), 1) := by decide +kernel
theorem od_70_12 : decode (ov_byt 70) 12 = .ok (.ireturn, 1) := by decide +kernel
theorem od_70_8 : decode (ov_byt 70) 8 = .ok (.ifCond .ne 5, 3) := by decide +kernel
theorem od_71_0 : decode (ov_byt 71) 0 = .ok (.iload_n 1, 1) := by decide +kernel
theorem od_71_10 : decode (ov_byt 71) 10 = .ok (.bipush (-2), 2) := by decide +kernel
theorem od_71_12 : decode (ov_byt 71) 12 = .ok (.goto 11, 3) := by decide +kernel
theorem od_71_23 : decode (ov_byt 71) 23 = .ok (.ireturn, 1) := by decide +kernel
theorem od_71_4 : decode (ov_byt 71) 4 = .ok (.iload_n 1, 1) := by decide +kernel
theorem od_71_5 : decode (ov_byt 71) 5 = .ok (.bipush 6, 2) := by decide +kernel
theorem od_71_15 : decode (ov_byt 71) 15 = .ok (.aload_n 0, 1) := by decide +kernel
theorem og_71_16 : ov_GF 71 16 0 3 := ⟨31, true, 265, by decide +kernel, by decide +kernel⟩
theorem od_71_19 : decode (ov_byt 71) 19 = .ok (.iload_n 1, 1) := by decide +kernel
theorem oc_71_20 : ov_CL 71 20 1 72 := ⟨192, (553, 554, 555), (by show decode (ov_byt 71) 20 = Except.ok (Instr.invokevirtual 192, 3); decide +kernel), by decide +kernel⟩
theorem od_71_7 : decode (ov_byt 71) 7 = .ok (.if_icmp .lt 8, 3) := by decide +kernel
theorem od_71_1 : decode (ov_byt 71) 1 = .ok (.ifCond .lt 9, 3) := by decide +kernel
theorem od_73_0 : decode (ov_byt 73) 0 = .ok (.aload_n 0, 1) := by decide +kernel
theorem og_73_1 : ov_GF 73 1 0 1 := ⟨19, true, 263, by decide +kernel, by decide +kernel⟩
theorem od_73_4 : decode (ov_byt 73) 4 = .ok (.iload_n 1, 1) := by decide +kernel
theorem oc_73_5 : ov_CL 73 5 1 29 := ⟨148, (508, 368, 369), (by show decode (ov_byt 73) 5 = Except.ok (Instr.invokevirtual 148, 3); decide +kernel), by decide +kernel⟩
theorem od_73_22 : decode (ov_byt 73) 22 = .ok (.iconst (-1), 1) := by decide +kernel
theorem od_73_23 : decode (ov_byt 73) 23 = .ok (.ireturn, 1) := by decide +kernel
theorem od_73_11 : decode (ov_byt 73) 11 = .ok (.aload_n 0, 1) := by decide +kernel
theorem og_73_12 : ov_GF 73 12 0 1 := ⟨19, true, 263, by decide +kernel, by decide +kernel⟩
theorem od_73_15 : decode (ov_byt 73) 15 = .ok (.iload_n 2, 1) := by decide +kernel
theorem oc_73_16 : ov_CL 73 16 1 58 := ⟨136, (485, 486, 487), (by show decode (ov_byt 73) 16 = Except.ok (Instr.invokevirtual 136, 3); decide +kernel), by decide +kernel⟩
theorem od_73_24 : decode (ov_byt 73) 24 = .ok (.aload_n 0, 1) := by decide +kernel
theorem og_73_25 : ov_GF 73 25 0 3 := ⟨31, true, 265, by decide +kernel, by decide +kernel⟩
theorem od_73_28 : decode (ov_byt 73) 28 = .ok (.iload_n 1, 1) := by decide +kernel
theorem od_73_29 : decode (ov_byt 73) 29 = .ok (.iload_n 2, 1) := by decide +kernel
theorem oc_73_30 : ov_CL 73 30 1 74 := ⟨195, (562, 563, 564), (by show decode (ov_byt 73) 30 = Except.ok (Instr.invokevirtual 195, 3); decide +kernel), by decide +kernel⟩
theorem od_73_39 : decode (ov_byt 73) 39 = .ok (.aload_n 0, 1) := by decide +kernel
theorem og_73_40 : ov_GF 73 40 0 5 := ⟨41, true, 267, by decide +kernel, by decide +kernel⟩
theorem od_73_43 : decode (ov_byt 73) 43 = .ok (.iconst 0, 1) := by decide +kernel
theorem od_73_44 : decode (ov_byt 73) 44 = .ok (.iload_n 1, 1) := by decide +kernel
theorem od_73_45 : decode (ov_byt 73) 45 = .ok (.bipush (-9), 2) := by decide +kernel
theorem oc_73_47 : ov_CL 73 47 1 75 := ⟨198, (567, 568, 569), (by show decode (ov_byt 73) 47 = Except.ok (Instr.invokevirtual 198, 3); decide +kernel), by decide +kernel⟩
theorem od_73_50 : decode (ov_byt 73) 50 = .ok (.aload_n 0, 1) := by decide +kernel
theorem og_73_51 : ov_GF 73 51 0 3 := ⟨31, true, 265, by decide +kernel, by decide +kernel⟩
theorem od_73_54 : decode (ov_byt 73) 54 = .ok (.iload_n 1, 1) := by decide +kernel
theorem oc_73_55 : ov_CL 73 55 1 35 := ⟨157, (517, 393, 394), (by show decode (ov_byt 73) 55 = Except.ok (Instr.invokevirtual 157, 3); decide +kernel), by decide +kernel⟩
theorem od_73_58 : decode (ov_byt 73) 58 = .ok (.ireturn, 1) := by decide +kernel
theorem od_73_36 : decode (ov_byt 73) 36 = .ok (.bipush (-3), 2) := by decide +kernel
theorem od_73_38 : decode (ov_byt 73) 38 = .ok (.ireturn, 1) := by decide +kernel
theorem od_73_33 : decode (ov_byt 73) 33 = .ok (.ifCond .ne 6, 3) := by decide +kernel
theorem od_73_19 : decode (ov_byt 73) 19 = .ok (.ifCond .ne 5, 3) := by decide +kernel
theorem od_73_8 : decode (ov_byt 73) 8 = .ok (.ifCond .eq 14, 3) := by decide +kernel
theorem od_78_0 : decode (ov_byt 78) 0 = .ok (.aload_n 0, 1) := by decide +kernel
theorem od_78_1 : decode (ov_byt 78) 1 = .ok (.iload_n 1, 1) := by decide +kernel
theorem oc_78_2 : ov_CL 78 2 1 35 := ⟨48, (392, 393, 394), (by show decode (ov_byt 78) 2 = Except.ok (Instr.invokevirtual 48, 3); decide +kernel), by decide +kernel⟩
theorem od_78_5 : decode (ov_byt 78) 5 = .ok (.iload_n 2, 1) := by decide +kernel
theorem oc_78_6 : ov_CL 78 6 0 79 := ⟨128, (586, 587, 0), (by show decode (ov_byt 78) 6 = Except.ok (Instr.invokestatic 128, 3); decide +kernel), by decide +kernel⟩
theorem od_78_9 : decode (ov_byt 78) 9 = .ok (.istore_n 3, 1) := by decide +kernel
theorem od_78_10 : decode (ov_byt 78) 10 = .ok (.aload_n 0, 1) := by decide +kernel
theorem og_78_11 : ov_GF 78 11 3 0 := ⟨18, true, 163, by decide +kernel, by decide +kernel⟩
theorem od_78_14 : decode (ov_byt 78) 14 = .ok (.iload_n 1, 1) := by decide +kernel
theorem oc_78_15 : ov_CL 78 15 1 29 := ⟨44, (396, 368, 369), (by show decode (ov_byt 78) 15 = Except.ok (Instr.invokevirtual 44, 3); decide +kernel), by decide +kernel⟩
theorem od_78_33 : decode (ov_byt 78) 33 = .ok (.iconst 0, 1) := by decide +kernel
theorem od_78_34 : decode (ov_byt 78) 34 = .ok (.ireturn, 1) := by decide +kernel
theorem od_78_21 : decode (ov_byt 78) 21 = .ok (.aload_n 0, 1) := by decide +kernel
theorem od_78_22 : decode (ov_byt 78) 22 = .ok (.iload_n 1, 1) := by decide +kernel
theorem oc_78_23 : ov_CL 78 23 1 66 := ⟨131, (592, 523, 524), (by show decode (ov_byt 78) 23 = Except.ok (Instr.invokevirtual 131, 3); decide +kernel), by decide +kernel⟩
theorem od_78_26 : decode (ov_byt 78) 26 = .ok (.iload_n 3, 1) := by decide +kernel
theorem oc_78_27 : ov_CL 78 27 0 23 := ⟨71, (418, 346, 0), (by show decode (ov_byt 78) 27 = Except.ok (Instr.invokestatic 71, 3); decide +kernel), by decide +kernel⟩
theorem od_78_35 : decode (ov_byt 78) 35 = .ok (.aload_n 0, 1) := by decide +kernel
theorem og_78_36 : ov_GF 78 36 3 1 := ⟨9, true, 164, by decide +kernel, by decide +kernel⟩
theorem od_78_39 : decode (ov_byt 78) 39 = .ok (.iload_n 1, 1) := by decide +kernel
theorem od_78_40 : decode (ov_byt 78) 40 = .ok (.iload_n 3, 1) := by decide +kernel
theorem od_78_41 : decode (ov_byt 78) 41 = .ok (.iastore, 1) := by decide +kernel
theorem od_78_42 : decode (ov_byt 78) 42 = .ok (.aload_n 0, 1) := by decide +kernel
theorem od_78_43 : decode (ov_byt 78) 43 = .ok (.dup, 1) := by decide +kernel
theorem og_78_44 : ov_GF 78 44 3 4 := ⟨35, false, 167, by decide +kernel, by decide +kernel⟩
theorem od_78_47 : decode (ov_byt 78) 47 = .ok (.iconst 1, 1) := by decide +kernel
theorem od_78_48 : decode (ov_byt 78) 48 = .ok (.iadd, 1) := by decide +kernel
theorem op_78_49 : ov_PF 78 49 3 4 := ⟨35, 167, by decide +kernel, by decide +kernel⟩
theorem od_78_52 : decode (ov_byt 78) 52 = .ok (.iconst 1, 1) := by decide +kernel
theorem od_78_53 : decode (ov_byt 78) 53 = .ok (.ireturn, 1) := by decide +kernel
theorem od_78_30 : decode (ov_byt 78) 30 = .ok (.ifCond .ne 5, 3) := by decide +kernel
theorem od_78_18 : decode (ov_byt 78) 18 = .ok (.ifCond .eq 15, 3) := by decide +kernel
theorem od_81_0 : decode (ov_byt 81) 0 = .ok (.aload_n 0, 1) := by decide +kernel
theorem od_81_1 : decode (ov_byt 81) 1 = .ok (.bipush 63, 2) := by decide +kernel
theorem oc_81_3 : ov_CL 81 3 1 42 := ⟨114, (601, 426, 427), (by show decode (ov_byt 81) 3 = Except.ok (Instr.invokevirtual 114, 3); decide +kernel), by decide +kernel⟩
theorem od_81_6 : decode (ov_byt 81) 6 = .ok (.iload_n 1, 1) := by decide +kernel
theorem oc_81_7 : ov_CL 81 7 0 23 := ⟨71, (418, 346, 0), (by show decode (ov_byt 81) 7 = Except.ok (Instr.invokestatic 71, 3); decide +kernel), by decide +kernel⟩
theorem od_81_15 : decode (ov_byt 81) 15 = .ok (.aload_n 0, 1) := by decide +kernel
theorem od_81_16 : decode (ov_byt 81) 16 = .ok (.aload_n 0, 1) := by decide +kernel
theorem og_81_17 : ov_GF 81 17 3 3 := ⟨31, false, 166, by decide +kernel, by decide +kernel⟩
theorem od_81_20 : decode (ov_byt 81) 20 = .ok (.iload_n 1, 1) := by decide +kernel
theorem oc_81_21 : ov_CL 81 21 0 27 := ⟨60, (397, 361, 0), (by show decode (ov_byt 81) 21 = Except.ok (Instr.invokestatic 60, 3); decide +kernel), by decide +kernel⟩
theorem op_81_24 : ov_PF 81 24 3 3 := ⟨31, 166, by decide +kernel, by decide +kernel⟩
theorem od_81_27 : decode (ov_byt 81) 27 = .ok (.aload_n 0, 1) := by decide +kernel
theorem od_81_28 : decode (ov_byt 81) 28 = .ok (.dup, 1) := by decide +kernel
theorem og_81_29 : ov_GF 81 29 3 4 := ⟨35, false, 167, by decide +kernel, by decide +kernel⟩
theorem od_81_32 : decode (ov_byt 81) 32 = .ok (.iconst 1, 1) := by decide +kernel
theorem od_81_33 : decode (ov_byt 81) 33 = .ok (.iadd, 1) := by decide +kernel
theorem op_81_34 : ov_PF 81 34 3 4 := ⟨35, 167, by decide +kernel, by decide +kernel⟩
theorem od_81_37 : decode (ov_byt 81) 37 = .ok (.iconst 1, 1) := by decide +kernel
theorem od_81_38 : decode (ov_byt 81) 38 = .ok (.ireturn, 1) := by decide +kernel
theorem od_81_13 : decode (ov_byt 81) 13 = .ok (.iconst 0, 1) := by decide +kernel
theorem od_81_14 : decode (ov_byt 81) 14 = .ok (.ireturn, 1) := by decide +kernel
theorem od_81_10 : decode (ov_byt 81) 10 = .ok (.ifCond .ne 5, 3) := by decide +kernel
theorem od_82_0 : decode (ov_byt 82) 0 = .ok (.aload_n 0, 1) := by decide +kernel
theorem og_82_1 : ov_GF 82 1 0 1 := ⟨19, true, 263, by decide +kernel, by decide +kernel⟩
theorem od_82_4 : decode (ov_byt 82) 4 = .ok (.iload_n 1, 1) := by decide +kernel
theorem oc_82_5 : ov_CL 82 5 1 7 := ⟨142, (498, 160, 161), (by show decode (ov_byt 82) 5 = Except.ok (Instr.invokevirtual 142, 3); decide +kernel), by decide +kernel⟩
theorem od_82_18 : decode (ov_byt 82) 18 = .ok (.iconst (-1), 1) := by decide +kernel
theorem od_82_19 : decode (ov_byt 82) 19 = .ok (.ireturn, 1) := by decide +kernel
theorem od_82_11 : decode (ov_byt 82) 11 = .ok (.iload_n 2, 1) := by decide +kernel
theorem oc_82_12 : ov_CL 82 12 0 49 := ⟨208, (606, 453, 0), (by show decode (ov_byt 82) 12 = Except.ok (Instr.invokestatic 208, 3); decide +kernel), by decide +kernel⟩
theorem od_82_20 : decode (ov_byt 82) 20 = .ok (.aload_n 0, 1) := by decide +kernel
theorem og_82_21 : ov_GF 82 21 0 3 := ⟨31, true, 265, by decide +kernel, by decide +kernel⟩
theorem od_82_24 : decode (ov_byt 82) 24 = .ok (.iload_n 1, 1) := by decide +kernel
theorem oc_82_25 : ov_CL 82 25 1 61 := ⟨145, (499, 500, 501), (by show decode (ov_byt 82) 25 = Except.ok (Instr.invokevirtual 145, 3); decide +kernel), by decide +kernel⟩
theorem od_82_28 : decode (ov_byt 82) 28 = .ok (.istore_n 3, 1) := by decide +kernel
theorem od_82_29 : decode (ov_byt 82) 29 = .ok (.aload_n 0, 1) := by decide +kernel
theorem og_82_30 : ov_GF 82 30 0 3 := ⟨31, true, 265, by decide +kernel, by decide +kernel⟩
theorem od_82_33 : decode (ov_byt 82) 33 = .ok (.iload_n 1, 1) := by decide +kernel
theorem od_82_34 : decode (ov_byt 82) 34 = .ok (.iload_n 2, 1) := by decide +kernel
theorem oc_82_35 : ov_CL 82 35 1 83 := ⟨211, (607, 608, 609), (by show decode (ov_byt 82) 35 = Except.ok (Instr.invokevirtual 211, 3); decide +kernel), by decide +kernel⟩
theorem od_82_44 : decode (ov_byt 82) 44 = .ok (.aload_n 0, 1) := by decide +kernel
theorem og_82_45 : ov_GF 82 45 0 5 := ⟨41, true, 267, by decide +kernel, by decide +kernel⟩
theorem od_82_48 : decode (ov_byt 82) 48 = .ok (.iconst 2, 1) := by decide +kernel
theorem od_82_49 : decode (ov_byt 82) 49 = .ok (.iload_n 1, 1) := by decide +kernel
theorem od_82_50 : decode (ov_byt 82) 50 = .ok (.iload_n 3, 1) := by decide +kernel
theorem oc_82_51 : ov_CL 82 51 1 75 := ⟨198, (567, 568, 569), (by show decode (ov_byt 82) 51 = Except.ok (Instr.invokevirtual 198, 3); decide +kernel), by decide +kernel⟩
theorem od_82_54 : decode (ov_byt 82) 54 = .ok (.iload_n 3, 1) := by decide +kernel
theorem od_82_55 : decode (ov_byt 82) 55 = .ok (.ireturn, 1) := by decide +kernel
theorem od_82_41 : decode (ov_byt 82) 41 = .ok (.bipush (-3), 2) := by decide +kernel
theorem od_82_43 : decode (ov_byt 82) 43 = .ok (.ireturn, 1) := by decide +kernel
theorem od_82_38 : decode (ov_byt 82) 38 = .ok (.ifCond .ne 6, 3) := by decide +kernel
theorem od_82_15 : decode (ov_byt 82) 15 = .ok (.ifCond .ne 5, 3) := by decide +kernel
theorem od_82_8 : decode (ov_byt 82) 8 = .ok (.ifCond .eq 10, 3) := by decide +kernel
theorem od_93_0 : decode (ov_byt 93) 0 = .ok (.aload_n 0, 1) := by decide +kernel
theorem og_93_1 : ov_GF 93 1 0 1 := ⟨19, true, 263, by decide +kernel, by decide +kernel⟩
theorem od_93_4 : decode (ov_byt 93) 4 = .ok (.iload_n 1, 1) := by decide +kernel
