theorem od_210_13 : decode (ov_byt 210) 13 = .ok (.iload_n 1, 1) := by decide +kernel
theorem od_210_14 : decode (ov_byt 210) 14 = .ok (.bipush 10, 2) := by decide +kernel
theorem od_210_16 : decode (ov_byt 210) 16 = .ok (.irem, 1) := by decide +kernel
theorem od_210_17 : decode (ov_byt 210) 17 = .ok (.istore 4, 2) := by decide +kernel
theorem od_210_19 : decode (ov_byt 210) 19 = .ok (.iload_n 2, 1) := by decide +kernel
theorem od_210_20 : decode (ov_byt 210) 20 = .ok (.iconst 1, 1) := by decide +kernel
theorem od_210_72 : decode (ov_byt 210) 72 = .ok (.iload_n 2, 1) := by decide +kernel
theorem od_210_73 : decode (ov_byt 210) 73 = .ok (.iconst 2, 1) := by decide +kernel
theorem od_210_128 : decode (ov_byt 210) 128 = .ok (.iload_n 2, 1) := by decide +kernel
theorem od_210_129 : decode (ov_byt 210) 129 = .ok (.iconst 3, 1) := by decide +kernel
theorem od_210_159 : decode (ov_byt 210) 159 = .ok (.iconst 0, 1) := by decide +kernel
theorem od_210_160 : decode (ov_byt 210) 160 = .ok (.ireturn, 1) := by decide +kernel
theorem od_210_133 : decode (ov_byt 210) 133 = .ok (.iload_n 3, 1) := by decide +kernel
theorem od_210_137 : decode (ov_byt 210) 137 = .ok (.iload 4, 2) := by decide +kernel
theorem od_210_139 : decode (ov_byt 210) 139 = .ok (.aload_n 0, 1) := by decide +kernel
theorem og_210_140 : ov_GF 210 140 8 10 := ⟨157, false, 881, by decide +kernel, by decide +kernel⟩
theorem od_210_146 : decode (ov_byt 210) 146 = .ok (.aload_n 0, 1) := by decide +kernel
theorem od_210_147 : decode (ov_byt 210) 147 = .ok (.aload_n 0, 1) := by decide +kernel
theorem og_210_148 : ov_GF 210 148 8 24 := ⟨49, true, 895, by decide +kernel, by decide +kernel⟩
theorem od_210_151 : decode (ov_byt 210) 151 = .ok (.iload 4, 2) := by decide +kernel
theorem oc_210_153 : ov_CL 210 153 1 164 := ⟨188, (1084, 1086, 29), (by show decode (ov_byt 210) 153 = Except.ok (Instr.invokevirtual 188, 3); decide +kernel), by decide +kernel⟩
theorem od_210_161 : decode (ov_byt 210) 161 = .ok (.aload_n 0, 1) := by decide +kernel
theorem og_210_162 : ov_GF 210 162 8 24 := ⟨49, true, 895, by decide +kernel, by decide +kernel⟩
theorem od_210_165 : decode (ov_byt 210) 165 = .ok (.bipush 6, 2) := by decide +kernel
theorem od_210_167 : decode (ov_byt 210) 167 = .ok (.dup2, 1) := by decide +kernel
theorem od_210_168 : decode (ov_byt 210) 168 = .ok (.iaload, 1) := by decide +kernel
theorem od_210_169 : decode (ov_byt 210) 169 = .ok (.iconst 1, 1) := by decide +kernel
theorem od_210_170 : decode (ov_byt 210) 170 = .ok (.iload 4, 2) := by decide +kernel
theorem od_210_172 : decode (ov_byt 210) 172 = .ok (.ishl, 1) := by decide +kernel
theorem od_210_173 : decode (ov_byt 210) 173 = .ok (.ior, 1) := by decide +kernel
theorem od_210_174 : decode (ov_byt 210) 174 = .ok (.iastore, 1) := by decide +kernel
theorem od_210_175 : decode (ov_byt 210) 175 = .ok (.iconst 1, 1) := by decide +kernel
theorem od_210_176 : decode (ov_byt 210) 176 = .ok (.ireturn, 1) := by decide +kernel
theorem od_210_156 : decode (ov_byt 210) 156 = .ok (.ifCond .ne 5, 3) := by decide +kernel
theorem od_210_143 : decode (ov_byt 210) 143 = .ok (.if_icmp .ge 16, 3) := by decide +kernel
theorem od_210_134 : decode (ov_byt 210) 134 = .ok (.ifCond .ne 25, 3) := by decide +kernel
theorem od_210_130 : decode (ov_byt 210) 130 = .ok (.if_icmp .ne 29, 3) := by decide +kernel
theorem od_210_77 : decode (ov_byt 210) 77 = .ok (.aload_n 0, 1) := by decide +kernel
theorem od_210_78 : decode (ov_byt 210) 78 = .ok (.iload_n 3, 1) := by decide +kernel
theorem oc_210_79 : ov_CL 210 79 1 175 := ⟨223, (1127, 1129, 35), (by show decode (ov_byt 210) 79 = Except.ok (Instr.invokevirtual 223, 3); decide +kernel), by decide +kernel⟩
theorem od_210_85 : decode (ov_byt 210) 85 = .ok (.iload 4, 2) := by decide +kernel
theorem od_210_87 : decode (ov_byt 210) 87 = .ok (.iconst 4, 1) := by decide +kernel
theorem od_210_91 : decode (ov_byt 210) 91 = .ok (.aload_n 0, 1) := by decide +kernel
theorem od_210_92 : decode (ov_byt 210) 92 = .ok (.aload_n 0, 1) := by decide +kernel
theorem og_210_93 : ov_GF 210 93 8 24 := ⟨49, true, 895, by decide +kernel, by decide +kernel⟩
theorem od_210_96 : decode (ov_byt 210) 96 = .ok (.iload_n 3, 1) := by decide +kernel
theorem od_210_97 : decode (ov_byt 210) 97 = .ok (.iload 4, 2) := by decide +kernel
theorem oc_210_99 : ov_CL 210 99 1 189 := ⟨249, (1184, 1186, 44), (by show decode (ov_byt 210) 99 = Except.ok (Instr.invokevirtual 249, 3); decide +kernel), by decide +kernel⟩
theorem od_210_102 : decode (ov_byt 210) 102 = .ok (.bipush (-9), 2) := by decide +kernel
theorem od_210_107 : decode (ov_byt 210) 107 = .ok (.aload_n 0, 1) := by decide +kernel
theorem og_210_108 : ov_GF 210 108 8 24 := ⟨49, true, 895, by decide +kernel, by decide +kernel⟩
theorem od_210_111 : decode (ov_byt 210) 111 = .ok (.iconst 0, 1) := by decide +kernel
theorem od_210_112 : decode (ov_byt 210) 112 = .ok (.iload_n 3, 1) := by decide +kernel
theorem od_210_113 : decode (ov_byt 210) 113 = .ok (.iadd, 1) := by decide +kernel
theorem od_210_114 : decode (ov_byt 210) 114 = .ok (.aload_n 0, 1) := by decide +kernel
theorem od_210_115 : decode (ov_byt 210) 115 = .ok (.aload_n 0, 1) := by decide +kernel
theorem og_210_116 : ov_GF 210 116 8 24 := ⟨49, true, 895, by decide +kernel, by decide +kernel⟩
theorem od_210_119 : decode (ov_byt 210) 119 = .ok (.iload_n 3, 1) := by decide +kernel
theorem od_210_120 : decode (ov_byt 210) 120 = .ok (.iload 4, 2) := by decide +kernel
theorem oc_210_122 : ov_CL 210 122 1 189 := ⟨249, (1184, 1186, 44), (by show decode (ov_byt 210) 122 = Except.ok (Instr.invokevirtual 249, 3); decide +kernel), by decide +kernel⟩
theorem od_210_125 : decode (ov_byt 210) 125 = .ok (.iastore, 1) := by decide +kernel
theorem od_210_126 : decode (ov_byt 210) 126 = .ok (.iconst 1, 1) := by decide +kernel
theorem od_210_127 : decode (ov_byt 210) 127 = .ok (.ireturn, 1) := by decide +kernel
theorem od_210_104 : decode (ov_byt 210) 104 = .ok (.if_icmp .eq 24, 3) := by decide +kernel
theorem od_210_88 : decode (ov_byt 210) 88 = .ok (.if_icmp .ge 40, 3) := by decide +kernel
theorem od_210_82 : decode (ov_byt 210) 82 = .ok (.ifCond .ne 46, 3) := by decide +kernel
theorem od_210_74 : decode (ov_byt 210) 74 = .ok (.if_icmp .ne 54, 3) := by decide +kernel
theorem od_210_24 : decode (ov_byt 210) 24 = .ok (.aload_n 0, 1) := by decide +kernel
theorem od_210_25 : decode (ov_byt 210) 25 = .ok (.iload_n 3, 1) := by decide +kernel
theorem oc_210_26 : ov_CL 210 26 1 175 := ⟨223, (1127, 1129, 35), (by show decode (ov_byt 210) 26 = Except.ok (Instr.invokevirtual 223, 3); decide +kernel), by decide +kernel⟩
theorem od_210_32 : decode (ov_byt 210) 32 = .ok (.aload_n 0, 1) := by decide +kernel
theorem od_210_33 : decode (ov_byt 210) 33 = .ok (.iload 4, 2) := by decide +kernel
theorem oc_210_35 : ov_CL 210 35 1 172 := ⟨215, (1115, 1117, 34), (by show decode (ov_byt 210) 35 = Except.ok (Instr.invokevirtual 215, 3); decide +kernel), by decide +kernel⟩
theorem od_210_41 : decode (ov_byt 210) 41 = .ok (.aload_n 0, 1) := by decide +kernel
theorem od_210_42 : decode (ov_byt 210) 42 = .ok (.aload_n 0, 1) := by decide +kernel
theorem og_210_43 : ov_GF 210 43 8 24 := ⟨49, true, 895, by decide +kernel, by decide +kernel⟩
theorem od_210_46 : decode (ov_byt 210) 46 = .ok (.iload_n 3, 1) := by decide +kernel
theorem od_210_47 : decode (ov_byt 210) 47 = .ok (.iload 4, 2) := by decide +kernel
theorem oc_210_49 : ov_CL 210 49 1 185 := ⟨240, (1167, 1169, 41), (by show decode (ov_byt 210) 49 = Except.ok (Instr.invokevirtual 240, 3); decide +kernel), by decide +kernel⟩
theorem od_210_55 : decode (ov_byt 210) 55 = .ok (.aload_n 0, 1) := by decide +kernel
theorem og_210_56 : ov_GF 210 56 8 24 := ⟨49, true, 895, by decide +kernel, by decide +kernel⟩
theorem od_210_59 : decode (ov_byt 210) 59 = .ok (.iconst 0, 1) := by decide +kernel
theorem od_210_60 : decode (ov_byt 210) 60 = .ok (.iload_n 3, 1) := by decide +kernel
theorem od_210_61 : decode (ov_byt 210) 61 = .ok (.iadd, 1) := by decide +kernel
theorem od_210_62 : decode (ov_byt 210) 62 = .ok (.aload_n 0, 1) := by decide +kernel
theorem og_210_63 : ov_GF 210 63 8 5 := ⟨13, true, 876, by decide +kernel, by decide +kernel⟩
theorem od_210_66 : decode (ov_byt 210) 66 = .ok (.iload 4, 2) := by decide +kernel
theorem od_210_68 : decode (ov_byt 210) 68 = .ok (.iaload, 1) := by decide +kernel
theorem od_210_69 : decode (ov_byt 210) 69 = .ok (.iastore, 1) := by decide +kernel
theorem od_210_70 : decode (ov_byt 210) 70 = .ok (.iconst 1, 1) := by decide +kernel
theorem od_210_71 : decode (ov_byt 210) 71 = .ok (.ireturn, 1) := by decide +kernel
theorem od_210_52 : decode (ov_byt 210) 52 = .ok (.ifCond .eq 20, 3) := by decide +kernel
theorem od_210_38 : decode (ov_byt 210) 38 = .ok (.ifCond .ne 34, 3) := by decide +kernel
theorem od_210_29 : decode (ov_byt 210) 29 = .ok (.ifCond .ne 43, 3) := by decide +kernel
theorem od_210_21 : decode (ov_byt 210) 21 = .ok (.if_icmp .ne 51, 3) := by decide +kernel
theorem od_32_0 : decode (ov_byt 32) 0 = .ok (.iload_n 1, 1) := by decide +kernel
theorem od_32_68 : decode (ov_byt 32) 68 = .ok (.aload_n 0, 1) := by decide +kernel
theorem og_32_69 : ov_GF 32 69 0 1 := ⟨19, true, 263, by decide +kernel, by decide +kernel⟩
theorem og_32_72 : ov_GF 32 72 2 0 := ⟨103, false, 101, by decide +kernel, by decide +kernel⟩
theorem od_32_75 : decode (ov_byt 32) 75 = .ok (.ireturn, 1) := by decide +kernel
theorem od_32_1 : decode (ov_byt 32) 1 = .ok (.tableswitch 173 0 12 #[67, 75, 83, 91, 99, 107, 115, 123, 133, 141, 149, 157, 165], 67) := by decide +kernel
theorem od_32_76 : decode (ov_byt 32) 76 = .ok (.aload_n 0, 1) := by decide +kernel
theorem og_32_77 : ov_GF 32 77 0 1 := ⟨19, true, 263, by decide +kernel, by decide +kernel⟩
theorem og_32_80 : ov_GF 32 80 2 1 := ⟨106, false, 104, by decide +kernel, by decide +kernel⟩
theorem od_32_83 : decode (ov_byt 32) 83 = .ok (.ireturn, 1) := by decide +kernel
theorem od_32_84 : decode (ov_byt 32) 84 = .ok (.aload_n 0, 1) := by decide +kernel
theorem og_32_85 : ov_GF 32 85 0 1 := ⟨19, true, 263, by decide +kernel, by decide +kernel⟩
theorem og_32_88 : ov_GF 32 88 2 2 := ⟨109, false, 107, by decide +kernel, by decide +kernel⟩
theorem od_32_91 : decode (ov_byt 32) 91 = .ok (.ireturn, 1) := by decide +kernel
theorem od_32_92 : decode (ov_byt 32) 92 = .ok (.aload_n 0, 1) := by decide +kernel
theorem og_32_93 : ov_GF 32 93 0 1 := ⟨19, true, 263, by decide +kernel, by decide +kernel⟩
theorem og_32_96 : ov_GF 32 96 2 3 := ⟨112, false, 110, by decide +kernel, by decide +kernel⟩
theorem od_32_99 : decode (ov_byt 32) 99 = .ok (.ireturn, 1) := by decide +kernel
theorem od_32_100 : decode (ov_byt 32) 100 = .ok (.aload_n 0, 1) := by decide +kernel
theorem og_32_101 : ov_GF 32 101 0 3 := ⟨31, true, 265, by decide +kernel, by decide +kernel⟩
theorem oc_32_104 : ov_CL 32 104 1 33 := ⟨115, (384, 385, 386), (by show decode (ov_byt 32) 104 = Except.ok (Instr.invokevirtual 115, 3); decide +kernel), by decide +kernel⟩
theorem od_32_107 : decode (ov_byt 32) 107 = .ok (.ireturn, 1) := by decide +kernel
theorem od_32_108 : decode (ov_byt 32) 108 = .ok (.aload_n 0, 1) := by decide +kernel
theorem og_32_109 : ov_GF 32 109 0 3 := ⟨31, true, 265, by decide +kernel, by decide +kernel⟩
theorem oc_32_112 : ov_CL 32 112 1 36 := ⟨118, (398, 399, 400), (by show decode (ov_byt 32) 112 = Except.ok (Instr.invokevirtual 118, 3); decide +kernel), by decide +kernel⟩
theorem od_32_115 : decode (ov_byt 32) 115 = .ok (.ireturn, 1) := by decide +kernel
theorem od_32_116 : decode (ov_byt 32) 116 = .ok (.aload_n 0, 1) := by decide +kernel
theorem og_32_117 : ov_GF 32 117 0 3 := ⟨31, true, 265, by decide +kernel, by decide +kernel⟩
theorem oc_32_120 : ov_CL 32 120 1 41 := ⟨121, (421, 422, 423), (by show decode (ov_byt 32) 120 = Except.ok (Instr.invokevirtual 121, 3); decide +kernel), by decide +kernel⟩
theorem od_32_123 : decode (ov_byt 32) 123 = .ok (.ireturn, 1) := by decide +kernel
theorem od_32_124 : decode (ov_byt 32) 124 = .ok (.aload_n 0, 1) := by decide +kernel
theorem og_32_125 : ov_GF 32 125 0 3 := ⟨31, true, 265, by decide +kernel, by decide +kernel⟩
theorem od_32_128 : decode (ov_byt 32) 128 = .ok (.bipush 63, 2) := by decide +kernel
theorem oc_32_130 : ov_CL 32 130 1 42 := ⟨124, (425, 426, 427), (by show decode (ov_byt 32) 130 = Except.ok (Instr.invokevirtual 124, 3); decide +kernel), by decide +kernel⟩
theorem od_32_133 : decode (ov_byt 32) 133 = .ok (.ireturn, 1) := by decide +kernel
theorem od_32_134 : decode (ov_byt 32) 134 = .ok (.aload_n 0, 1) := by decide +kernel
theorem og_32_135 : ov_GF 32 135 0 3 := ⟨31, true, 265, by decide +kernel, by decide +kernel⟩
theorem oc_32_138 : ov_CL 32 138 1 53 := ⟨128, (465, 466, 467), (by show decode (ov_byt 32) 138 = Except.ok (Instr.invokevirtual 128, 3); decide +kernel), by decide +kernel⟩
theorem od_32_141 : decode (ov_byt 32) 141 = .ok (.ireturn, 1) := by decide +kernel
theorem od_32_142 : decode (ov_byt 32) 142 = .ok (.aload_n 0, 1) := by decide +kernel
theorem og_32_143 : ov_GF 32 143 0 3 := ⟨31, true, 265, by decide +kernel, by decide +kernel⟩
theorem oc_32_146 : ov_CL 32 146 1 54 := ⟨131, (469, 470, 471), (by show decode (ov_byt 32) 146 = Except.ok (Instr.invokevirtual 131, 3); decide +kernel), by decide +kernel⟩
theorem od_32_149 : decode (ov_byt 32) 149 = .ok (.ireturn, 1) := by decide +kernel
theorem od_32_150 : decode (ov_byt 32) 150 = .ok (.aload_n 0, 1) := by decide +kernel
theorem og_32_151 : ov_GF 32 151 0 5 := ⟨41, true, 267, by decide +kernel, by decide +kernel⟩
theorem oc_32_154 : ov_CL 32 154 1 55 := ⟨134, (473, 474, 475), (by show decode (ov_byt 32) 154 = Except.ok (Instr.invokevirtual 134, 3); decide +kernel), by decide +kernel⟩
theorem od_32_157 : decode (ov_byt 32) 157 = .ok (.ireturn, 1) := by decide +kernel
theorem od_32_158 : decode (ov_byt 32) 158 = .ok (.aload_n 0, 1) := by decide +kernel
theorem og_32_159 : ov_GF 32 159 0 6 := ⟨48, true, 268, by decide +kernel, by decide +kernel⟩
theorem oc_32_162 : ov_CL 32 162 1 56 := ⟨135, (477, 478, 479), (by show decode (ov_byt 32) 162 = Except.ok (Instr.invokevirtual 135, 3); decide +kernel), by decide +kernel⟩
theorem od_32_165 : decode (ov_byt 32) 165 = .ok (.ireturn, 1) := by decide +kernel
theorem od_32_166 : decode (ov_byt 32) 166 = .ok (.aload_n 0, 1) := by decide +kernel
theorem og_32_167 : ov_GF 32 167 0 0 := ⟨12, true, 262, by decide +kernel, by decide +kernel⟩
theorem oc_32_170 : ov_CL 32 170 1 14 := ⟨86, (307, 308, 309), (by show decode (ov_byt 32) 170 = Except.ok (Instr.invokevirtual 86, 3); decide +kernel), by decide +kernel⟩
theorem od_32_173 : decode (ov_byt 32) 173 = .ok (.ireturn, 1) := by decide +kernel
theorem od_32_174 : decode (ov_byt 32) 174 = .ok (.bipush (-2), 2) := by decide +kernel
theorem od_32_176 : decode (ov_byt 32) 176 = .ok (.ireturn, 1) := by decide +kernel
theorem od_77_0 : decode (ov_byt 77) 0 = .ok (.aload_n 0, 1) := by decide +kernel
theorem og_77_1 : ov_GF 77 1 0 1 := ⟨19, true, 263, by decide +kernel, by decide +kernel⟩
theorem od_77_4 : decode (ov_byt 77) 4 = .ok (.iload_n 1, 1) := by decide +kernel
theorem oc_77_5 : ov_CL 77 5 1 29 := ⟨148, (508, 368, 369), (by show decode (ov_byt 77) 5 = Except.ok (Instr.invokevirtual 148, 3); decide +kernel), by decide +kernel⟩
theorem od_77_13 : decode (ov_byt 77) 13 = .ok (.iload_n 2, 1) := by decide +kernel
theorem od_77_22 : decode (ov_byt 77) 22 = .ok (.bipush (-2), 2) := by decide +kernel
theorem od_77_24 : decode (ov_byt 77) 24 = .ok (.ireturn, 1) := by decide +kernel
theorem od_77_17 : decode (ov_byt 77) 17 = .ok (.iload_n 2, 1) := by decide +kernel
theorem od_77_18 : decode (ov_byt 77) 18 = .ok (.iconst 3, 1) := by decide +kernel
theorem od_77_25 : decode (ov_byt 77) 25 = .ok (.aload_n 0, 1) := by decide +kernel
theorem og_77_26 : ov_GF 77 26 0 3 := ⟨31, true, 265, by decide +kernel, by decide +kernel⟩
theorem od_77_29 : decode (ov_byt 77) 29 = .ok (.iload_n 1, 1) := by decide +kernel
theorem oc_77_30 : ov_CL 77 30 1 35 := ⟨157, (517, 393, 394), (by show decode (ov_byt 77) 30 = Except.ok (Instr.invokevirtual 157, 3); decide +kernel), by decide +kernel⟩
theorem od_77_33 : decode (ov_byt 77) 33 = .ok (.istore_n 3, 1) := by decide +kernel
theorem od_77_34 : decode (ov_byt 77) 34 = .ok (.aload_n 0, 1) := by decide +kernel
theorem og_77_35 : ov_GF 77 35 0 3 := ⟨31, true, 265, by decide +kernel, by decide +kernel⟩
theorem od_77_38 : decode (ov_byt 77) 38 = .ok (.iload_n 1, 1) := by decide +kernel
theorem od_77_39 : decode (ov_byt 77) 39 = .ok (.iload_n 2, 1) := by decide +kernel
theorem oc_77_40 : ov_CL 77 40 1 78 := ⟨202, (582, 583, 584), (by show decode (ov_byt 77) 40 = Except.ok (Instr.invokevirtual 202, 3); decide +kernel), by decide +kernel⟩
theorem od_77_49 : decode (ov_byt 77) 49 = .ok (.aload_n 0, 1) := by decide +kernel
theorem og_77_50 : ov_GF 77 50 0 5 := ⟨41, true, 267, by decide +kernel, by decide +kernel⟩
theorem od_77_53 : decode (ov_byt 77) 53 = .ok (.iconst 0, 1) := by decide +kernel
theorem od_77_54 : decode (ov_byt 77) 54 = .ok (.iload_n 1, 1) := by decide +kernel
theorem od_77_55 : decode (ov_byt 77) 55 = .ok (.iload_n 3, 1) := by decide +kernel
theorem oc_77_56 : ov_CL 77 56 1 75 := ⟨198, (567, 568, 569), (by show decode (ov_byt 77) 56 = Except.ok (Instr.invokevirtual 198, 3); decide +kernel), by decide +kernel⟩
theorem od_77_59 : decode (ov_byt 77) 59 = .ok (.aload_n 0, 1) := by decide +kernel
theorem og_77_60 : ov_GF 77 60 0 3 := ⟨31, true, 265, by decide +kernel, by decide +kernel⟩
theorem od_77_63 : decode (ov_byt 77) 63 = .ok (.iload_n 1, 1) := by decide +kernel
theorem oc_77_64 : ov_CL 77 64 1 35 := ⟨157, (517, 393, 394), (by show decode (ov_byt 77) 64 = Except.ok (Instr.invokevirtual 157, 3); decide +kernel), by decide +kernel⟩
theorem od_77_67 : decode (ov_byt 77) 67 = .ok (.ireturn, 1) := by decide +kernel
theorem od_77_46 : decode (ov_byt 77) 46 = .ok (.bipush (-3), 2) := by decide +kernel
theorem od_77_48 : decode (ov_byt 77) 48 = .ok (.ireturn, 1) := by decide +kernel
theorem od_77_43 : decode (ov_byt 77) 43 = .ok (.ifCond .ne 6, 3) := by decide +kernel
theorem od_77_19 : decode (ov_byt 77) 19 = .ok (.if_icmp .le 6, 3) := by decide +kernel
theorem od_77_14 : decode (ov_byt 77) 14 = .ok (.ifCond .lt 8, 3) := by decide +kernel
theorem od_77_11 : decode (ov_byt 77) 11 = .ok (.iconst (-1), 1) := by decide +kernel
theorem od_77_12 : decode (ov_byt 77) 12 = .ok (.ireturn, 1) := by decide +kernel
theorem od_77_8 : decode (ov_byt 77) 8 = .ok (.ifCond .ne 5, 3) := by decide +kernel
theorem od_80_0 : decode (ov_byt 80) 0 = .ok (.aload_n 0, 1) := by decide +kernel
theorem og_80_1 : ov_GF 80 1 0 1 := ⟨19, true, 263, by decide +kernel, by decide +kernel⟩
theorem od_80_4 : decode (ov_byt 80) 4 = .ok (.iload_n 1, 1) := by decide +kernel
theorem oc_80_5 : ov_CL 80 5 1 45 := ⟨177, (545, 438, 439), (by show decode (ov_byt 80) 5 = Except.ok (Instr.invokevirtual 177, 3); decide +kernel), by decide +kernel⟩
theorem od_80_13 : decode (ov_byt 80) 13 = .ok (.aload_n 0, 1) := by decide +kernel
theorem og_80_14 : ov_GF 80 14 0 3 := ⟨31, true, 265, by decide +kernel, by decide +kernel⟩
theorem od_80_17 : decode (ov_byt 80) 17 = .ok (.iload_n 1, 1) := by decide +kernel
theorem oc_80_18 : ov_CL 80 18 1 81 := ⟨205, (597, 598, 599), (by show decode (ov_byt 80) 18 = Except.ok (Instr.invokevirtual 205, 3); decide +kernel), by decide +kernel⟩
theorem od_80_27 : decode (ov_byt 80) 27 = .ok (.aload_n 0, 1) := by decide +kernel
theorem og_80_28 : ov_GF 80 28 0 5 := ⟨41, true, 267, by decide +kernel, by decide +kernel⟩
theorem od_80_31 : decode (ov_byt 80) 31 = .ok (.iconst 1, 1) := by decide +kernel
theorem od_80_32 : decode (ov_byt 80) 32 = .ok (.iload_n 1, 1) := by decide +kernel
theorem od_80_33 : decode (ov_byt 80) 33 = .ok (.bipush (-9), 2) := by decide +kernel
theorem oc_80_35 : ov_CL 80 35 1 75 := ⟨198, (567, 568, 569), (by show decode (ov_byt 80) 35 = Except.ok (Instr.invokevirtual 198, 3); decide +kernel), by decide +kernel⟩
theorem od_80_38 : decode (ov_byt 80) 38 = .ok (.aload_n 0, 1) := by decide +kernel
theorem og_80_39 : ov_GF 80 39 0 3 := ⟨31, true, 265, by decide +kernel, by decide +kernel⟩
theorem oc_80_42 : ov_CL 80 42 1 41 := ⟨121, (421, 422, 423), (by show decode (ov_byt 80) 42 = Except.ok (Instr.invokevirtual 121, 3); decide +kernel), by decide +kernel⟩
theorem oc_80_45 : ov_CL 80 45 0 69 := ⟨172, (535, 536, 0), (by show decode (ov_byt 80) 45 = Except.ok (Instr.invokestatic 172, 3); decide +kernel), by decide +kernel⟩
theorem od_80_48 : decode (ov_byt 80) 48 = .ok (.ireturn, 1) := by decide +kernel
theorem od_80_24 : decode (ov_byt 80) 24 = .ok (.bipush (-3), 2) := by decide +kernel
theorem od_80_26 : decode (ov_byt 80) 26 = .ok (.ireturn, 1) := by decide +kernel
theorem od_80_21 : decode (ov_byt 80) 21 = .ok (.ifCond .ne 6, 3) := by decide +kernel
theorem od_80_11 : decode (ov_byt 80) 11 = .ok (.iconst (-1), 1) := by decide +kernel
theorem od_80_12 : decode (ov_byt 80) 12 = .ok (.ireturn, 1) := by decide +kernel
theorem od_80_8 : decode (ov_byt 80) 8 = .ok (.ifCond .ne 5, 3) := by decide +kernel
theorem od_96_0 : decode (ov_byt 96) 0 = .ok (.aload_n 0, 1) := by decide +kernel
theorem og_96_1 : ov_GF 96 1 0 4 := ⟨35, true, 266, by decide +kernel, by decide +kernel⟩
theorem od_96_4 : decode (ov_byt 96) 4 = .ok (.aload_n 0, 1) := by decide +kernel
theorem og_96_5 : ov_GF 96 5 0 3 := ⟨31, true, 265, by decide +kernel, by decide +kernel⟩
theorem oc_96_8 : ov_CL 96 8 1 97 := ⟨242, (664, 665, 666), (by show decode (ov_byt 96) 8 = Except.ok (Instr.invokevirtual 242, 3); decide +kernel), by decide +kernel⟩
theorem od_96_11 : decode (ov_byt 96) 11 = .ok (.aload_n 0, 1) := by decide +kernel
theorem og_96_12 : ov_GF 96 12 0 3 := ⟨31, true, 265, by decide +kernel, by decide +kernel⟩
theorem od_96_15 : decode (ov_byt 96) 15 = .ok (.iload_n 1, 1) := by decide +kernel
theorem oc_96_16 : ov_CL 96 16 1 35 := ⟨157, (517, 393, 394), (by show decode (ov_byt 96) 16 = Except.ok (Instr.invokevirtual 157, 3); decide +kernel), by decide +kernel⟩
theorem od_96_19 : decode (ov_byt 96) 19 = .ok (.istore_n 2, 1) := by decide +kernel
theorem od_96_20 : decode (ov_byt 96) 20 = .ok (.iconst (-1), 1) := by decide +kernel
theorem od_96_21 : decode (ov_byt 96) 21 = .ok (.istore_n 3, 1) := by decide +kernel
theorem od_96_22 : decode (ov_byt 96) 22 = .ok (.aload_n 0, 1) := by decide +kernel
theorem og_96_23 : ov_GF 96 23 0 3 := ⟨31, true, 265, by decide +kernel, by decide +kernel⟩
theorem od_96_26 : decode (ov_byt 96) 26 = .ok (.iload_n 1, 1) := by decide +kernel
theorem oc_96_27 : ov_CL 96 27 1 66 := ⟨163, (522, 523, 524), (by show decode (ov_byt 96) 27 = Except.ok (Instr.invokevirtual 163, 3); decide +kernel), by decide +kernel⟩
theorem od_96_30 : decode (ov_byt 96) 30 = .ok (.istore 4, 2) := by decide +kernel
theorem od_96_32 : decode (ov_byt 96) 32 = .ok (.iload_n 2, 1) := by decide +kernel
theorem oc_96_33 : ov_CL 96 33 0 24 := ⟨246, (669, 349, 0), (by show decode (ov_byt 96) 33 = Except.ok (Instr.invokestatic 246, 3); decide +kernel), by decide +kernel⟩
theorem od_96_36 : decode (ov_byt 96) 36 = .ok (.istore 5, 2) := by decide +kernel
theorem od_96_38 : decode (ov_byt 96) 38 = .ok (.iload 5, 2) := by decide +kernel
theorem od_96_40 : decode (ov_byt 96) 40 = .ok (.istore 6, 2) := by decide +kernel
theorem od_96_42 : decode (ov_byt 96) 42 = .ok (.iconst 0, 1) := by decide +kernel
theorem od_96_43 : decode (ov_byt 96) 43 = .ok (.istore 7, 2) := by decide +kernel
theorem od_96_45 : decode (ov_byt 96) 45 = .ok (.iload 7, 2) := by decide +kernel
theorem od_96_47 : decode (ov_byt 96) 47 = .ok (.bipush 18, 2) := by decide +kernel
theorem od_96_52 : decode (ov_byt 96) 52 = .ok (.iload 5, 2) := by decide +kernel
theorem od_96_57 : decode (ov_byt 96) 57 = .ok (.iconst 0, 1) := by decide +kernel
theorem od_96_58 : decode (ov_byt 96) 58 = .ok (.istore 8, 2) := by decide +kernel
theorem od_96_60 : decode (ov_byt 96) 60 = .ok (.iload 8, 2) := by decide +kernel
theorem od_96_62 : decode (ov_byt 96) 62 = .ok (.bipush 18, 2) := by decide +kernel
theorem od_96_67 : decode (ov_byt 96) 67 = .ok (.iload 5, 2) := by decide +kernel
theorem od_96_69 : decode (ov_byt 96) 69 = .ok (.iload 8, 2) := by decide +kernel
theorem oc_96_71 : ov_CL 96 71 0 23 := ⟨186, (548, 346, 0), (by show decode (ov_byt 96) 71 = Except.ok (Instr.invokestatic 186, 3); decide +kernel), by decide +kernel⟩
theorem od_96_87 : decode (ov_byt 96) 87 = .ok (.iconst (-1), 1) := by decide +kernel
theorem od_96_88 : decode (ov_byt 96) 88 = .ok (.istore 9, 2) := by decide +kernel
theorem od_96_90 : decode (ov_byt 96) 90 = .ok (.iload 9, 2) := by decide +kernel
theorem od_96_92 : decode (ov_byt 96) 92 = .ok (.iload_n 3, 1) := by decide +kernel
theorem od_96_102 : decode (ov_byt 96) 102 = .ok (.iinc 8 1, 3) := by decide +kernel
theorem od_96_105 : decode (ov_byt 96) 105 = .ok (.goto (-45), 3) := by decide +kernel
theorem od_96_96 : decode (ov_byt 96) 96 = .ok (.iload 9, 2) := by decide +kernel
theorem od_96_98 : decode (ov_byt 96) 98 = .ok (.istore_n 3, 1) := by decide +kernel
theorem od_96_99 : decode (ov_byt 96) 99 = .ok (.iload 8, 2) := by decide +kernel
theorem od_96_101 : decode (ov_byt 96) 101 = .ok (.istore_n 2, 1) := by decide +kernel
theorem od_96_93 : decode (ov_byt 96) 93 = .ok (.if_icmp .le 9, 3) := by decide +kernel
theorem od_96_77 : decode (ov_byt 96) 77 = .ok (.aload_n 0, 1) := by decide +kernel
theorem od_96_78 : decode (ov_byt 96) 78 = .ok (.iload_n 1, 1) := by decide +kernel
theorem od_96_79 : decode (ov_byt 96) 79 = .ok (.iload 8, 2) := by decide +kernel
theorem oc_96_81 : ov_CL 96 81 1 98 := ⟨239, (670, 672, 12), (by show decode (ov_byt 96) 81 = Except.ok (Instr.invokevirtual 239, 3); decide +kernel), by decide +kernel⟩
theorem od_96_84 : decode (ov_byt 96) 84 = .ok (.goto 4, 3) := by decide +kernel
theorem od_96_74 : decode (ov_byt 96) 74 = .ok (.ifCond .eq 13, 3) := by decide +kernel
theorem od_96_64 : decode (ov_byt 96) 64 = .ok (.if_icmp .ge 44, 3) := by decide +kernel
theorem od_96_108 : decode (ov_byt 96) 108 = .ok (.iload 6, 2) := by decide +kernel
theorem od_96_110 : decode (ov_byt 96) 110 = .ok (.iload 4, 2) := by decide +kernel
theorem oc_96_112 : ov_CL 96 112 0 68 := ⟨249, (681, 532, 0), (by show decode (ov_byt 96) 112 = Except.ok (Instr.invokestatic 249, 3); decide +kernel), by decide +kernel⟩
theorem od_96_115 : decode (ov_byt 96) 115 = .ok (.istore 5, 2) := by decide +kernel
theorem od_96_117 : decode (ov_byt 96) 117 = .ok (.iload 6, 2) := by decide +kernel
theorem od_96_119 : decode (ov_byt 96) 119 = .ok (.iload 5, 2) := by decide +kernel
theorem od_96_121 : decode (ov_byt 96) 121 = .ok (.ior, 1) := by decide +kernel
theorem od_96_122 : decode (ov_byt 96) 122 = .ok (.istore 6, 2) := by decide +kernel
theorem od_96_124 : decode (ov_byt 96) 124 = .ok (.iinc 7 1, 3) := by decide +kernel
theorem od_96_127 : decode (ov_byt 96) 127 = .ok (.goto (-82), 3) := by decide +kernel
theorem od_96_54 : decode (ov_byt 96) 54 = .ok (.ifCond .eq 76, 3) := by decide +kernel
theorem od_96_49 : decode (ov_byt 96) 49 = .ok (.if_icmp .ge 81, 3) := by decide +kernel
theorem od_96_130 : decode (ov_byt 96) 130 = .ok (.iload_n 2, 1) := by decide +kernel
theorem od_96_131 : decode (ov_byt 96) 131 = .ok (.ireturn, 1) := by decide +kernel
theorem od_100_0 : decode (ov_byt 100) 0 = .ok (.aload_n 0, 1) := by decide +kernel
theorem og_100_1 : ov_GF 100 1 0 1 := ⟨19, true, 263, by decide +kernel, by decide +kernel⟩
theorem od_100_4 : decode (ov_byt 100) 4 = .ok (.iload_n 1, 1) := by decide +kernel
theorem oc_100_5 : ov_CL 100 5 1 29 := ⟨148, (508, 368, 369), (by show decode (ov_byt 100) 5 = Except.ok (Instr.invokevirtual 148, 3); decide +kernel), by decide +kernel⟩
theorem od_100_22 : decode (ov_byt 100) 22 = .ok (.iconst (-1), 1) := by decide +kernel
theorem od_100_23 : decode (ov_byt 100) 23 = .ok (.ireturn, 1) := by decide +kernel
theorem od_100_11 : decode (ov_byt 100) 11 = .ok (.aload_n 0, 1) := by decide +kernel
theorem og_100_12 : ov_GF 100 12 0 1 := ⟨19, true, 263, by decide +kernel, by decide +kernel⟩
theorem od_100_15 : decode (ov_byt 100) 15 = .ok (.iload_n 2, 1) := by decide +kernel
theorem oc_100_16 : ov_CL 100 16 1 58 := ⟨136, (485, 486, 487), (by show decode (ov_byt 100) 16 = Except.ok (Instr.invokevirtual 136, 3); decide +kernel), by decide +kernel⟩
theorem od_100_24 : decode (ov_byt 100) 24 = .ok (.aload_n 0, 1) := by decide +kernel
theorem og_100_25 : ov_GF 100 25 0 3 := ⟨31, true, 265, by decide +kernel, by decide +kernel⟩
theorem od_100_28 : decode (ov_byt 100) 28 = .ok (.iload_n 1, 1) := by decide +kernel
theorem oc_100_29 : ov_CL 100 29 1 34 := ⟨229, (652, 389, 390), (by show decode (ov_byt 100) 29 = Except.ok (Instr.invokevirtual 229, 3); decide +kernel), by decide +kernel⟩
theorem od_100_38 : decode (ov_byt 100) 38 = .ok (.aload_n 0, 1) := by decide +kernel
theorem og_100_39 : ov_GF 100 39 0 4 := ⟨35, true, 266, by decide +kernel, by decide +kernel⟩
theorem od_100_42 : decode (ov_byt 100) 42 = .ok (.aload_n 0, 1) := by decide +kernel
theorem og_100_43 : ov_GF 100 43 0 3 := ⟨31, true, 265, by decide +kernel, by decide +kernel⟩
theorem oc_100_46 : ov_CL 100 46 1 97 := ⟨242, (664, 665, 666), (by show decode (ov_byt 100) 46 = Except.ok (Instr.invokevirtual 242, 3); decide +kernel), by decide +kernel⟩
theorem od_100_49 : decode (ov_byt 100) 49 = .ok (.aload_n 0, 1) := by decide +kernel
theorem og_100_50 : ov_GF 100 50 0 4 := ⟨35, true, 266, by decide +kernel, by decide +kernel⟩
theorem od_100_53 : decode (ov_byt 100) 53 = .ok (.iload_n 1, 1) := by decide +kernel
theorem od_100_54 : decode (ov_byt 100) 54 = .ok (.iload_n 2, 1) := by decide +kernel
theorem oc_100_55 : ov_CL 100 55 1 101 := ⟨259, (686, 687, 688), (by show decode (ov_byt 100) 55 = Except.ok (Instr.invokevirtual 259, 3); decide +kernel), by decide +kernel⟩
theorem od_100_58 : decode (ov_byt 100) 58 = .ok (.pop, 1) := by decide +kernel
theorem od_100_59 : decode (ov_byt 100) 59 = .ok (.aload_n 0, 1) := by decide +kernel
theorem og_100_60 : ov_GF 100 60 0 4 := ⟨35, true, 266, by decide +kernel, by decide +kernel⟩
theorem od_100_63 : decode (ov_byt 100) 63 = .ok (.iload_n 1, 1) := by decide +kernel
theorem oc_100_64 : ov_CL 100 64 1 35 := ⟨157, (517, 393, 394), (by show decode (ov_byt 100) 64 = Except.ok (Instr.invokevirtual 157, 3); decide +kernel), by decide +kernel⟩
theorem od_100_67 : decode (ov_byt 100) 67 = .ok (.ireturn, 1) := by decide +kernel
theorem od_100_35 : decode (ov_byt 100) 35 = .ok (.bipush (-3), 2) := by decide +kernel
theorem od_100_37 : decode (ov_byt 100) 37 = .ok (.ireturn, 1) := by decide +kernel
theorem od_100_32 : decode (ov_byt 100) 32 = .ok (.ifCond .eq 6, 3) := by decide +kernel
theorem od_100_19 : decode (ov_byt 100) 19 = .ok (.ifCond .ne 5, 3) := by decide +kernel
theorem od_100_8 : decode (ov_byt 100) 8 = .ok (.ifCond .eq 14, 3) := by decide +kernel
theorem od_112_0 : decode (ov_byt 112) 0 = .ok (.iload_n 1, 1) := by decide +kernel
theorem od_112_9 : decode (ov_byt 112) 9 = .ok (.bipush (-2), 2) := by decide +kernel
theorem od_112_11 : decode (ov_byt 112) 11 = .ok (.ireturn, 1) := by decide +kernel
theorem od_112_4 : decode (ov_byt 112) 4 = .ok (.iload_n 1, 1) := by decide +kernel
theorem od_112_5 : decode (ov_byt 112) 5 = .ok (.iconst 1, 1) := by decide +kernel
theorem od_112_12 : decode (ov_byt 112) 12 = .ok (.aload_n 0, 1) := by decide +kernel
theorem og_112_13 : ov_GF 112 13 0 3 := ⟨31, true, 265, by decide +kernel, by decide +kernel⟩
theorem oc_112_16 : ov_CL 112 16 1 33 := ⟨115, (384, 385, 386), (by show decode (ov_byt 112) 16 = Except.ok (Instr.invokevirtual 115, 3); decide +kernel), by decide +kernel⟩
theorem od_112_19 : decode (ov_byt 112) 19 = .ok (.istore_n 2, 1) := by decide +kernel
theorem od_112_20 : decode (ov_byt 112) 20 = .ok (.bipush (-9), 2) := by decide +kernel
theorem od_112_22 : decode (ov_byt 112) 22 = .ok (.istore_n 3, 1) := by decide +kernel
theorem od_112_23 : decode (ov_byt 112) 23 = .ok (.bipush (-9), 2) := by decide +kernel
theorem od_112_25 : decode (ov_byt 112) 25 = .ok (.istore 4, 2) := by decide +kernel
theorem od_112_27 : decode (ov_byt 112) 27 = .ok (.iconst 0, 1) := by decide +kernel
theorem od_112_28 : decode (ov_byt 112) 28 = .ok (.istore 5, 2) := by decide +kernel
theorem od_112_30 : decode (ov_byt 112) 30 = .ok (.iload 5, 2) := by decide +kernel
theorem od_112_32 : decode (ov_byt 112) 32 = .ok (.aload_n 0, 1) := by decide +kernel
theorem og_112_33 : ov_GF 112 33 0 1 := ⟨19, true, 263, by decide +kernel, by decide +kernel⟩
theorem og_112_36 : ov_GF 112 36 2 2 := ⟨109, false, 107, by decide +kernel, by decide +kernel⟩
theorem od_112_42 : decode (ov_byt 112) 42 = .ok (.iload_n 2, 1) := by decide +kernel
theorem od_112_43 : decode (ov_byt 112) 43 = .ok (.iload 5, 2) := by decide +kernel
theorem oc_112_45 : ov_CL 112 45 0 23 := ⟨186, (548, 346, 0), (by show decode (ov_byt 112) 45 = Except.ok (Instr.invokestatic 186, 3); decide +kernel), by decide +kernel⟩
theorem od_112_67 : decode (ov_byt 112) 67 = .ok (.bipush (-9), 2) := by decide +kernel
theorem od_112_69 : decode (ov_byt 112) 69 = .ok (.istore 6, 2) := by decide +kernel
theorem od_112_71 : decode (ov_byt 112) 71 = .ok (.iload 6, 2) := by decide +kernel
theorem od_112_73 : decode (ov_byt 112) 73 = .ok (.iload 4, 2) := by decide +kernel
theorem od_112_85 : decode (ov_byt 112) 85 = .ok (.iinc 5 1, 3) := by decide +kernel
theorem od_112_88 : decode (ov_byt 112) 88 = .ok (.goto (-58), 3) := by decide +kernel
theorem od_112_78 : decode (ov_byt 112) 78 = .ok (.iload 6, 2) := by decide +kernel
theorem od_112_80 : decode (ov_byt 112) 80 = .ok (.istore 4, 2) := by decide +kernel
theorem od_112_82 : decode (ov_byt 112) 82 = .ok (.iload 5, 2) := by decide +kernel
theorem od_112_84 : decode (ov_byt 112) 84 = .ok (.istore_n 3, 1) := by decide +kernel
theorem od_112_75 : decode (ov_byt 112) 75 = .ok (.if_icmp .le 10, 3) := by decide +kernel
theorem od_112_51 : decode (ov_byt 112) 51 = .ok (.aload_n 0, 1) := by decide +kernel
theorem og_112_52 : ov_GF 112 52 0 3 := ⟨31, true, 265, by decide +kernel, by decide +kernel⟩
theorem od_112_55 : decode (ov_byt 112) 55 = .ok (.iload_n 2, 1) := by decide +kernel
theorem od_112_56 : decode (ov_byt 112) 56 = .ok (.iload 5, 2) := by decide +kernel
theorem oc_112_58 : ov_CL 112 58 0 91 := ⟨274, (740, 641, 0), (by show decode (ov_byt 112) 58 = Except.ok (Instr.invokestatic 274, 3); decide +kernel), by decide +kernel⟩
theorem oc_112_61 : ov_CL 112 61 1 113 := ⟨277, (741, 742, 743), (by show decode (ov_byt 112) 61 = Except.ok (Instr.invokevirtual 277, 3); decide +kernel), by decide +kernel⟩
theorem od_112_64 : decode (ov_byt 112) 64 = .ok (.goto 5, 3) := by decide +kernel
theorem od_112_48 : decode (ov_byt 112) 48 = .ok (.ifCond .eq 19, 3) := by decide +kernel
theorem od_112_39 : decode (ov_byt 112) 39 = .ok (.if_icmp .ge 52, 3) := by decide +kernel
theorem od_112_91 : decode (ov_byt 112) 91 = .ok (.iload_n 1, 1) := by decide +kernel
theorem od_112_99 : decode (ov_byt 112) 99 = .ok (.iload 4, 2) := by decide +kernel
theorem od_112_101 : decode (ov_byt 112) 101 = .ok (.ireturn, 1) := by decide +kernel
theorem od_112_95 : decode (ov_byt 112) 95 = .ok (.iload_n 3, 1) := by decide +kernel
theorem od_112_96 : decode (ov_byt 112) 96 = .ok (.goto 5, 3) := by decide +kernel
theorem od_112_92 : decode (ov_byt 112) 92 = .ok (.ifCond .ne 7, 3) := by decide +kernel
theorem od_112_6 : decode (ov_byt 112) 6 = .ok (.if_icmp .le 6, 3) := by decide +kernel
theorem od_112_1 : decode (ov_byt 112) 1 = .ok (.ifCond .lt 8, 3) := by decide +kernel
theorem od_117_0 : decode (ov_byt 117) 0 = .ok (.iload_n 1, 1) := by decide +kernel
theorem od_117_28 : decode (ov_byt 117) 28 = .ok (.aload_n 0, 1) := by decide +kernel
theorem od_117_29 : decode (ov_byt 117) 29 = .ok (.iload_n 2, 1) := by decide +kernel
theorem od_117_30 : decode (ov_byt 117) 30 = .ok (.iload_n 3, 1) := by decide +kernel
theorem oc_117_31 : ov_CL 117 31 1 74 := ⟨137, (761, 563, 564), (by show decode (ov_byt 117) 31 = Except.ok (Instr.invokevirtual 137, 3); decide +kernel), by decide +kernel⟩
theorem od_117_34 : decode (ov_byt 117) 34 = .ok (.ireturn, 1) := by decide +kernel
theorem od_117_1 : decode (ov_byt 117) 1 = .ok (.tableswitch 59 1 3 #[27, 34, 41], 27) := by decide +kernel
theorem od_117_35 : decode (ov_byt 117) 35 = .ok (.aload_n 0, 1) := by decide +kernel
theorem od_117_36 : decode (ov_byt 117) 36 = .ok (.iload_n 2, 1) := by decide +kernel
theorem od_117_37 : decode (ov_byt 117) 37 = .ok (.iload_n 3, 1) := by decide +kernel
theorem oc_117_38 : ov_CL 117 38 1 78 := ⟨140, (762, 583, 584), (by show decode (ov_byt 117) 38 = Except.ok (Instr.invokevirtual 140, 3); decide +kernel), by decide +kernel⟩
theorem od_117_41 : decode (ov_byt 117) 41 = .ok (.ireturn, 1) := by decide +kernel
theorem od_117_42 : decode (ov_byt 117) 42 = .ok (.iload_n 2, 1) := by decide +kernel
theorem od_117_58 : decode (ov_byt 117) 58 = .ok (.iconst 0, 1) := by decide +kernel
theorem od_117_59 : decode (ov_byt 117) 59 = .ok (.ireturn, 1) := by decide +kernel
theorem od_117_46 : decode (ov_byt 117) 46 = .ok (.aload_n 0, 1) := by decide +kernel
theorem od_117_47 : decode (ov_byt 117) 47 = .ok (.iload_n 3, 1) := by decide +kernel
theorem oc_117_48 : ov_CL 117 48 1 81 := ⟨143, (763, 598, 599), (by show decode (ov_byt 117) 48 = Except.ok (Instr.invokevirtual 143, 3); decide +kernel), by decide +kernel⟩
theorem od_117_54 : decode (ov_byt 117) 54 = .ok (.iconst 1, 1) := by decide +kernel
theorem od_117_55 : decode (ov_byt 117) 55 = .ok (.goto 4, 3) := by decide +kernel
theorem od_117_51 : decode (ov_byt 117) 51 = .ok (.ifCond .eq 7, 3) := by decide +kernel
theorem od_117_43 : decode (ov_byt 117) 43 = .ok (.ifCond .ne 15, 3) := by decide +kernel
theorem od_117_60 : decode (ov_byt 117) 60 = .ok (.iconst 0, 1) := by decide +kernel
theorem od_117_61 : decode (ov_byt 117) 61 = .ok (.ireturn, 1) := by decide +kernel
theorem od_118_0 : decode (ov_byt 118) 0 = .ok (.aload_n 0, 1) := by decide +kernel
theorem og_118_1 : ov_GF 118 1 0 1 := ⟨19, true, 263, by decide +kernel, by decide +kernel⟩
theorem od_118_4 : decode (ov_byt 118) 4 = .ok (.iload_n 1, 1) := by decide +kernel
theorem oc_118_5 : ov_CL 118 5 1 29 := ⟨148, (508, 368, 369), (by show decode (ov_byt 118) 5 = Except.ok (Instr.invokevirtual 148, 3); decide +kernel), by decide +kernel⟩
theorem od_118_13 : decode (ov_byt 118) 13 = .ok (.aload_n 0, 1) := by decide +kernel
theorem og_118_14 : ov_GF 118 14 0 3 := ⟨31, true, 265, by decide +kernel, by decide +kernel⟩
theorem oc_118_17 : ov_CL 118 17 1 33 := ⟨115, (384, 385, 386), (by show decode (ov_byt 118) 17 = Except.ok (Instr.invokevirtual 115, 3); decide +kernel), by decide +kernel⟩
theorem od_118_20 : decode (ov_byt 118) 20 = .ok (.istore_n 3, 1) := by decide +kernel
theorem od_118_21 : decode (ov_byt 118) 21 = .ok (.iload_n 3, 1) := by decide +kernel
theorem od_118_22 : decode (ov_byt 118) 22 = .ok (.iload_n 1, 1) := by decide +kernel
theorem oc_118_23 : ov_CL 118 23 0 91 := ⟨274, (740, 641, 0), (by show decode (ov_byt 118) 23 = Except.ok (Instr.invokestatic 274, 3); decide +kernel), by decide +kernel⟩
theorem od_118_26 : decode (ov_byt 118) 26 = .ok (.istore 4, 2) := by decide +kernel
theorem od_118_28 : decode (ov_byt 118) 28 = .ok (.iload 4, 2) := by decide +kernel
theorem od_118_30 : decode (ov_byt 118) 30 = .ok (.iload_n 3, 1) := by decide +kernel
theorem od_118_41 : decode (ov_byt 118) 41 = .ok (.iload 4, 2) := by decide +kernel
theorem oc_118_43 : ov_CL 118 43 0 69 := ⟨172, (535, 536, 0), (by show decode (ov_byt 118) 43 = Except.ok (Instr.invokestatic 172, 3); decide +kernel), by decide +kernel⟩
theorem od_118_46 : decode (ov_byt 118) 46 = .ok (.istore 5, 2) := by decide +kernel
theorem od_118_48 : decode (ov_byt 118) 48 = .ok (.lconst 0, 1) := by decide +kernel
theorem od_118_49 : decode (ov_byt 118) 49 = .ok (.lstore 6, 2) := by decide +kernel
theorem od_118_51 : decode (ov_byt 118) 51 = .ok (.iconst 0, 1) := by decide +kernel
theorem od_118_52 : decode (ov_byt 118) 52 = .ok (.istore 8, 2) := by decide +kernel
theorem od_118_54 : decode (ov_byt 118) 54 = .ok (.iload 8, 2) := by decide +kernel
theorem od_118_56 : decode (ov_byt 118) 56 = .ok (.iload 4, 2) := by decide +kernel
theorem od_118_61 : decode (ov_byt 118) 61 = .ok (.iload 8, 2) := by decide +kernel
theorem od_118_63 : decode (ov_byt 118) 63 = .ok (.iload 4, 2) := by decide +kernel
theorem od_118_65 : decode (ov_byt 118) 65 = .ok (.iconst (-1), 1) := by decide +kernel
theorem od_118_66 : decode (ov_byt 118) 66 = .ok (.ixor, 1) := by decide +kernel
theorem od_118_67 : decode (ov_byt 118) 67 = .ok (.iand, 1) := by decide +kernel
theorem od_118_126 : decode (ov_byt 118) 126 = .ok (.iinc 8 1, 3) := by decide +kernel
theorem od_118_129 : decode (ov_byt 118) 129 = .ok (.goto (-75), 3) := by decide +kernel
theorem od_118_71 : decode (ov_byt 118) 71 = .ok (.iload 8, 2) := by decide +kernel
theorem oc_118_73 : ov_CL 118 73 0 69 := ⟨172, (535, 536, 0), (by show decode (ov_byt 118) 73 = Except.ok (Instr.invokestatic 172, 3); decide +kernel), by decide +kernel⟩
theorem od_118_76 : decode (ov_byt 118) 76 = .ok (.istore 9, 2) := by decide +kernel
theorem od_118_78 : decode (ov_byt 118) 78 = .ok (.iload 9, 2) := by decide +kernel
theorem oc_118_80 : ov_CL 118 80 0 122 := ⟨300, (777, 778, 0), (by show decode (ov_byt 118) 80 = Except.ok (Instr.invokestatic 300, 3); decide +kernel), by decide +kernel⟩
theorem od_118_83 : decode (ov_byt 118) 83 = .ok (.iload 5, 2) := by decide +kernel
theorem od_118_85 : decode (ov_byt 118) 85 = .ok (.iload 9, 2) := by decide +kernel
theorem od_118_87 : decode (ov_byt 118) 87 = .ok (.isub, 1) := by decide +kernel
theorem oc_118_88 : ov_CL 118 88 0 122 := ⟨300, (777, 778, 0), (by show decode (ov_byt 118) 88 = Except.ok (Instr.invokestatic 300, 3); decide +kernel), by decide +kernel⟩
theorem od_118_91 : decode (ov_byt 118) 91 = .ok (.lmul, 1) := by decide +kernel
theorem od_118_92 : decode (ov_byt 118) 92 = .ok (.lstore 10, 2) := by decide +kernel
theorem od_118_94 : decode (ov_byt 118) 94 = .ok (.lload 6, 2) := by decide +kernel
theorem od_118_96 : decode (ov_byt 118) 96 = .ok (.lload 10, 2) := by decide +kernel
theorem od_118_98 : decode (ov_byt 118) 98 = .ok (.aload_n 0, 1) := by decide +kernel
theorem og_118_99 : ov_GF 118 99 0 3 := ⟨31, true, 265, by decide +kernel, by decide +kernel⟩
theorem od_118_102 : decode (ov_byt 118) 102 = .ok (.iload 8, 2) := by decide +kernel
theorem od_118_104 : decode (ov_byt 118) 104 = .ok (.iload_n 1, 1) := by decide +kernel
theorem oc_118_105 : ov_CL 118 105 0 27 := ⟨304, (780, 361, 0), (by show decode (ov_byt 118) 105 = Except.ok (Instr.invokestatic 304, 3); decide +kernel), by decide +kernel⟩
theorem oc_118_108 : ov_CL 118 108 1 113 := ⟨277, (741, 742, 743), (by show decode (ov_byt 118) 108 = Except.ok (Instr.invokevirtual 277, 3); decide +kernel), by decide +kernel⟩
theorem od_118_111 : decode (ov_byt 118) 111 = .ok (.aload_n 0, 1) := by decide +kernel
theorem og_118_112 : ov_GF 118 112 0 3 := ⟨31, true, 265, by decide +kernel, by decide +kernel⟩
theorem od_118_115 : decode (ov_byt 118) 115 = .ok (.iload 8, 2) := by decide +kernel
theorem oc_118_117 : ov_CL 118 117 1 113 := ⟨277, (741, 742, 743), (by show decode (ov_byt 118) 117 = Except.ok (Instr.invokevirtual 277, 3); decide +kernel), by decide +kernel⟩
theorem od_118_120 : decode (ov_byt 118) 120 = .ok (.isub, 1) := by decide +kernel
theorem od_118_121 : decode (ov_byt 118) 121 = .ok (.i2l, 1) := by decide +kernel
theorem od_118_122 : decode (ov_byt 118) 122 = .ok (.lmul, 1) := by decide +kernel
theorem od_118_123 : decode (ov_byt 118) 123 = .ok (.ladd, 1) := by decide +kernel
theorem od_118_124 : decode (ov_byt 118) 124 = .ok (.lstore 6, 2) := by decide +kernel
theorem od_118_68 : decode (ov_byt 118) 68 = .ok (.ifCond .ne 58, 3) := by decide +kernel
theorem od_118_58 : decode (ov_byt 118) 58 = .ok (.if_icmp .gt 74, 3) := by decide +kernel
theorem od_118_132 : decode (ov_byt 118) 132 = .ok (.lload 6, 2) := by decide +kernel
theorem od_118_134 : decode (ov_byt 118) 134 = .ok (.iload 5, 2) := by decide +kernel
theorem od_118_136 : decode (ov_byt 118) 136 = .ok (.iconst 1, 1) := by decide +kernel
theorem od_118_137 : decode (ov_byt 118) 137 = .ok (.iadd, 1) := by decide +kernel
theorem oc_118_138 : ov_CL 118 138 0 122 := ⟨300, (777, 778, 0), (by show decode (ov_byt 118) 138 = Except.ok (Instr.invokestatic 300, 3); decide +kernel), by decide +kernel⟩
theorem od_118_141 : decode (ov_byt 118) 141 = .ok (.iload_n 2, 1) := by decide +kernel
theorem oc_118_142 : ov_CL 118 142 0 119 := ⟨296, (768, 769, 0), (by show decode (ov_byt 118) 142 = Except.ok (Instr.invokestatic 296, 3); decide +kernel), by decide +kernel⟩
theorem od_118_145 : decode (ov_byt 118) 145 = .ok (.ireturn, 1) := by decide +kernel
theorem od_118_34 : decode (ov_byt 118) 34 = .ok (.lconst 0, 1) := by decide +kernel
theorem od_118_35 : decode (ov_byt 118) 35 = .ok (.lconst 1, 1) := by decide +kernel
theorem od_118_36 : decode (ov_byt 118) 36 = .ok (.iload_n 2, 1) := by decide +kernel
theorem oc_118_37 : ov_CL 118 37 0 119 := ⟨296, (768, 769, 0), (by show decode (ov_byt 118) 37 = Except.ok (Instr.invokestatic 296, 3); decide +kernel), by decide +kernel⟩
theorem od_118_40 : decode (ov_byt 118) 40 = .ok (.ireturn, 1) := by decide +kernel
theorem od_118_31 : decode (ov_byt 118) 31 = .ok (.if_icmp .ne 10, 3) := by decide +kernel
theorem od_118_11 : decode (ov_byt 118) 11 = .ok (.iconst (-1), 1) := by decide +kernel
theorem od_118_12 : decode (ov_byt 118) 12 = .ok (.ireturn, 1) := by decide +kernel
theorem od_118_8 : decode (ov_byt 118) 8 = .ok (.ifCond .ne 5, 3) := by decide +kernel
theorem od_131_0 : decode (ov_byt 131) 0 = .ok (.aload_n 0, 1) := by decide +kernel
theorem og_131_1 : ov_GF 131 1 7 2 := ⟨26, true, 241, by decide +kernel, by decide +kernel⟩
theorem od_131_4 : decode (ov_byt 131) 4 = .ok (.aload_n 0, 1) := by decide +kernel
theorem og_131_5 : ov_GF 131 5 7 1 := ⟨22, true, 240, by decide +kernel, by decide +kernel⟩
theorem oc_131_8 : ov_CL 131 8 1 97 := ⟨49, (820, 665, 666), (by show decode (ov_byt 131) 8 = Except.ok (Instr.invokevirtual 49, 3); decide +kernel), by decide +kernel⟩
theorem od_131_11 : decode (ov_byt 131) 11 = .ok (.aload_n 0, 1) := by decide +kernel
theorem og_131_12 : ov_GF 131 12 7 2 := ⟨26, true, 241, by decide +kernel, by decide +kernel⟩
theorem od_131_15 : decode (ov_byt 131) 15 = .ok (.iload_n 1, 1) := by decide +kernel
theorem od_131_16 : decode (ov_byt 131) 16 = .ok (.iload_n 3, 1) := by decide +kernel
theorem oc_131_17 : ov_CL 131 17 1 101 := ⟨55, (821, 687, 688), (by show decode (ov_byt 131) 17 = Except.ok (Instr.invokevirtual 55, 3); decide +kernel), by decide +kernel⟩
theorem od_131_20 : decode (ov_byt 131) 20 = .ok (.istore 5, 2) := by decide +kernel
theorem od_131_22 : decode (ov_byt 131) 22 = .ok (.aload_n 0, 1) := by decide +kernel
theorem og_131_23 : ov_GF 131 23 7 2 := ⟨26, true, 241, by decide +kernel, by decide +kernel⟩
theorem od_131_26 : decode (ov_byt 131) 26 = .ok (.iload_n 2, 1) := by decide +kernel
theorem od_131_27 : decode (ov_byt 131) 27 = .ok (.iload 4, 2) := by decide +kernel
theorem oc_131_29 : ov_CL 131 29 1 101 := ⟨55, (821, 687, 688), (by show decode (ov_byt 131) 29 = Except.ok (Instr.invokevirtual 55, 3); decide +kernel), by decide +kernel⟩
theorem od_131_32 : decode (ov_byt 131) 32 = .ok (.istore 6, 2) := by decide +kernel
theorem od_131_34 : decode (ov_byt 131) 34 = .ok (.aload_n 0, 1) := by decide +kernel
theorem og_131_35 : ov_GF 131 35 7 2 := ⟨26, true, 241, by decide +kernel, by decide +kernel⟩
theorem oc_131_38 : ov_CL 131 38 1 36 := ⟨59, (822, 399, 400), (by show decode (ov_byt 131) 38 = Except.ok (Instr.invokevirtual 59, 3); decide +kernel), by decide +kernel⟩
theorem od_131_41 : decode (ov_byt 131) 41 = .ok (.istore 7, 2) := by decide +kernel
theorem od_131_43 : decode (ov_byt 131) 43 = .ok (.iconst 3, 1) := by decide +kernel
theorem od_131_44 : decode (ov_byt 131) 44 = .ok (.iload_n 3, 1) := by decide +kernel
theorem od_131_45 : decode (ov_byt 131) 45 = .ok (.imul, 1) := by decide +kernel
theorem od_131_46 : decode (ov_byt 131) 46 = .ok (.iload 4, 2) := by decide +kernel
theorem od_131_48 : decode (ov_byt 131) 48 = .ok (.iadd, 1) := by decide +kernel
theorem od_131_49 : decode (ov_byt 131) 49 = .ok (.istore 8, 2) := by decide +kernel
theorem od_131_51 : decode (ov_byt 131) 51 = .ok (.aload_n 0, 1) := by decide +kernel
theorem og_131_52 : ov_GF 131 52 7 3 := ⟨9, true, 242, by decide +kernel, by decide +kernel⟩
theorem od_131_55 : decode (ov_byt 131) 55 = .ok (.iload 8, 2) := by decide +kernel
theorem od_131_57 : decode (ov_byt 131) 57 = .ok (.iload 5, 2) := by decide +kernel
theorem od_131_59 : decode (ov_byt 131) 59 = .ok (.iload 7, 2) := by decide +kernel
theorem od_131_61 : decode (ov_byt 131) 61 = .ok (.iload_n 1, 1) := by decide +kernel
theorem oc_131_62 : ov_CL 131 62 0 23 := ⟨63, (823, 346, 0), (by show decode (ov_byt 131) 62 = Except.ok (Instr.invokestatic 63, 3); decide +kernel), by decide +kernel⟩
theorem oc_131_65 : ov_CL 131 65 0 132 := ⟨68, (824, 825, 0), (by show decode (ov_byt 131) 65 = Except.ok (Instr.invokestatic 68, 3); decide +kernel), by decide +kernel⟩
theorem od_131_68 : decode (ov_byt 131) 68 = .ok (.iastore, 1) := by decide +kernel
theorem od_131_69 : decode (ov_byt 131) 69 = .ok (.aload_n 0, 1) := by decide +kernel
theorem og_131_70 : ov_GF 131 70 7 4 := ⟨15, true, 243, by decide +kernel, by decide +kernel⟩
theorem od_131_73 : decode (ov_byt 131) 73 = .ok (.iload 8, 2) := by decide +kernel
theorem od_131_75 : decode (ov_byt 131) 75 = .ok (.iload 6, 2) := by decide +kernel
theorem od_131_77 : decode (ov_byt 131) 77 = .ok (.iload 7, 2) := by decide +kernel
theorem od_131_79 : decode (ov_byt 131) 79 = .ok (.iload_n 2, 1) := by decide +kernel
theorem oc_131_80 : ov_CL 131 80 0 23 := ⟨63, (823, 346, 0), (by show decode (ov_byt 131) 80 = Except.ok (Instr.invokestatic 63, 3); decide +kernel), by decide +kernel⟩
theorem oc_131_83 : ov_CL 131 83 0 132 := ⟨68, (824, 825, 0), (by show decode (ov_byt 131) 83 = Except.ok (Instr.invokestatic 68, 3); decide +kernel), by decide +kernel⟩
theorem od_131_86 : decode (ov_byt 131) 86 = .ok (.iastore, 1) := by decide +kernel
theorem od_131_87 : decode (ov_byt 131) 87 = .ok (.return_, 1) := by decide +kernel
theorem od_139_0 : decode (ov_byt 139) 0 = .ok (.iload_n 1, 1) := by decide +kernel
theorem od_139_1 : decode (ov_byt 139) 1 = .ok (.iconst 1, 1) := by decide +kernel
theorem od_139_11 : decode (ov_byt 139) 11 = .ok (.bipush (-2), 2) := by decide +kernel
theorem od_139_13 : decode (ov_byt 139) 13 = .ok (.ireturn, 1) := by decide +kernel
theorem od_139_5 : decode (ov_byt 139) 5 = .ok (.iload_n 1, 1) := by decide +kernel
theorem od_139_6 : decode (ov_byt 139) 6 = .ok (.bipush 30, 2) := by decide +kernel
theorem od_139_14 : decode (ov_byt 139) 14 = .ok (.aload_n 0, 1) := by decide +kernel
theorem og_139_15 : ov_GF 139 15 0 4 := ⟨35, true, 266, by decide +kernel, by decide +kernel⟩
theorem od_139_18 : decode (ov_byt 139) 18 = .ok (.aload_n 0, 1) := by decide +kernel
theorem og_139_19 : ov_GF 139 19 0 3 := ⟨31, true, 265, by decide +kernel, by decide +kernel⟩
theorem oc_139_22 : ov_CL 139 22 1 97 := ⟨242, (664, 665, 666), (by show decode (ov_byt 139) 22 = Except.ok (Instr.invokevirtual 242, 3); decide +kernel), by decide +kernel⟩
theorem od_139_25 : decode (ov_byt 139) 25 = .ok (.iconst 0, 1) := by decide +kernel
theorem od_139_26 : decode (ov_byt 139) 26 = .ok (.istore_n 2, 1) := by decide +kernel
theorem od_139_27 : decode (ov_byt 139) 27 = .ok (.iconst 0, 1) := by decide +kernel
theorem od_139_28 : decode (ov_byt 139) 28 = .ok (.istore_n 3, 1) := by decide +kernel
theorem od_139_29 : decode (ov_byt 139) 29 = .ok (.iload_n 3, 1) := by decide +kernel
theorem od_139_30 : decode (ov_byt 139) 30 = .ok (.iload_n 1, 1) := by decide +kernel
theorem od_139_34 : decode (ov_byt 139) 34 = .ok (.aload_n 0, 1) := by decide +kernel
theorem od_139_35 : decode (ov_byt 139) 35 = .ok (.aload_n 0, 1) := by decide +kernel
theorem og_139_36 : ov_GF 139 36 0 11 := ⟨78, false, 273, by decide +kernel, by decide +kernel⟩
theorem ok_139_39 : ∃ w, ov_find ov_k2t (328 * 32 + ov_oc 139) = some ((6364136223846793005 : Int64), w) := ⟨854, by decide +kernel⟩
theorem od_139_39 : decode (ov_byt 139) 39 = .ok (.ldc2_w 328, 3) := by decide +kernel
theorem od_139_42 : decode (ov_byt 139) 42 = .ok (.lmul, 1) := by decide +kernel
theorem ok_139_43 : ∃ w, ov_find ov_k2t (330 * 32 + ov_oc 139) = some ((1442695040888963407 : Int64), w) := ⟨855, by decide +kernel⟩
theorem od_139_43 : decode (ov_byt 139) 43 = .ok (.ldc2_w 330, 3) := by decide +kernel
theorem od_139_46 : decode (ov_byt 139) 46 = .ok (.ladd, 1) := by decide +kernel
theorem op_139_47 : ov_PF 139 47 0 11 := ⟨78, 273, by decide +kernel, by decide +kernel⟩
theorem od_139_50 : decode (ov_byt 139) 50 = .ok (.aload_n 0, 1) := by decide +kernel
theorem og_139_51 : ov_GF 139 51 0 11 := ⟨78, false, 273, by decide +kernel, by decide +kernel⟩
theorem od_139_54 : decode (ov_byt 139) 54 = .ok (.bipush 33, 2) := by decide +kernel
theorem od_139_56 : decode (ov_byt 139) 56 = .ok (.lushr, 1) := by decide +kernel
theorem ok_139_57 : ∃ w, ov_find ov_k2t (332 * 32 + ov_oc 139) = some ((42 : Int64), w) := ⟨856, by decide +kernel⟩
theorem od_139_57 : decode (ov_byt 139) 57 = .ok (.ldc2_w 332, 3) := by decide +kernel
theorem od_139_60 : decode (ov_byt 139) 60 = .ok (.lrem, 1) := by decide +kernel
theorem od_139_61 : decode (ov_byt 139) 61 = .ok (.l2i, 1) := by decide +kernel
theorem od_139_62 : decode (ov_byt 139) 62 = .ok (.istore 4, 2) := by decide +kernel
theorem od_139_64 : decode (ov_byt 139) 64 = .ok (.iload 4, 2) := by decide +kernel
theorem od_139_66 : decode (ov_byt 139) 66 = .ok (.bipush 24, 2) := by decide +kernel
theorem od_139_90 : decode (ov_byt 139) 90 = .ok (.aload_n 0, 1) := by decide +kernel
theorem og_139_91 : ov_GF 139 91 0 4 := ⟨35, true, 266, by decide +kernel, by decide +kernel⟩
theorem od_139_94 : decode (ov_byt 139) 94 = .ok (.iload 4, 2) := by decide +kernel
theorem od_139_96 : decode (ov_byt 139) 96 = .ok (.bipush 24, 2) := by decide +kernel
theorem od_139_98 : decode (ov_byt 139) 98 = .ok (.isub, 1) := by decide +kernel
theorem od_139_99 : decode (ov_byt 139) 99 = .ok (.iconst 3, 1) := by decide +kernel
theorem od_139_100 : decode (ov_byt 139) 100 = .ok (.idiv, 1) := by decide +kernel
theorem od_139_101 : decode (ov_byt 139) 101 = .ok (.iload 4, 2) := by decide +kernel
theorem od_139_103 : decode (ov_byt 139) 103 = .ok (.bipush 24, 2) := by decide +kernel
theorem od_139_105 : decode (ov_byt 139) 105 = .ok (.isub, 1) := by decide +kernel
theorem od_139_106 : decode (ov_byt 139) 106 = .ok (.iconst 3, 1) := by decide +kernel
theorem od_139_107 : decode (ov_byt 139) 107 = .ok (.irem, 1) := by decide +kernel
theorem oc_139_108 : ov_CL 139 108 1 74 := ⟨195, (562, 563, 564), (by show decode (ov_byt 139) 108 = Except.ok (Instr.invokevirtual 195, 3); decide +kernel), by decide +kernel⟩
theorem od_139_111 : decode (ov_byt 139) 111 = .ok (.pop, 1) := by decide +kernel
theorem od_139_112 : decode (ov_byt 139) 112 = .ok (.iload_n 2, 1) := by decide +kernel
theorem od_139_113 : decode (ov_byt 139) 113 = .ok (.aload_n 0, 1) := by decide +kernel
theorem og_139_114 : ov_GF 139 114 0 4 := ⟨35, true, 266, by decide +kernel, by decide +kernel⟩
theorem oc_139_117 : ov_CL 139 117 1 36 := ⟨118, (398, 399, 400), (by show decode (ov_byt 139) 117 = Except.ok (Instr.invokevirtual 118, 3); decide +kernel), by decide +kernel⟩
theorem oc_139_120 : ov_CL 139 120 0 69 := ⟨172, (535, 536, 0), (by show decode (ov_byt 139) 120 = Except.ok (Instr.invokestatic 172, 3); decide +kernel), by decide +kernel⟩
theorem od_139_123 : decode (ov_byt 139) 123 = .ok (.iadd, 1) := by decide +kernel
theorem od_139_124 : decode (ov_byt 139) 124 = .ok (.istore_n 2, 1) := by decide +kernel
theorem od_139_125 : decode (ov_byt 139) 125 = .ok (.iinc 3 1, 3) := by decide +kernel
theorem od_139_128 : decode (ov_byt 139) 128 = .ok (.goto (-99), 3) := by decide +kernel
theorem od_139_71 : decode (ov_byt 139) 71 = .ok (.aload_n 0, 1) := by decide +kernel
theorem og_139_72 : ov_GF 139 72 0 4 := ⟨35, true, 266, by decide +kernel, by decide +kernel⟩
theorem od_139_75 : decode (ov_byt 139) 75 = .ok (.iload 4, 2) := by decide +kernel
theorem od_139_77 : decode (ov_byt 139) 77 = .ok (.iconst 4, 1) := by decide +kernel
theorem od_139_78 : decode (ov_byt 139) 78 = .ok (.idiv, 1) := by decide +kernel
theorem od_139_79 : decode (ov_byt 139) 79 = .ok (.iload 4, 2) := by decide +kernel
theorem od_139_81 : decode (ov_byt 139) 81 = .ok (.iconst 4, 1) := by decide +kernel
theorem od_139_82 : decode (ov_byt 139) 82 = .ok (.irem, 1) := by decide +kernel
theorem oc_139_83 : ov_CL 139 83 1 78 := ⟨202, (582, 583, 584), (by show decode (ov_byt 139) 83 = Except.ok (Instr.invokevirtual 202, 3); decide +kernel), by decide +kernel⟩
theorem od_139_86 : decode (ov_byt 139) 86 = .ok (.pop, 1) := by decide +kernel
theorem od_139_87 : decode (ov_byt 139) 87 = .ok (.goto 25, 3) := by decide +kernel
theorem od_139_68 : decode (ov_byt 139) 68 = .ok (.if_icmp .ge 22, 3) := by decide +kernel
theorem od_139_31 : decode (ov_byt 139) 31 = .ok (.if_icmp .ge 100, 3) := by decide +kernel
theorem od_139_131 : decode (ov_byt 139) 131 = .ok (.iload_n 2, 1) := by decide +kernel
theorem od_139_132 : decode (ov_byt 139) 132 = .ok (.ireturn, 1) := by decide +kernel
theorem od_139_8 : decode (ov_byt 139) 8 = .ok (.if_icmp .le 6, 3) := by decide +kernel
theorem od_139_2 : decode (ov_byt 139) 2 = .ok (.if_icmp .lt 9, 3) := by decide +kernel
theorem od_146_0 : decode (ov_byt 146) 0 = .ok (.aload_n 0, 1) := by decide +kernel
theorem od_146_1 : decode (ov_byt 146) 1 = .ok (.iconst 0, 1) := by decide +kernel
theorem op_146_2 : ov_PF 146 2 8 0 := ⟨83, 871, by decide +kernel, by decide +kernel⟩
theorem od_146_5 : decode (ov_byt 146) 5 = .ok (.aload_n 0, 1) := by decide +kernel
theorem oc_146_6 : ov_CL 146 6 1 147 := ⟨151, (1017, 1019, 16), (by show decode (ov_byt 146) 6 = Except.ok (Instr.invokevirtual 151, 3); decide +kernel), by decide +kernel⟩
theorem od_146_9 : decode (ov_byt 146) 9 = .ok (.ireturn, 1) := by decide +kernel
theorem od_157_0 : decode (ov_byt 157) 0 = .ok (.aload_n 0, 1) := by decide +kernel
theorem od_157_1 : decode (ov_byt 157) 1 = .ok (.iconst 0, 1) := by decide +kernel
theorem op_157_2 : ov_PF 157 2 8 0 := ⟨83, 871, by decide +kernel, by decide +kernel⟩
