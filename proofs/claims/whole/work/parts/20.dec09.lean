theorem od_157_5 : decode (ov_byt 157) 5 = .ok (.aload_n 0, 1) := by decide +kernel
theorem oc_157_6 : ov_CL 157 6 1 147 := ⟨151, (1017, 1019, 16), (by show decode (ov_byt 157) 6 = Except.ok (Instr.invokevirtual 151, 3); decide +kernel), by decide +kernel⟩
theorem od_157_9 : decode (ov_byt 157) 9 = .ok (.bipush (-9), 2) := by decide +kernel
theorem od_157_17 : decode (ov_byt 157) 17 = .ok (.aload_n 0, 1) := by decide +kernel
theorem od_157_18 : decode (ov_byt 157) 18 = .ok (.aload_n 0, 1) := by decide +kernel
theorem og_157_19 : ov_GF 157 19 8 13 := ⟨107, false, 884, by decide +kernel, by decide +kernel⟩
theorem op_157_22 : ov_PF 157 22 8 4 := ⟨94, 875, by decide +kernel, by decide +kernel⟩
theorem od_157_25 : decode (ov_byt 157) 25 = .ok (.aload_n 0, 1) := by decide +kernel
theorem od_157_26 : decode (ov_byt 157) 26 = .ok (.aload_n 0, 1) := by decide +kernel
theorem og_157_27 : ov_GF 157 27 8 15 := ⟨110, false, 886, by decide +kernel, by decide +kernel⟩
theorem op_157_30 : ov_PF 157 30 8 6 := ⟨154, 877, by decide +kernel, by decide +kernel⟩
theorem od_157_33 : decode (ov_byt 157) 33 = .ok (.aload_n 0, 1) := by decide +kernel
theorem od_157_34 : decode (ov_byt 157) 34 = .ok (.aload_n 0, 1) := by decide +kernel
theorem og_157_35 : ov_GF 157 35 8 17 := ⟨129, false, 888, by decide +kernel, by decide +kernel⟩
theorem op_157_38 : ov_PF 157 38 8 7 := ⟨87, 878, by decide +kernel, by decide +kernel⟩
theorem od_157_41 : decode (ov_byt 157) 41 = .ok (.aload_n 0, 1) := by decide +kernel
theorem od_157_42 : decode (ov_byt 157) 42 = .ok (.aload_n 0, 1) := by decide +kernel
theorem og_157_43 : ov_GF 157 43 8 20 := ⟨132, false, 891, by decide +kernel, by decide +kernel⟩
theorem op_157_46 : ov_PF 157 46 8 10 := ⟨157, 881, by decide +kernel, by decide +kernel⟩
theorem od_157_49 : decode (ov_byt 157) 49 = .ok (.aload_n 0, 1) := by decide +kernel
theorem og_157_50 : ov_GF 157 50 8 14 := ⟨28, true, 885, by decide +kernel, by decide +kernel⟩
theorem od_157_53 : decode (ov_byt 157) 53 = .ok (.aload_n 0, 1) := by decide +kernel
theorem og_157_54 : ov_GF 157 54 8 5 := ⟨13, true, 876, by decide +kernel, by decide +kernel⟩
theorem od_157_57 : decode (ov_byt 157) 57 = .ok (.iconst 3, 1) := by decide +kernel
theorem oc_157_58 : ov_CL 157 58 0 158 := ⟨160, (1061, 1062, 0), (by show decode (ov_byt 157) 58 = Except.ok (Instr.invokestatic 160, 3); decide +kernel), by decide +kernel⟩
theorem od_157_61 : decode (ov_byt 157) 61 = .ok (.aload_n 0, 1) := by decide +kernel
theorem og_157_62 : ov_GF 157 62 8 18 := ⟨34, true, 889, by decide +kernel, by decide +kernel⟩
theorem od_157_65 : decode (ov_byt 157) 65 = .ok (.aload_n 0, 1) := by decide +kernel
theorem og_157_66 : ov_GF 157 66 8 8 := ⟨16, true, 879, by decide +kernel, by decide +kernel⟩
theorem od_157_69 : decode (ov_byt 157) 69 = .ok (.bipush 6, 2) := by decide +kernel
theorem oc_157_71 : ov_CL 157 71 0 158 := ⟨160, (1061, 1062, 0), (by show decode (ov_byt 157) 71 = Except.ok (Instr.invokestatic 160, 3); decide +kernel), by decide +kernel⟩
theorem od_157_74 : decode (ov_byt 157) 74 = .ok (.aload_n 0, 1) := by decide +kernel
theorem og_157_75 : ov_GF 157 75 8 19 := ⟨37, true, 890, by decide +kernel, by decide +kernel⟩
theorem od_157_78 : decode (ov_byt 157) 78 = .ok (.aload_n 0, 1) := by decide +kernel
theorem og_157_79 : ov_GF 157 79 8 9 := ⟨19, true, 880, by decide +kernel, by decide +kernel⟩
theorem od_157_82 : decode (ov_byt 157) 82 = .ok (.bipush 6, 2) := by decide +kernel
theorem oc_157_84 : ov_CL 157 84 0 158 := ⟨160, (1061, 1062, 0), (by show decode (ov_byt 157) 84 = Except.ok (Instr.invokestatic 160, 3); decide +kernel), by decide +kernel⟩
theorem od_157_87 : decode (ov_byt 157) 87 = .ok (.aload_n 0, 1) := by decide +kernel
theorem og_157_88 : ov_GF 157 88 8 21 := ⟨40, true, 892, by decide +kernel, by decide +kernel⟩
theorem od_157_91 : decode (ov_byt 157) 91 = .ok (.aload_n 0, 1) := by decide +kernel
theorem og_157_92 : ov_GF 157 92 8 11 := ⟨22, true, 882, by decide +kernel, by decide +kernel⟩
theorem od_157_95 : decode (ov_byt 157) 95 = .ok (.bipush 6, 2) := by decide +kernel
theorem oc_157_97 : ov_CL 157 97 0 158 := ⟨160, (1061, 1062, 0), (by show decode (ov_byt 157) 97 = Except.ok (Instr.invokestatic 160, 3); decide +kernel), by decide +kernel⟩
theorem od_157_100 : decode (ov_byt 157) 100 = .ok (.aload_n 0, 1) := by decide +kernel
theorem og_157_101 : ov_GF 157 101 8 22 := ⟨43, true, 893, by decide +kernel, by decide +kernel⟩
theorem od_157_104 : decode (ov_byt 157) 104 = .ok (.aload_n 0, 1) := by decide +kernel
theorem og_157_105 : ov_GF 157 105 8 12 := ⟨25, true, 883, by decide +kernel, by decide +kernel⟩
theorem od_157_108 : decode (ov_byt 157) 108 = .ok (.bipush 6, 2) := by decide +kernel
theorem oc_157_110 : ov_CL 157 110 0 158 := ⟨160, (1061, 1062, 0), (by show decode (ov_byt 157) 110 = Except.ok (Instr.invokestatic 160, 3); decide +kernel), by decide +kernel⟩
theorem od_157_113 : decode (ov_byt 157) 113 = .ok (.iconst 0, 1) := by decide +kernel
theorem od_157_114 : decode (ov_byt 157) 114 = .ok (.istore_n 1, 1) := by decide +kernel
theorem od_157_115 : decode (ov_byt 157) 115 = .ok (.iload_n 1, 1) := by decide +kernel
theorem od_157_116 : decode (ov_byt 157) 116 = .ok (.bipush 12, 2) := by decide +kernel
theorem od_157_121 : decode (ov_byt 157) 121 = .ok (.aload_n 0, 1) := by decide +kernel
theorem og_157_122 : ov_GF 157 122 8 23 := ⟨46, true, 894, by decide +kernel, by decide +kernel⟩
theorem od_157_125 : decode (ov_byt 157) 125 = .ok (.iload_n 1, 1) := by decide +kernel
theorem od_157_126 : decode (ov_byt 157) 126 = .ok (.iload_n 1, 1) := by decide +kernel
theorem od_157_127 : decode (ov_byt 157) 127 = .ok (.bipush 6, 2) := by decide +kernel
theorem od_157_137 : decode (ov_byt 157) 137 = .ok (.iconst 0, 1) := by decide +kernel
theorem od_157_138 : decode (ov_byt 157) 138 = .ok (.iastore, 1) := by decide +kernel
theorem od_157_139 : decode (ov_byt 157) 139 = .ok (.iinc 1 1, 3) := by decide +kernel
theorem od_157_142 : decode (ov_byt 157) 142 = .ok (.goto (-27), 3) := by decide +kernel
theorem od_157_132 : decode (ov_byt 157) 132 = .ok (.bipush (-9), 2) := by decide +kernel
theorem od_157_134 : decode (ov_byt 157) 134 = .ok (.goto 4, 3) := by decide +kernel
theorem od_157_129 : decode (ov_byt 157) 129 = .ok (.if_icmp .ge 8, 3) := by decide +kernel
theorem od_157_118 : decode (ov_byt 157) 118 = .ok (.if_icmp .ge 27, 3) := by decide +kernel
theorem od_157_145 : decode (ov_byt 157) 145 = .ok (.iconst 0, 1) := by decide +kernel
theorem od_157_146 : decode (ov_byt 157) 146 = .ok (.istore_n 1, 1) := by decide +kernel
theorem od_157_147 : decode (ov_byt 157) 147 = .ok (.iload_n 1, 1) := by decide +kernel
theorem od_157_148 : decode (ov_byt 157) 148 = .ok (.aload_n 0, 1) := by decide +kernel
theorem og_157_149 : ov_GF 157 149 8 6 := ⟨154, false, 877, by decide +kernel, by decide +kernel⟩
theorem od_157_155 : decode (ov_byt 157) 155 = .ok (.aload_n 0, 1) := by decide +kernel
theorem og_157_156 : ov_GF 157 156 8 23 := ⟨46, true, 894, by decide +kernel, by decide +kernel⟩
theorem od_157_159 : decode (ov_byt 157) 159 = .ok (.bipush 7, 2) := by decide +kernel
theorem od_157_161 : decode (ov_byt 157) 161 = .ok (.iload_n 1, 1) := by decide +kernel
theorem od_157_162 : decode (ov_byt 157) 162 = .ok (.iadd, 1) := by decide +kernel
theorem od_157_163 : decode (ov_byt 157) 163 = .ok (.aload_n 0, 1) := by decide +kernel
theorem og_157_164 : ov_GF 157 164 8 16 := ⟨31, true, 887, by decide +kernel, by decide +kernel⟩
theorem od_157_167 : decode (ov_byt 157) 167 = .ok (.iload_n 1, 1) := by decide +kernel
theorem od_157_168 : decode (ov_byt 157) 168 = .ok (.iaload, 1) := by decide +kernel
theorem od_157_169 : decode (ov_byt 157) 169 = .ok (.iastore, 1) := by decide +kernel
theorem od_157_170 : decode (ov_byt 157) 170 = .ok (.iinc 1 1, 3) := by decide +kernel
theorem od_157_173 : decode (ov_byt 157) 173 = .ok (.goto (-26), 3) := by decide +kernel
theorem od_157_152 : decode (ov_byt 157) 152 = .ok (.if_icmp .ge 24, 3) := by decide +kernel
theorem od_157_176 : decode (ov_byt 157) 176 = .ok (.aload_n 0, 1) := by decide +kernel
theorem od_157_177 : decode (ov_byt 157) 177 = .ok (.iconst 0, 1) := by decide +kernel
theorem op_157_178 : ov_PF 157 178 8 27 := ⟨164, 898, by decide +kernel, by decide +kernel⟩
theorem od_157_181 : decode (ov_byt 157) 181 = .ok (.aload_n 0, 1) := by decide +kernel
theorem og_157_182 : ov_GF 157 182 8 29 := ⟨61, true, 900, by decide +kernel, by decide +kernel⟩
theorem od_157_185 : decode (ov_byt 157) 185 = .ok (.iconst 0, 1) := by decide +kernel
theorem od_157_186 : decode (ov_byt 157) 186 = .ok (.iconst 0, 1) := by decide +kernel
theorem od_157_187 : decode (ov_byt 157) 187 = .ok (.bastore, 1) := by decide +kernel
theorem od_157_188 : decode (ov_byt 157) 188 = .ok (.aload_n 0, 1) := by decide +kernel
theorem og_157_189 : ov_GF 157 189 8 29 := ⟨61, true, 900, by decide +kernel, by decide +kernel⟩
theorem od_157_192 : decode (ov_byt 157) 192 = .ok (.iconst 1, 1) := by decide +kernel
theorem od_157_193 : decode (ov_byt 157) 193 = .ok (.iconst 0, 1) := by decide +kernel
theorem od_157_194 : decode (ov_byt 157) 194 = .ok (.bastore, 1) := by decide +kernel
theorem od_157_195 : decode (ov_byt 157) 195 = .ok (.sipush 1000, 3) := by decide +kernel
theorem od_157_198 : decode (ov_byt 157) 198 = .ok (.aload_n 0, 1) := by decide +kernel
theorem og_157_199 : ov_GF 157 199 8 4 := ⟨94, false, 875, by decide +kernel, by decide +kernel⟩
theorem od_157_202 : decode (ov_byt 157) 202 = .ok (.imul, 1) := by decide +kernel
theorem od_157_203 : decode (ov_byt 157) 203 = .ok (.bipush 100, 2) := by decide +kernel
theorem od_157_205 : decode (ov_byt 157) 205 = .ok (.aload_n 0, 1) := by decide +kernel
theorem og_157_206 : ov_GF 157 206 8 6 := ⟨154, false, 877, by decide +kernel, by decide +kernel⟩
theorem od_157_209 : decode (ov_byt 157) 209 = .ok (.imul, 1) := by decide +kernel
theorem od_157_210 : decode (ov_byt 157) 210 = .ok (.iadd, 1) := by decide +kernel
theorem od_157_211 : decode (ov_byt 157) 211 = .ok (.bipush 10, 2) := by decide +kernel
theorem od_157_213 : decode (ov_byt 157) 213 = .ok (.aload_n 0, 1) := by decide +kernel
theorem og_157_214 : ov_GF 157 214 8 7 := ⟨87, false, 878, by decide +kernel, by decide +kernel⟩
theorem od_157_217 : decode (ov_byt 157) 217 = .ok (.imul, 1) := by decide +kernel
theorem od_157_218 : decode (ov_byt 157) 218 = .ok (.iadd, 1) := by decide +kernel
theorem od_157_219 : decode (ov_byt 157) 219 = .ok (.aload_n 0, 1) := by decide +kernel
theorem og_157_220 : ov_GF 157 220 8 10 := ⟨157, false, 881, by decide +kernel, by decide +kernel⟩
theorem od_157_223 : decode (ov_byt 157) 223 = .ok (.iadd, 1) := by decide +kernel
theorem od_157_224 : decode (ov_byt 157) 224 = .ok (.ireturn, 1) := by decide +kernel
theorem od_157_14 : decode (ov_byt 157) 14 = .ok (.bipush (-3), 2) := by decide +kernel
theorem od_157_16 : decode (ov_byt 157) 16 = .ok (.ireturn, 1) := by decide +kernel
theorem od_157_11 : decode (ov_byt 157) 11 = .ok (.if_icmp .eq 6, 3) := by decide +kernel
theorem od_159_0 : decode (ov_byt 159) 0 = .ok (.aload_n 0, 1) := by decide +kernel
theorem od_159_1 : decode (ov_byt 159) 1 = .ok (.iconst 0, 1) := by decide +kernel
theorem op_159_2 : ov_PF 159 2 8 0 := ⟨83, 871, by decide +kernel, by decide +kernel⟩
theorem od_159_5 : decode (ov_byt 159) 5 = .ok (.iload_n 1, 1) := by decide +kernel
theorem od_159_72 : decode (ov_byt 159) 72 = .ok (.aload_n 0, 1) := by decide +kernel
theorem og_159_73 : ov_GF 159 73 8 4 := ⟨94, false, 875, by decide +kernel, by decide +kernel⟩
theorem od_159_76 : decode (ov_byt 159) 76 = .ok (.ireturn, 1) := by decide +kernel
theorem od_159_6 : decode (ov_byt 159) 6 = .ok (.tableswitch 158 0 12 #[66, 71, 76, 81, 86, 95, 104, 112, 121, 135, 143, 148, 153], 66) := by decide +kernel
theorem od_159_77 : decode (ov_byt 159) 77 = .ok (.aload_n 0, 1) := by decide +kernel
theorem og_159_78 : ov_GF 159 78 8 6 := ⟨154, false, 877, by decide +kernel, by decide +kernel⟩
theorem od_159_81 : decode (ov_byt 159) 81 = .ok (.ireturn, 1) := by decide +kernel
theorem od_159_82 : decode (ov_byt 159) 82 = .ok (.aload_n 0, 1) := by decide +kernel
theorem og_159_83 : ov_GF 159 83 8 7 := ⟨87, false, 878, by decide +kernel, by decide +kernel⟩
theorem od_159_86 : decode (ov_byt 159) 86 = .ok (.ireturn, 1) := by decide +kernel
theorem od_159_87 : decode (ov_byt 159) 87 = .ok (.aload_n 0, 1) := by decide +kernel
theorem og_159_88 : ov_GF 159 88 8 10 := ⟨157, false, 881, by decide +kernel, by decide +kernel⟩
theorem od_159_91 : decode (ov_byt 159) 91 = .ok (.ireturn, 1) := by decide +kernel
theorem od_159_92 : decode (ov_byt 159) 92 = .ok (.aload_n 0, 1) := by decide +kernel
theorem od_159_93 : decode (ov_byt 159) 93 = .ok (.aload_n 0, 1) := by decide +kernel
theorem og_159_94 : ov_GF 159 94 8 23 := ⟨46, true, 894, by decide +kernel, by decide +kernel⟩
theorem oc_159_97 : ov_CL 159 97 1 160 := ⟨203, (1068, 1070, 25), (by show decode (ov_byt 159) 97 = Except.ok (Instr.invokevirtual 203, 3); decide +kernel), by decide +kernel⟩
theorem od_159_100 : decode (ov_byt 159) 100 = .ok (.ireturn, 1) := by decide +kernel
theorem od_159_101 : decode (ov_byt 159) 101 = .ok (.aload_n 0, 1) := by decide +kernel
theorem od_159_102 : decode (ov_byt 159) 102 = .ok (.aload_n 0, 1) := by decide +kernel
theorem og_159_103 : ov_GF 159 103 8 23 := ⟨46, true, 894, by decide +kernel, by decide +kernel⟩
theorem oc_159_106 : ov_CL 159 106 1 161 := ⟨206, (1072, 1074, 26), (by show decode (ov_byt 159) 106 = Except.ok (Instr.invokevirtual 206, 3); decide +kernel), by decide +kernel⟩
theorem od_159_109 : decode (ov_byt 159) 109 = .ok (.ireturn, 1) := by decide +kernel
theorem od_159_110 : decode (ov_byt 159) 110 = .ok (.aload_n 0, 1) := by decide +kernel
theorem og_159_111 : ov_GF 159 111 8 23 := ⟨46, true, 894, by decide +kernel, by decide +kernel⟩
theorem od_159_114 : decode (ov_byt 159) 114 = .ok (.bipush 6, 2) := by decide +kernel
theorem od_159_116 : decode (ov_byt 159) 116 = .ok (.iaload, 1) := by decide +kernel
theorem od_159_117 : decode (ov_byt 159) 117 = .ok (.ireturn, 1) := by decide +kernel
theorem od_159_118 : decode (ov_byt 159) 118 = .ok (.aload_n 0, 1) := by decide +kernel
theorem od_159_119 : decode (ov_byt 159) 119 = .ok (.aload_n 0, 1) := by decide +kernel
theorem og_159_120 : ov_GF 159 120 8 23 := ⟨46, true, 894, by decide +kernel, by decide +kernel⟩
theorem oc_159_123 : ov_CL 159 123 1 163 := ⟨209, (1080, 1082, 28), (by show decode (ov_byt 159) 123 = Except.ok (Instr.invokevirtual 209, 3); decide +kernel), by decide +kernel⟩
theorem od_159_126 : decode (ov_byt 159) 126 = .ok (.ireturn, 1) := by decide +kernel
theorem ok_159_127 : ∃ w, ov_find ov_kt (198 * 32 + ov_oc 159) = some ((262143 : Int32), w) := ⟨1106, by decide +kernel⟩
theorem od_159_127 : decode (ov_byt 159) 127 = .ok (.ldc 198, 2) := by decide +kernel
theorem od_159_129 : decode (ov_byt 159) 129 = .ok (.aload_n 0, 1) := by decide +kernel
theorem od_159_130 : decode (ov_byt 159) 130 = .ok (.aload_n 0, 1) := by decide +kernel
theorem og_159_131 : ov_GF 159 131 8 23 := ⟨46, true, 894, by decide +kernel, by decide +kernel⟩
theorem oc_159_134 : ov_CL 159 134 1 170 := ⟨171, (1107, 1109, 33), (by show decode (ov_byt 159) 134 = Except.ok (Instr.invokevirtual 171, 3); decide +kernel), by decide +kernel⟩
theorem od_159_137 : decode (ov_byt 159) 137 = .ok (.iconst (-1), 1) := by decide +kernel
theorem od_159_138 : decode (ov_byt 159) 138 = .ok (.ixor, 1) := by decide +kernel
theorem od_159_139 : decode (ov_byt 159) 139 = .ok (.iand, 1) := by decide +kernel
theorem od_159_140 : decode (ov_byt 159) 140 = .ok (.ireturn, 1) := by decide +kernel
theorem od_159_141 : decode (ov_byt 159) 141 = .ok (.aload_n 0, 1) := by decide +kernel
theorem og_159_142 : ov_GF 159 142 8 23 := ⟨46, true, 894, by decide +kernel, by decide +kernel⟩
theorem od_159_145 : decode (ov_byt 159) 145 = .ok (.bipush 11, 2) := by decide +kernel
theorem od_159_147 : decode (ov_byt 159) 147 = .ok (.iaload, 1) := by decide +kernel
theorem od_159_148 : decode (ov_byt 159) 148 = .ok (.ireturn, 1) := by decide +kernel
theorem od_159_149 : decode (ov_byt 159) 149 = .ok (.aload_n 0, 1) := by decide +kernel
theorem og_159_150 : ov_GF 159 150 8 27 := ⟨164, false, 898, by decide +kernel, by decide +kernel⟩
theorem od_159_153 : decode (ov_byt 159) 153 = .ok (.ireturn, 1) := by decide +kernel
theorem od_159_154 : decode (ov_byt 159) 154 = .ok (.aload_n 0, 1) := by decide +kernel
theorem og_159_155 : ov_GF 159 155 8 30 := ⟨212, false, 901, by decide +kernel, by decide +kernel⟩
theorem od_159_158 : decode (ov_byt 159) 158 = .ok (.ireturn, 1) := by decide +kernel
theorem od_159_159 : decode (ov_byt 159) 159 = .ok (.aload_n 0, 1) := by decide +kernel
theorem og_159_160 : ov_GF 159 160 8 2 := ⟨101, false, 873, by decide +kernel, by decide +kernel⟩
theorem od_159_163 : decode (ov_byt 159) 163 = .ok (.ireturn, 1) := by decide +kernel
theorem od_159_164 : decode (ov_byt 159) 164 = .ok (.bipush (-2), 2) := by decide +kernel
theorem od_159_166 : decode (ov_byt 159) 166 = .ok (.ireturn, 1) := by decide +kernel
theorem od_198_0 : decode (ov_byt 198) 0 = .ok (.aload_n 0, 1) := by decide +kernel
theorem og_198_1 : ov_GF 198 1 8 23 := ⟨46, true, 894, by decide +kernel, by decide +kernel⟩
theorem od_198_4 : decode (ov_byt 198) 4 = .ok (.aload_n 0, 1) := by decide +kernel
theorem og_198_5 : ov_GF 198 5 8 24 := ⟨49, true, 895, by decide +kernel, by decide +kernel⟩
theorem od_198_8 : decode (ov_byt 198) 8 = .ok (.bipush 12, 2) := by decide +kernel
theorem oc_198_10 : ov_CL 198 10 0 158 := ⟨160, (1061, 1062, 0), (by show decode (ov_byt 198) 10 = Except.ok (Instr.invokestatic 160, 3); decide +kernel), by decide +kernel⟩
theorem od_198_13 : decode (ov_byt 198) 13 = .ok (.aload_n 0, 1) := by decide +kernel
theorem od_198_14 : decode (ov_byt 198) 14 = .ok (.aload_n 0, 1) := by decide +kernel
theorem og_198_15 : ov_GF 198 15 8 23 := ⟨46, true, 894, by decide +kernel, by decide +kernel⟩
theorem od_198_18 : decode (ov_byt 198) 18 = .ok (.iload_n 1, 1) := by decide +kernel
theorem oc_198_19 : ov_CL 198 19 1 178 := ⟨219, (1139, 1141, 38), (by show decode (ov_byt 198) 19 = Except.ok (Instr.invokevirtual 219, 3); decide +kernel), by decide +kernel⟩
theorem od_198_22 : decode (ov_byt 198) 22 = .ok (.aload_n 0, 1) := by decide +kernel
theorem od_198_23 : decode (ov_byt 198) 23 = .ok (.bipush (-9), 2) := by decide +kernel
theorem op_198_25 : ov_PF 198 25 8 36 := ⟨261, 906, by decide +kernel, by decide +kernel⟩
theorem od_198_28 : decode (ov_byt 198) 28 = .ok (.aload_n 0, 1) := by decide +kernel
theorem od_198_29 : decode (ov_byt 198) 29 = .ok (.bipush (-9), 2) := by decide +kernel
theorem op_198_31 : ov_PF 198 31 8 37 := ⟨264, 907, by decide +kernel, by decide +kernel⟩
theorem od_198_34 : decode (ov_byt 198) 34 = .ok (.iconst 0, 1) := by decide +kernel
theorem od_198_35 : decode (ov_byt 198) 35 = .ok (.istore_n 2, 1) := by decide +kernel
theorem od_198_36 : decode (ov_byt 198) 36 = .ok (.iload_n 2, 1) := by decide +kernel
theorem od_198_37 : decode (ov_byt 198) 37 = .ok (.bipush 18, 2) := by decide +kernel
theorem od_198_42 : decode (ov_byt 198) 42 = .ok (.iconst 0, 1) := by decide +kernel
theorem od_198_43 : decode (ov_byt 198) 43 = .ok (.istore_n 3, 1) := by decide +kernel
theorem od_198_44 : decode (ov_byt 198) 44 = .ok (.iload_n 3, 1) := by decide +kernel
theorem od_198_45 : decode (ov_byt 198) 45 = .ok (.bipush 18, 2) := by decide +kernel
theorem od_198_50 : decode (ov_byt 198) 50 = .ok (.aload_n 0, 1) := by decide +kernel
theorem og_198_51 : ov_GF 198 51 8 34 := ⟨71, true, 905, by decide +kernel, by decide +kernel⟩
theorem od_198_54 : decode (ov_byt 198) 54 = .ok (.iload_n 3, 1) := by decide +kernel
theorem od_198_55 : decode (ov_byt 198) 55 = .ok (.iaload, 1) := by decide +kernel
theorem od_198_56 : decode (ov_byt 198) 56 = .ok (.iload_n 2, 1) := by decide +kernel
theorem od_198_119 : decode (ov_byt 198) 119 = .ok (.iinc 3 1, 3) := by decide +kernel
theorem od_198_122 : decode (ov_byt 198) 122 = .ok (.goto (-78), 3) := by decide +kernel
theorem od_198_60 : decode (ov_byt 198) 60 = .ok (.aload_n 0, 1) := by decide +kernel
theorem og_198_61 : ov_GF 198 61 8 24 := ⟨49, true, 895, by decide +kernel, by decide +kernel⟩
theorem od_198_64 : decode (ov_byt 198) 64 = .ok (.iconst 0, 1) := by decide +kernel
theorem od_198_65 : decode (ov_byt 198) 65 = .ok (.iload_n 1, 1) := by decide +kernel
theorem od_198_66 : decode (ov_byt 198) 66 = .ok (.iadd, 1) := by decide +kernel
theorem od_198_67 : decode (ov_byt 198) 67 = .ok (.iload_n 3, 1) := by decide +kernel
theorem od_198_68 : decode (ov_byt 198) 68 = .ok (.iastore, 1) := by decide +kernel
theorem od_198_69 : decode (ov_byt 198) 69 = .ok (.aload_n 0, 1) := by decide +kernel
theorem od_198_70 : decode (ov_byt 198) 70 = .ok (.iload_n 1, 1) := by decide +kernel
theorem oc_198_71 : ov_CL 198 71 1 199 := ⟨267, (1222, 1224, 47), (by show decode (ov_byt 198) 71 = Except.ok (Instr.invokevirtual 267, 3); decide +kernel), by decide +kernel⟩
theorem od_198_74 : decode (ov_byt 198) 74 = .ok (.istore 4, 2) := by decide +kernel
theorem od_198_76 : decode (ov_byt 198) 76 = .ok (.aload_n 0, 1) := by decide +kernel
theorem od_198_77 : decode (ov_byt 198) 77 = .ok (.iload 4, 2) := by decide +kernel
theorem od_198_79 : decode (ov_byt 198) 79 = .ok (.aload_n 0, 1) := by decide +kernel
theorem og_198_80 : ov_GF 198 80 8 37 := ⟨264, false, 907, by decide +kernel, by decide +kernel⟩
theorem od_198_90 : decode (ov_byt 198) 90 = .ok (.aload_n 0, 1) := by decide +kernel
theorem og_198_91 : ov_GF 198 91 8 36 := ⟨261, false, 906, by decide +kernel, by decide +kernel⟩
theorem op_198_94 : ov_PF 198 94 8 36 := ⟨261, 906, by decide +kernel, by decide +kernel⟩
theorem od_198_97 : decode (ov_byt 198) 97 = .ok (.aload_n 0, 1) := by decide +kernel
theorem od_198_98 : decode (ov_byt 198) 98 = .ok (.iload 4, 2) := by decide +kernel
theorem od_198_100 : decode (ov_byt 198) 100 = .ok (.aload_n 0, 1) := by decide +kernel
theorem og_198_101 : ov_GF 198 101 8 37 := ⟨264, false, 907, by decide +kernel, by decide +kernel⟩
theorem od_198_112 : decode (ov_byt 198) 112 = .ok (.aload_n 0, 1) := by decide +kernel
theorem og_198_113 : ov_GF 198 113 8 37 := ⟨264, false, 907, by decide +kernel, by decide +kernel⟩
theorem op_198_116 : ov_PF 198 116 8 37 := ⟨264, 907, by decide +kernel, by decide +kernel⟩
theorem od_198_107 : decode (ov_byt 198) 107 = .ok (.iload 4, 2) := by decide +kernel
theorem od_198_109 : decode (ov_byt 198) 109 = .ok (.goto 7, 3) := by decide +kernel
theorem od_198_104 : decode (ov_byt 198) 104 = .ok (.if_icmp .le 8, 3) := by decide +kernel
theorem od_198_86 : decode (ov_byt 198) 86 = .ok (.iload_n 3, 1) := by decide +kernel
theorem od_198_87 : decode (ov_byt 198) 87 = .ok (.goto 7, 3) := by decide +kernel
theorem od_198_83 : decode (ov_byt 198) 83 = .ok (.if_icmp .le 7, 3) := by decide +kernel
theorem od_198_57 : decode (ov_byt 198) 57 = .ok (.if_icmp .ne 62, 3) := by decide +kernel
theorem od_198_47 : decode (ov_byt 198) 47 = .ok (.if_icmp .ge 78, 3) := by decide +kernel
theorem od_198_125 : decode (ov_byt 198) 125 = .ok (.iinc 2 1, 3) := by decide +kernel
theorem od_198_128 : decode (ov_byt 198) 128 = .ok (.goto (-92), 3) := by decide +kernel
theorem od_198_39 : decode (ov_byt 198) 39 = .ok (.if_icmp .ge 92, 3) := by decide +kernel
theorem od_198_131 : decode (ov_byt 198) 131 = .ok (.return_, 1) := by decide +kernel
theorem od_200_0 : decode (ov_byt 200) 0 = .ok (.aload_n 0, 1) := by decide +kernel
theorem od_200_1 : decode (ov_byt 200) 1 = .ok (.iconst 0, 1) := by decide +kernel
theorem op_200_2 : ov_PF 200 2 8 0 := ⟨83, 871, by decide +kernel, by decide +kernel⟩
theorem od_200_5 : decode (ov_byt 200) 5 = .ok (.aload_n 0, 1) := by decide +kernel
theorem od_200_6 : decode (ov_byt 200) 6 = .ok (.iload_n 1, 1) := by decide +kernel
theorem oc_200_7 : ov_CL 200 7 1 175 := ⟨223, (1127, 1129, 35), (by show decode (ov_byt 200) 7 = Except.ok (Instr.invokevirtual 223, 3); decide +kernel), by decide +kernel⟩
theorem od_200_21 : decode (ov_byt 200) 21 = .ok (.iconst (-1), 1) := by decide +kernel
theorem od_200_22 : decode (ov_byt 200) 22 = .ok (.ireturn, 1) := by decide +kernel
theorem od_200_13 : decode (ov_byt 200) 13 = .ok (.aload_n 0, 1) := by decide +kernel
theorem od_200_14 : decode (ov_byt 200) 14 = .ok (.iload_n 2, 1) := by decide +kernel
theorem oc_200_15 : ov_CL 200 15 1 172 := ⟨215, (1115, 1117, 34), (by show decode (ov_byt 200) 15 = Except.ok (Instr.invokevirtual 215, 3); decide +kernel), by decide +kernel⟩
theorem od_200_23 : decode (ov_byt 200) 23 = .ok (.aload_n 0, 1) := by decide +kernel
theorem og_200_24 : ov_GF 200 24 8 23 := ⟨46, true, 894, by decide +kernel, by decide +kernel⟩
theorem od_200_27 : decode (ov_byt 200) 27 = .ok (.iconst 0, 1) := by decide +kernel
theorem od_200_28 : decode (ov_byt 200) 28 = .ok (.iload_n 1, 1) := by decide +kernel
theorem od_200_29 : decode (ov_byt 200) 29 = .ok (.iadd, 1) := by decide +kernel
theorem od_200_30 : decode (ov_byt 200) 30 = .ok (.iaload, 1) := by decide +kernel
theorem od_200_31 : decode (ov_byt 200) 31 = .ok (.bipush (-9), 2) := by decide +kernel
theorem od_200_39 : decode (ov_byt 200) 39 = .ok (.aload_n 0, 1) := by decide +kernel
theorem og_200_40 : ov_GF 200 40 8 23 := ⟨46, true, 894, by decide +kernel, by decide +kernel⟩
theorem od_200_43 : decode (ov_byt 200) 43 = .ok (.aload_n 0, 1) := by decide +kernel
theorem og_200_44 : ov_GF 200 44 8 24 := ⟨49, true, 895, by decide +kernel, by decide +kernel⟩
theorem od_200_47 : decode (ov_byt 200) 47 = .ok (.bipush 12, 2) := by decide +kernel
theorem oc_200_49 : ov_CL 200 49 0 158 := ⟨160, (1061, 1062, 0), (by show decode (ov_byt 200) 49 = Except.ok (Instr.invokestatic 160, 3); decide +kernel), by decide +kernel⟩
theorem od_200_52 : decode (ov_byt 200) 52 = .ok (.aload_n 0, 1) := by decide +kernel
theorem od_200_53 : decode (ov_byt 200) 53 = .ok (.iload_n 1, 1) := by decide +kernel
theorem od_200_54 : decode (ov_byt 200) 54 = .ok (.iload_n 2, 1) := by decide +kernel
theorem oc_200_55 : ov_CL 200 55 1 201 := ⟨274, (1230, 1232, 48), (by show decode (ov_byt 200) 55 = Except.ok (Instr.invokevirtual 274, 3); decide +kernel), by decide +kernel⟩
theorem od_200_58 : decode (ov_byt 200) 58 = .ok (.bipush (-9), 2) := by decide +kernel
theorem od_200_68 : decode (ov_byt 200) 68 = .ok (.aload_n 0, 1) := by decide +kernel
theorem og_200_69 : ov_GF 200 69 8 24 := ⟨49, true, 895, by decide +kernel, by decide +kernel⟩
theorem od_200_72 : decode (ov_byt 200) 72 = .ok (.iconst 0, 1) := by decide +kernel
theorem od_200_73 : decode (ov_byt 200) 73 = .ok (.iload_n 1, 1) := by decide +kernel
theorem od_200_74 : decode (ov_byt 200) 74 = .ok (.iadd, 1) := by decide +kernel
theorem od_200_75 : decode (ov_byt 200) 75 = .ok (.iaload, 1) := by decide +kernel
theorem od_200_76 : decode (ov_byt 200) 76 = .ok (.ireturn, 1) := by decide +kernel
theorem od_200_63 : decode (ov_byt 200) 63 = .ok (.bipush (-9), 2) := by decide +kernel
theorem od_200_65 : decode (ov_byt 200) 65 = .ok (.goto 11, 3) := by decide +kernel
theorem od_200_60 : decode (ov_byt 200) 60 = .ok (.if_icmp .ne 8, 3) := by decide +kernel
theorem od_200_36 : decode (ov_byt 200) 36 = .ok (.bipush (-3), 2) := by decide +kernel
theorem od_200_38 : decode (ov_byt 200) 38 = .ok (.ireturn, 1) := by decide +kernel
theorem od_200_33 : decode (ov_byt 200) 33 = .ok (.if_icmp .eq 6, 3) := by decide +kernel
theorem od_200_18 : decode (ov_byt 200) 18 = .ok (.ifCond .eq 5, 3) := by decide +kernel
theorem od_200_10 : decode (ov_byt 200) 10 = .ok (.ifCond .ne 11, 3) := by decide +kernel
theorem od_204_0 : decode (ov_byt 204) 0 = .ok (.iconst 0, 1) := by decide +kernel
theorem od_204_1 : decode (ov_byt 204) 1 = .ok (.istore_n 2, 1) := by decide +kernel
theorem od_204_2 : decode (ov_byt 204) 2 = .ok (.iconst 0, 1) := by decide +kernel
theorem od_204_3 : decode (ov_byt 204) 3 = .ok (.istore_n 3, 1) := by decide +kernel
theorem od_204_4 : decode (ov_byt 204) 4 = .ok (.iload_n 3, 1) := by decide +kernel
theorem od_204_5 : decode (ov_byt 204) 5 = .ok (.aload_n 0, 1) := by decide +kernel
theorem og_204_6 : ov_GF 204 6 8 4 := ⟨94, false, 875, by decide +kernel, by decide +kernel⟩
theorem od_204_12 : decode (ov_byt 204) 12 = .ok (.iload_n 2, 1) := by decide +kernel
theorem od_204_16 : decode (ov_byt 204) 16 = .ok (.aload_n 0, 1) := by decide +kernel
theorem od_204_17 : decode (ov_byt 204) 17 = .ok (.iload_n 1, 1) := by decide +kernel
theorem od_204_18 : decode (ov_byt 204) 18 = .ok (.iload_n 3, 1) := by decide +kernel
theorem oc_204_19 : ov_CL 204 19 1 201 := ⟨274, (1230, 1232, 48), (by show decode (ov_byt 204) 19 = Except.ok (Instr.invokevirtual 274, 3); decide +kernel), by decide +kernel⟩
theorem od_204_22 : decode (ov_byt 204) 22 = .ok (.bipush (-9), 2) := by decide +kernel
theorem od_204_31 : decode (ov_byt 204) 31 = .ok (.iconst 0, 1) := by decide +kernel
theorem od_204_32 : decode (ov_byt 204) 32 = .ok (.istore_n 2, 1) := by decide +kernel
theorem od_204_33 : decode (ov_byt 204) 33 = .ok (.iinc 3 1, 3) := by decide +kernel
theorem od_204_36 : decode (ov_byt 204) 36 = .ok (.goto (-32), 3) := by decide +kernel
theorem od_204_27 : decode (ov_byt 204) 27 = .ok (.iconst 1, 1) := by decide +kernel
theorem od_204_28 : decode (ov_byt 204) 28 = .ok (.goto 4, 3) := by decide +kernel
theorem od_204_24 : decode (ov_byt 204) 24 = .ok (.if_icmp .eq 7, 3) := by decide +kernel
theorem od_204_13 : decode (ov_byt 204) 13 = .ok (.ifCond .ne 26, 3) := by decide +kernel
theorem od_204_9 : decode (ov_byt 204) 9 = .ok (.if_icmp .ge 30, 3) := by decide +kernel
theorem od_204_39 : decode (ov_byt 204) 39 = .ok (.return_, 1) := by decide +kernel
theorem od_207_0 : decode (ov_byt 207) 0 = .ok (.aload_n 0, 1) := by decide +kernel
theorem od_207_1 : decode (ov_byt 207) 1 = .ok (.iconst 0, 1) := by decide +kernel
theorem op_207_2 : ov_PF 207 2 8 0 := ⟨83, 871, by decide +kernel, by decide +kernel⟩
theorem od_207_5 : decode (ov_byt 207) 5 = .ok (.iload_n 1, 1) := by decide +kernel
theorem od_207_6 : decode (ov_byt 207) 6 = .ok (.i2l, 1) := by decide +kernel
theorem od_207_7 : decode (ov_byt 207) 7 = .ok (.lconst 0, 1) := by decide +kernel
theorem od_207_8 : decode (ov_byt 207) 8 = .ok (.lconst 1, 1) := by decide +kernel
theorem oc_207_9 : ov_CL 207 9 0 144 := ⟨90, (1006, 1007, 0), (by show decode (ov_byt 207) 9 = Except.ok (Instr.invokestatic 90, 3); decide +kernel), by decide +kernel⟩
theorem od_207_18 : decode (ov_byt 207) 18 = .ok (.aload_n 0, 1) := by decide +kernel
theorem od_207_19 : decode (ov_byt 207) 19 = .ok (.bipush (-9), 2) := by decide +kernel
theorem op_207_21 : ov_PF 207 21 8 36 := ⟨261, 906, by decide +kernel, by decide +kernel⟩
theorem od_207_24 : decode (ov_byt 207) 24 = .ok (.aload_n 0, 1) := by decide +kernel
theorem od_207_25 : decode (ov_byt 207) 25 = .ok (.bipush (-9), 2) := by decide +kernel
theorem op_207_27 : ov_PF 207 27 8 37 := ⟨264, 907, by decide +kernel, by decide +kernel⟩
theorem od_207_30 : decode (ov_byt 207) 30 = .ok (.iconst 0, 1) := by decide +kernel
theorem od_207_31 : decode (ov_byt 207) 31 = .ok (.istore_n 2, 1) := by decide +kernel
theorem od_207_32 : decode (ov_byt 207) 32 = .ok (.iload_n 2, 1) := by decide +kernel
theorem od_207_33 : decode (ov_byt 207) 33 = .ok (.aload_n 0, 1) := by decide +kernel
theorem og_207_34 : ov_GF 207 34 8 7 := ⟨87, false, 878, by decide +kernel, by decide +kernel⟩
theorem od_207_40 : decode (ov_byt 207) 40 = .ok (.aload_n 0, 1) := by decide +kernel
theorem og_207_41 : ov_GF 207 41 8 23 := ⟨46, true, 894, by decide +kernel, by decide +kernel⟩
theorem od_207_44 : decode (ov_byt 207) 44 = .ok (.aload_n 0, 1) := by decide +kernel
theorem og_207_45 : ov_GF 207 45 8 24 := ⟨49, true, 895, by decide +kernel, by decide +kernel⟩
theorem od_207_48 : decode (ov_byt 207) 48 = .ok (.bipush 12, 2) := by decide +kernel
theorem oc_207_50 : ov_CL 207 50 0 158 := ⟨160, (1061, 1062, 0), (by show decode (ov_byt 207) 50 = Except.ok (Instr.invokestatic 160, 3); decide +kernel), by decide +kernel⟩
theorem od_207_53 : decode (ov_byt 207) 53 = .ok (.aload_n 0, 1) := by decide +kernel
theorem og_207_54 : ov_GF 207 54 8 24 := ⟨49, true, 895, by decide +kernel, by decide +kernel⟩
theorem od_207_57 : decode (ov_byt 207) 57 = .ok (.iconst 0, 1) := by decide +kernel
theorem od_207_58 : decode (ov_byt 207) 58 = .ok (.iload_n 2, 1) := by decide +kernel
theorem od_207_59 : decode (ov_byt 207) 59 = .ok (.iadd, 1) := by decide +kernel
theorem od_207_60 : decode (ov_byt 207) 60 = .ok (.bipush (-9), 2) := by decide +kernel
theorem od_207_62 : decode (ov_byt 207) 62 = .ok (.iastore, 1) := by decide +kernel
theorem od_207_63 : decode (ov_byt 207) 63 = .ok (.aload_n 0, 1) := by decide +kernel
theorem od_207_64 : decode (ov_byt 207) 64 = .ok (.aload_n 0, 1) := by decide +kernel
theorem og_207_65 : ov_GF 207 65 8 24 := ⟨49, true, 895, by decide +kernel, by decide +kernel⟩
theorem oc_207_68 : ov_CL 207 68 1 163 := ⟨209, (1080, 1082, 28), (by show decode (ov_byt 207) 68 = Except.ok (Instr.invokevirtual 209, 3); decide +kernel), by decide +kernel⟩
theorem oc_207_71 : ov_CL 207 71 0 191 := ⟨252, (1192, 1193, 0), (by show decode (ov_byt 207) 71 = Except.ok (Instr.invokestatic 252, 3); decide +kernel), by decide +kernel⟩
theorem od_207_74 : decode (ov_byt 207) 74 = .ok (.istore_n 3, 1) := by decide +kernel
theorem od_207_75 : decode (ov_byt 207) 75 = .ok (.aload_n 0, 1) := by decide +kernel
theorem og_207_76 : ov_GF 207 76 8 23 := ⟨46, true, 894, by decide +kernel, by decide +kernel⟩
theorem od_207_79 : decode (ov_byt 207) 79 = .ok (.iconst 0, 1) := by decide +kernel
theorem od_207_80 : decode (ov_byt 207) 80 = .ok (.iload_n 2, 1) := by decide +kernel
theorem od_207_81 : decode (ov_byt 207) 81 = .ok (.iadd, 1) := by decide +kernel
theorem od_207_82 : decode (ov_byt 207) 82 = .ok (.iaload, 1) := by decide +kernel
theorem od_207_83 : decode (ov_byt 207) 83 = .ok (.bipush (-9), 2) := by decide +kernel
theorem od_207_100 : decode (ov_byt 207) 100 = .ok (.iconst 0, 1) := by decide +kernel
theorem od_207_101 : decode (ov_byt 207) 101 = .ok (.istore 4, 2) := by decide +kernel
theorem od_207_103 : decode (ov_byt 207) 103 = .ok (.aload_n 0, 1) := by decide +kernel
theorem od_207_104 : decode (ov_byt 207) 104 = .ok (.iload 4, 2) := by decide +kernel
theorem od_207_113 : decode (ov_byt 207) 113 = .ok (.aload_n 0, 1) := by decide +kernel
theorem og_207_114 : ov_GF 207 114 8 36 := ⟨261, false, 906, by decide +kernel, by decide +kernel⟩
theorem op_207_117 : ov_PF 207 117 8 36 := ⟨261, 906, by decide +kernel, by decide +kernel⟩
theorem od_207_120 : decode (ov_byt 207) 120 = .ok (.aload_n 0, 1) := by decide +kernel
theorem od_207_121 : decode (ov_byt 207) 121 = .ok (.iload 4, 2) := by decide +kernel
theorem od_207_130 : decode (ov_byt 207) 130 = .ok (.aload_n 0, 1) := by decide +kernel
theorem og_207_131 : ov_GF 207 131 8 37 := ⟨264, false, 907, by decide +kernel, by decide +kernel⟩
theorem op_207_134 : ov_PF 207 134 8 37 := ⟨264, 907, by decide +kernel, by decide +kernel⟩
theorem od_207_137 : decode (ov_byt 207) 137 = .ok (.iinc 2 1, 3) := by decide +kernel
theorem od_207_140 : decode (ov_byt 207) 140 = .ok (.goto (-108), 3) := by decide +kernel
theorem od_207_126 : decode (ov_byt 207) 126 = .ok (.iload_n 3, 1) := by decide +kernel
theorem od_207_127 : decode (ov_byt 207) 127 = .ok (.goto 7, 3) := by decide +kernel
theorem od_207_123 : decode (ov_byt 207) 123 = .ok (.ifCond .eq 7, 3) := by decide +kernel
theorem od_207_109 : decode (ov_byt 207) 109 = .ok (.iload_n 2, 1) := by decide +kernel
theorem od_207_110 : decode (ov_byt 207) 110 = .ok (.goto 7, 3) := by decide +kernel
theorem od_207_106 : decode (ov_byt 207) 106 = .ok (.ifCond .eq 7, 3) := by decide +kernel
theorem od_207_88 : decode (ov_byt 207) 88 = .ok (.iload_n 3, 1) := by decide +kernel
theorem od_207_89 : decode (ov_byt 207) 89 = .ok (.aload_n 0, 1) := by decide +kernel
theorem og_207_90 : ov_GF 207 90 8 37 := ⟨264, false, 907, by decide +kernel, by decide +kernel⟩
theorem od_207_96 : decode (ov_byt 207) 96 = .ok (.iconst 1, 1) := by decide +kernel
theorem od_207_97 : decode (ov_byt 207) 97 = .ok (.goto 4, 3) := by decide +kernel
theorem od_207_93 : decode (ov_byt 207) 93 = .ok (.if_icmp .le 7, 3) := by decide +kernel
theorem od_207_85 : decode (ov_byt 207) 85 = .ok (.if_icmp .eq 15, 3) := by decide +kernel
theorem od_207_37 : decode (ov_byt 207) 37 = .ok (.if_icmp .ge 106, 3) := by decide +kernel
theorem od_207_143 : decode (ov_byt 207) 143 = .ok (.iload_n 1, 1) := by decide +kernel
theorem od_207_154 : decode (ov_byt 207) 154 = .ok (.aload_n 0, 1) := by decide +kernel
theorem og_207_155 : ov_GF 207 155 8 37 := ⟨264, false, 907, by decide +kernel, by decide +kernel⟩
theorem od_207_158 : decode (ov_byt 207) 158 = .ok (.ireturn, 1) := by decide +kernel
theorem od_207_147 : decode (ov_byt 207) 147 = .ok (.aload_n 0, 1) := by decide +kernel
theorem og_207_148 : ov_GF 207 148 8 36 := ⟨261, false, 906, by decide +kernel, by decide +kernel⟩
theorem od_207_151 : decode (ov_byt 207) 151 = .ok (.goto 7, 3) := by decide +kernel
theorem od_207_144 : decode (ov_byt 207) 144 = .ok (.ifCond .ne 10, 3) := by decide +kernel
theorem od_207_15 : decode (ov_byt 207) 15 = .ok (.bipush (-2), 2) := by decide +kernel
theorem od_207_17 : decode (ov_byt 207) 17 = .ok (.ireturn, 1) := by decide +kernel
theorem od_207_12 : decode (ov_byt 207) 12 = .ok (.ifCond .ne 6, 3) := by decide +kernel
theorem od_208_0 : decode (ov_byt 208) 0 = .ok (.aload_n 0, 1) := by decide +kernel
theorem od_208_1 : decode (ov_byt 208) 1 = .ok (.iconst 0, 1) := by decide +kernel
theorem op_208_2 : ov_PF 208 2 8 0 := ⟨83, 871, by decide +kernel, by decide +kernel⟩
theorem od_208_5 : decode (ov_byt 208) 5 = .ok (.iload_n 1, 1) := by decide +kernel
theorem od_208_6 : decode (ov_byt 208) 6 = .ok (.i2l, 1) := by decide +kernel
theorem od_208_7 : decode (ov_byt 208) 7 = .ok (.lconst 1, 1) := by decide +kernel
theorem ok_208_8 : ∃ w, ov_find ov_k2t (286 * 32 + ov_oc 208) = some ((4 : Int64), w) := ⟨1262, by decide +kernel⟩
theorem od_208_8 : decode (ov_byt 208) 8 = .ok (.ldc2_w 286, 3) := by decide +kernel
theorem oc_208_11 : ov_CL 208 11 0 144 := ⟨90, (1006, 1007, 0), (by show decode (ov_byt 208) 11 = Except.ok (Instr.invokestatic 90, 3); decide +kernel), by decide +kernel⟩
theorem od_208_34 : decode (ov_byt 208) 34 = .ok (.bipush (-2), 2) := by decide +kernel
theorem od_208_36 : decode (ov_byt 208) 36 = .ok (.ireturn, 1) := by decide +kernel
theorem od_208_17 : decode (ov_byt 208) 17 = .ok (.lload_n 2, 1) := by decide +kernel
theorem od_208_18 : decode (ov_byt 208) 18 = .ok (.lconst 0, 1) := by decide +kernel
theorem ok_208_19 : ∃ w, ov_find ov_k2t (288 * 32 + ov_oc 208) = some ((1000 : Int64), w) := ⟨1263, by decide +kernel⟩
theorem od_208_19 : decode (ov_byt 208) 19 = .ok (.ldc2_w 288, 3) := by decide +kernel
theorem od_208_22 : decode (ov_byt 208) 22 = .ok (.iload_n 1, 1) := by decide +kernel
theorem oc_208_23 : ov_CL 208 23 0 209 := ⟨290, (1264, 1265, 0), (by show decode (ov_byt 208) 23 = Except.ok (Instr.invokestatic 290, 3); decide +kernel), by decide +kernel⟩
theorem od_208_26 : decode (ov_byt 208) 26 = .ok (.lconst 1, 1) := by decide +kernel
theorem od_208_27 : decode (ov_byt 208) 27 = .ok (.lsub, 1) := by decide +kernel
theorem oc_208_28 : ov_CL 208 28 0 144 := ⟨90, (1006, 1007, 0), (by show decode (ov_byt 208) 28 = Except.ok (Instr.invokestatic 90, 3); decide +kernel), by decide +kernel⟩
theorem od_208_37 : decode (ov_byt 208) 37 = .ok (.aload_n 0, 1) := by decide +kernel
theorem og_208_38 : ov_GF 208 38 8 23 := ⟨46, true, 894, by decide +kernel, by decide +kernel⟩
theorem od_208_41 : decode (ov_byt 208) 41 = .ok (.aload_n 0, 1) := by decide +kernel
theorem og_208_42 : ov_GF 208 42 8 24 := ⟨49, true, 895, by decide +kernel, by decide +kernel⟩
theorem od_208_45 : decode (ov_byt 208) 45 = .ok (.bipush 12, 2) := by decide +kernel
theorem oc_208_47 : ov_CL 208 47 0 158 := ⟨160, (1061, 1062, 0), (by show decode (ov_byt 208) 47 = Except.ok (Instr.invokestatic 160, 3); decide +kernel), by decide +kernel⟩
theorem od_208_50 : decode (ov_byt 208) 50 = .ok (.iconst 0, 1) := by decide +kernel
theorem od_208_51 : decode (ov_byt 208) 51 = .ok (.istore 4, 2) := by decide +kernel
theorem od_208_53 : decode (ov_byt 208) 53 = .ok (.iload 4, 2) := by decide +kernel
theorem od_208_55 : decode (ov_byt 208) 55 = .ok (.iload_n 1, 1) := by decide +kernel
theorem od_208_59 : decode (ov_byt 208) 59 = .ok (.aload_n 0, 1) := by decide +kernel
theorem od_208_60 : decode (ov_byt 208) 60 = .ok (.lload_n 2, 1) := by decide +kernel
theorem ok_208_61 : ∃ w, ov_find ov_k2t (288 * 32 + ov_oc 208) = some ((1000 : Int64), w) := ⟨1263, by decide +kernel⟩
theorem od_208_61 : decode (ov_byt 208) 61 = .ok (.ldc2_w 288, 3) := by decide +kernel
theorem od_208_64 : decode (ov_byt 208) 64 = .ok (.iload_n 1, 1) := by decide +kernel
theorem od_208_65 : decode (ov_byt 208) 65 = .ok (.iconst 1, 1) := by decide +kernel
theorem od_208_66 : decode (ov_byt 208) 66 = .ok (.isub, 1) := by decide +kernel
theorem od_208_67 : decode (ov_byt 208) 67 = .ok (.iload 4, 2) := by decide +kernel
theorem od_208_69 : decode (ov_byt 208) 69 = .ok (.isub, 1) := by decide +kernel
theorem oc_208_70 : ov_CL 208 70 0 209 := ⟨290, (1264, 1265, 0), (by show decode (ov_byt 208) 70 = Except.ok (Instr.invokestatic 290, 3); decide +kernel), by decide +kernel⟩
theorem od_208_73 : decode (ov_byt 208) 73 = .ok (.ldiv, 1) := by decide +kernel
theorem ok_208_74 : ∃ w, ov_find ov_k2t (288 * 32 + ov_oc 208) = some ((1000 : Int64), w) := ⟨1263, by decide +kernel⟩
theorem od_208_74 : decode (ov_byt 208) 74 = .ok (.ldc2_w 288, 3) := by decide +kernel
theorem od_208_77 : decode (ov_byt 208) 77 = .ok (.lrem, 1) := by decide +kernel
theorem od_208_78 : decode (ov_byt 208) 78 = .ok (.l2i, 1) := by decide +kernel
theorem oc_208_79 : ov_CL 208 79 1 210 := ⟨294, (1267, 1269, 52), (by show decode (ov_byt 208) 79 = Except.ok (Instr.invokevirtual 294, 3); decide +kernel), by decide +kernel⟩
theorem od_208_88 : decode (ov_byt 208) 88 = .ok (.iinc 4 1, 3) := by decide +kernel
theorem od_208_91 : decode (ov_byt 208) 91 = .ok (.goto (-38), 3) := by decide +kernel
theorem od_208_85 : decode (ov_byt 208) 85 = .ok (.iload 4, 2) := by decide +kernel
theorem od_208_87 : decode (ov_byt 208) 87 = .ok (.ireturn, 1) := by decide +kernel
theorem od_208_82 : decode (ov_byt 208) 82 = .ok (.ifCond .ne 6, 3) := by decide +kernel
theorem od_208_56 : decode (ov_byt 208) 56 = .ok (.if_icmp .ge 38, 3) := by decide +kernel
theorem od_208_94 : decode (ov_byt 208) 94 = .ok (.bipush (-9), 2) := by decide +kernel
theorem od_208_96 : decode (ov_byt 208) 96 = .ok (.ireturn, 1) := by decide +kernel
theorem od_208_31 : decode (ov_byt 208) 31 = .ok (.ifCond .ne 6, 3) := by decide +kernel
theorem od_208_14 : decode (ov_byt 208) 14 = .ok (.ifCond .eq 20, 3) := by decide +kernel
theorem od_211_0 : decode (ov_byt 211) 0 = .ok (.aload_n 0, 1) := by decide +kernel
theorem od_211_1 : decode (ov_byt 211) 1 = .ok (.iconst 0, 1) := by decide +kernel
theorem op_211_2 : ov_PF 211 2 8 0 := ⟨83, 871, by decide +kernel, by decide +kernel⟩
theorem od_211_5 : decode (ov_byt 211) 5 = .ok (.aload_n 0, 1) := by decide +kernel
theorem od_211_6 : decode (ov_byt 211) 6 = .ok (.iload_n 1, 1) := by decide +kernel
theorem oc_211_7 : ov_CL 211 7 1 175 := ⟨223, (1127, 1129, 35), (by show decode (ov_byt 211) 7 = Except.ok (Instr.invokevirtual 223, 3); decide +kernel), by decide +kernel⟩
theorem od_211_15 : decode (ov_byt 211) 15 = .ok (.iconst 0, 1) := by decide +kernel
theorem od_211_16 : decode (ov_byt 211) 16 = .ok (.istore_n 3, 1) := by decide +kernel
theorem od_211_17 : decode (ov_byt 211) 17 = .ok (.iload_n 3, 1) := by decide +kernel
theorem od_211_18 : decode (ov_byt 211) 18 = .ok (.iconst 1, 1) := by decide +kernel
theorem od_211_19 : decode (ov_byt 211) 19 = .ok (.aload_n 0, 1) := by decide +kernel
theorem og_211_20 : ov_GF 211 20 8 7 := ⟨87, false, 878, by decide +kernel, by decide +kernel⟩
theorem od_211_23 : decode (ov_byt 211) 23 = .ok (.ishl, 1) := by decide +kernel
theorem od_211_27 : decode (ov_byt 211) 27 = .ok (.aload_n 0, 1) := by decide +kernel
theorem og_211_28 : ov_GF 211 28 8 23 := ⟨46, true, 894, by decide +kernel, by decide +kernel⟩
theorem od_211_31 : decode (ov_byt 211) 31 = .ok (.aload_n 0, 1) := by decide +kernel
theorem og_211_32 : ov_GF 211 32 8 24 := ⟨49, true, 895, by decide +kernel, by decide +kernel⟩
theorem od_211_35 : decode (ov_byt 211) 35 = .ok (.bipush 12, 2) := by decide +kernel
theorem oc_211_37 : ov_CL 211 37 0 158 := ⟨160, (1061, 1062, 0), (by show decode (ov_byt 211) 37 = Except.ok (Instr.invokestatic 160, 3); decide +kernel), by decide +kernel⟩
theorem od_211_40 : decode (ov_byt 211) 40 = .ok (.iconst 0, 1) := by decide +kernel
theorem od_211_41 : decode (ov_byt 211) 41 = .ok (.istore 4, 2) := by decide +kernel
theorem od_211_43 : decode (ov_byt 211) 43 = .ok (.iload 4, 2) := by decide +kernel
theorem od_211_45 : decode (ov_byt 211) 45 = .ok (.aload_n 0, 1) := by decide +kernel
theorem og_211_46 : ov_GF 211 46 8 7 := ⟨87, false, 878, by decide +kernel, by decide +kernel⟩
theorem od_211_52 : decode (ov_byt 211) 52 = .ok (.aload_n 0, 1) := by decide +kernel
theorem og_211_53 : ov_GF 211 53 8 24 := ⟨49, true, 895, by decide +kernel, by decide +kernel⟩
theorem od_211_56 : decode (ov_byt 211) 56 = .ok (.iconst 0, 1) := by decide +kernel
theorem od_211_57 : decode (ov_byt 211) 57 = .ok (.iload 4, 2) := by decide +kernel
theorem od_211_59 : decode (ov_byt 211) 59 = .ok (.iadd, 1) := by decide +kernel
theorem od_211_60 : decode (ov_byt 211) 60 = .ok (.iload_n 3, 1) := by decide +kernel
theorem od_211_61 : decode (ov_byt 211) 61 = .ok (.iload 4, 2) := by decide +kernel
theorem oc_211_63 : ov_CL 211 63 0 152 := ⟨117, (1038, 1039, 0), (by show decode (ov_byt 211) 63 = Except.ok (Instr.invokestatic 117, 3); decide +kernel), by decide +kernel⟩
theorem od_211_81 : decode (ov_byt 211) 81 = .ok (.bipush (-9), 2) := by decide +kernel
theorem od_211_83 : decode (ov_byt 211) 83 = .ok (.iastore, 1) := by decide +kernel
theorem od_211_84 : decode (ov_byt 211) 84 = .ok (.iinc 4 1, 3) := by decide +kernel
theorem od_211_87 : decode (ov_byt 211) 87 = .ok (.goto (-44), 3) := by decide +kernel
theorem od_211_69 : decode (ov_byt 211) 69 = .ok (.aload_n 0, 1) := by decide +kernel
theorem og_211_70 : ov_GF 211 70 8 23 := ⟨46, true, 894, by decide +kernel, by decide +kernel⟩
theorem od_211_73 : decode (ov_byt 211) 73 = .ok (.iconst 0, 1) := by decide +kernel
theorem od_211_74 : decode (ov_byt 211) 74 = .ok (.iload 4, 2) := by decide +kernel
theorem od_211_76 : decode (ov_byt 211) 76 = .ok (.iadd, 1) := by decide +kernel
theorem od_211_77 : decode (ov_byt 211) 77 = .ok (.iaload, 1) := by decide +kernel
theorem od_211_78 : decode (ov_byt 211) 78 = .ok (.goto 5, 3) := by decide +kernel
theorem od_211_66 : decode (ov_byt 211) 66 = .ok (.ifCond .eq 15, 3) := by decide +kernel
theorem od_211_49 : decode (ov_byt 211) 49 = .ok (.if_icmp .ge 41, 3) := by decide +kernel
theorem od_211_90 : decode (ov_byt 211) 90 = .ok (.aload_n 0, 1) := by decide +kernel
theorem og_211_91 : ov_GF 211 91 8 42 := ⟨80, true, 912, by decide +kernel, by decide +kernel⟩
theorem od_211_94 : decode (ov_byt 211) 94 = .ok (.iload_n 3, 1) := by decide +kernel
theorem od_211_95 : decode (ov_byt 211) 95 = .ok (.aload_n 0, 1) := by decide +kernel
theorem od_211_96 : decode (ov_byt 211) 96 = .ok (.aload_n 0, 1) := by decide +kernel
theorem og_211_97 : ov_GF 211 97 8 24 := ⟨49, true, 895, by decide +kernel, by decide +kernel⟩
theorem oc_211_100 : ov_CL 211 100 1 163 := ⟨209, (1080, 1082, 28), (by show decode (ov_byt 211) 100 = Except.ok (Instr.invokevirtual 209, 3); decide +kernel), by decide +kernel⟩
theorem oc_211_103 : ov_CL 211 103 0 191 := ⟨252, (1192, 1193, 0), (by show decode (ov_byt 211) 103 = Except.ok (Instr.invokestatic 252, 3); decide +kernel), by decide +kernel⟩
theorem od_211_106 : decode (ov_byt 211) 106 = .ok (.iastore, 1) := by decide +kernel
theorem od_211_107 : decode (ov_byt 211) 107 = .ok (.iinc 3 1, 3) := by decide +kernel
theorem od_211_110 : decode (ov_byt 211) 110 = .ok (.goto (-93), 3) := by decide +kernel
theorem od_211_24 : decode (ov_byt 211) 24 = .ok (.if_icmp .ge 89, 3) := by decide +kernel
theorem od_211_113 : decode (ov_byt 211) 113 = .ok (.iconst 0, 1) := by decide +kernel
theorem od_211_114 : decode (ov_byt 211) 114 = .ok (.istore_n 3, 1) := by decide +kernel
theorem od_211_115 : decode (ov_byt 211) 115 = .ok (.iconst 0, 1) := by decide +kernel
theorem od_211_116 : decode (ov_byt 211) 116 = .ok (.istore 4, 2) := by decide +kernel
theorem od_211_118 : decode (ov_byt 211) 118 = .ok (.iload 4, 2) := by decide +kernel
theorem od_211_120 : decode (ov_byt 211) 120 = .ok (.iconst 1, 1) := by decide +kernel
theorem od_211_121 : decode (ov_byt 211) 121 = .ok (.aload_n 0, 1) := by decide +kernel
theorem og_211_122 : ov_GF 211 122 8 7 := ⟨87, false, 878, by decide +kernel, by decide +kernel⟩
theorem od_211_125 : decode (ov_byt 211) 125 = .ok (.ishl, 1) := by decide +kernel
theorem od_211_129 : decode (ov_byt 211) 129 = .ok (.iload 4, 2) := by decide +kernel
theorem od_211_131 : decode (ov_byt 211) 131 = .ok (.iload_n 1, 1) := by decide +kernel
theorem oc_211_132 : ov_CL 211 132 0 152 := ⟨117, (1038, 1039, 0), (by show decode (ov_byt 211) 132 = Except.ok (Instr.invokestatic 117, 3); decide +kernel), by decide +kernel⟩
theorem od_211_186 : decode (ov_byt 211) 186 = .ok (.iinc 4 1, 3) := by decide +kernel
theorem od_211_189 : decode (ov_byt 211) 189 = .ok (.goto (-71), 3) := by decide +kernel
theorem od_211_138 : decode (ov_byt 211) 138 = .ok (.iload 4, 2) := by decide +kernel
theorem oc_211_140 : ov_CL 211 140 0 191 := ⟨252, (1192, 1193, 0), (by show decode (ov_byt 211) 140 = Except.ok (Instr.invokestatic 252, 3); decide +kernel), by decide +kernel⟩
theorem od_211_143 : decode (ov_byt 211) 143 = .ok (.istore 5, 2) := by decide +kernel
theorem od_211_145 : decode (ov_byt 211) 145 = .ok (.iload_n 3, 1) := by decide +kernel
theorem od_211_146 : decode (ov_byt 211) 146 = .ok (.iload 5, 2) := by decide +kernel
theorem oc_211_148 : ov_CL 211 148 0 212 := ⟨300, (1275, 1276, 0), (by show decode (ov_byt 211) 148 = Except.ok (Instr.invokestatic 300, 3); decide +kernel), by decide +kernel⟩
theorem od_211_151 : decode (ov_byt 211) 151 = .ok (.aload_n 0, 1) := by decide +kernel
theorem og_211_152 : ov_GF 211 152 8 7 := ⟨87, false, 878, by decide +kernel, by decide +kernel⟩
theorem od_211_155 : decode (ov_byt 211) 155 = .ok (.iconst 1, 1) := by decide +kernel
theorem od_211_156 : decode (ov_byt 211) 156 = .ok (.isub, 1) := by decide +kernel
theorem od_211_157 : decode (ov_byt 211) 157 = .ok (.iload 5, 2) := by decide +kernel
theorem od_211_159 : decode (ov_byt 211) 159 = .ok (.isub, 1) := by decide +kernel
theorem oc_211_160 : ov_CL 211 160 0 212 := ⟨300, (1275, 1276, 0), (by show decode (ov_byt 211) 160 = Except.ok (Instr.invokestatic 300, 3); decide +kernel), by decide +kernel⟩
theorem od_211_163 : decode (ov_byt 211) 163 = .ok (.imul, 1) := by decide +kernel
theorem od_211_164 : decode (ov_byt 211) 164 = .ok (.aload_n 0, 1) := by decide +kernel
theorem og_211_165 : ov_GF 211 165 8 42 := ⟨80, true, 912, by decide +kernel, by decide +kernel⟩
theorem od_211_168 : decode (ov_byt 211) 168 = .ok (.iload 4, 2) := by decide +kernel
theorem od_211_170 : decode (ov_byt 211) 170 = .ok (.iconst 1, 1) := by decide +kernel
theorem od_211_171 : decode (ov_byt 211) 171 = .ok (.iload_n 1, 1) := by decide +kernel
theorem od_211_172 : decode (ov_byt 211) 172 = .ok (.ishl, 1) := by decide +kernel
theorem od_211_173 : decode (ov_byt 211) 173 = .ok (.ior, 1) := by decide +kernel
theorem od_211_174 : decode (ov_byt 211) 174 = .ok (.iaload, 1) := by decide +kernel
theorem od_211_175 : decode (ov_byt 211) 175 = .ok (.aload_n 0, 1) := by decide +kernel
theorem og_211_176 : ov_GF 211 176 8 42 := ⟨80, true, 912, by decide +kernel, by decide +kernel⟩
theorem od_211_179 : decode (ov_byt 211) 179 = .ok (.iload 4, 2) := by decide +kernel
theorem od_211_181 : decode (ov_byt 211) 181 = .ok (.iaload, 1) := by decide +kernel
theorem od_211_182 : decode (ov_byt 211) 182 = .ok (.isub, 1) := by decide +kernel
theorem od_211_183 : decode (ov_byt 211) 183 = .ok (.imul, 1) := by decide +kernel
theorem od_211_184 : decode (ov_byt 211) 184 = .ok (.iadd, 1) := by decide +kernel
theorem od_211_185 : decode (ov_byt 211) 185 = .ok (.istore_n 3, 1) := by decide +kernel
theorem od_211_135 : decode (ov_byt 211) 135 = .ok (.ifCond .ne 51, 3) := by decide +kernel
theorem od_211_126 : decode (ov_byt 211) 126 = .ok (.if_icmp .ge 66, 3) := by decide +kernel
theorem od_211_192 : decode (ov_byt 211) 192 = .ok (.iload_n 3, 1) := by decide +kernel
theorem od_211_193 : decode (ov_byt 211) 193 = .ok (.aload_n 0, 1) := by decide +kernel
theorem og_211_194 : ov_GF 211 194 8 7 := ⟨87, false, 878, by decide +kernel, by decide +kernel⟩
theorem oc_211_197 : ov_CL 211 197 0 212 := ⟨300, (1275, 1276, 0), (by show decode (ov_byt 211) 197 = Except.ok (Instr.invokestatic 300, 3); decide +kernel), by decide +kernel⟩
theorem od_211_200 : decode (ov_byt 211) 200 = .ok (.iload_n 2, 1) := by decide +kernel
theorem oc_211_201 : ov_CL 211 201 0 213 := ⟨303, (1278, 1279, 0), (by show decode (ov_byt 211) 201 = Except.ok (Instr.invokestatic 303, 3); decide +kernel), by decide +kernel⟩
theorem od_211_204 : decode (ov_byt 211) 204 = .ok (.ireturn, 1) := by decide +kernel
theorem od_211_13 : decode (ov_byt 211) 13 = .ok (.iconst (-1), 1) := by decide +kernel
theorem od_211_14 : decode (ov_byt 211) 14 = .ok (.ireturn, 1) := by decide +kernel
theorem od_211_10 : decode (ov_byt 211) 10 = .ok (.ifCond .eq 5, 3) := by decide +kernel
theorem od_219_0 : decode (ov_byt 219) 0 = .ok (.iconst 0, 1) := by decide +kernel
theorem od_219_1 : decode (ov_byt 219) 1 = .ok (.istore_n 3, 1) := by decide +kernel
theorem od_219_2 : decode (ov_byt 219) 2 = .ok (.iload_n 3, 1) := by decide +kernel
theorem od_219_3 : decode (ov_byt 219) 3 = .ok (.aload_n 0, 1) := by decide +kernel
theorem og_219_4 : ov_GF 219 4 8 4 := ⟨94, false, 875, by decide +kernel, by decide +kernel⟩
theorem od_219_10 : decode (ov_byt 219) 10 = .ok (.iconst 0, 1) := by decide +kernel
theorem od_219_11 : decode (ov_byt 219) 11 = .ok (.istore 4, 2) := by decide +kernel
theorem od_219_13 : decode (ov_byt 219) 13 = .ok (.iload 4, 2) := by decide +kernel
theorem od_219_15 : decode (ov_byt 219) 15 = .ok (.aload_n 0, 1) := by decide +kernel
theorem og_219_16 : ov_GF 219 16 8 4 := ⟨94, false, 875, by decide +kernel, by decide +kernel⟩
theorem od_219_22 : decode (ov_byt 219) 22 = .ok (.aload_n 0, 1) := by decide +kernel
theorem og_219_23 : ov_GF 219 23 8 23 := ⟨46, true, 894, by decide +kernel, by decide +kernel⟩
theorem od_219_26 : decode (ov_byt 219) 26 = .ok (.aload_n 0, 1) := by decide +kernel
theorem og_219_27 : ov_GF 219 27 8 24 := ⟨49, true, 895, by decide +kernel, by decide +kernel⟩
theorem od_219_30 : decode (ov_byt 219) 30 = .ok (.bipush 12, 2) := by decide +kernel
theorem oc_219_32 : ov_CL 219 32 0 158 := ⟨160, (1061, 1062, 0), (by show decode (ov_byt 219) 32 = Except.ok (Instr.invokestatic 160, 3); decide +kernel), by decide +kernel⟩
theorem od_219_35 : decode (ov_byt 219) 35 = .ok (.aload_n 0, 1) := by decide +kernel
theorem od_219_36 : decode (ov_byt 219) 36 = .ok (.iload_n 1, 1) := by decide +kernel
theorem od_219_37 : decode (ov_byt 219) 37 = .ok (.iload_n 3, 1) := by decide +kernel
theorem oc_219_38 : ov_CL 219 38 1 201 := ⟨274, (1230, 1232, 48), (by show decode (ov_byt 219) 38 = Except.ok (Instr.invokevirtual 274, 3); decide +kernel), by decide +kernel⟩
theorem od_219_41 : decode (ov_byt 219) 41 = .ok (.istore 5, 2) := by decide +kernel
theorem od_219_43 : decode (ov_byt 219) 43 = .ok (.aload_n 0, 1) := by decide +kernel
theorem od_219_44 : decode (ov_byt 219) 44 = .ok (.iload_n 2, 1) := by decide +kernel
theorem od_219_45 : decode (ov_byt 219) 45 = .ok (.iload 4, 2) := by decide +kernel
theorem oc_219_47 : ov_CL 219 47 1 201 := ⟨274, (1230, 1232, 48), (by show decode (ov_byt 219) 47 = Except.ok (Instr.invokevirtual 274, 3); decide +kernel), by decide +kernel⟩
theorem od_219_50 : decode (ov_byt 219) 50 = .ok (.istore 6, 2) := by decide +kernel
theorem od_219_52 : decode (ov_byt 219) 52 = .ok (.aload_n 0, 1) := by decide +kernel
theorem og_219_53 : ov_GF 219 53 8 41 := ⟨77, true, 911, by decide +kernel, by decide +kernel⟩
theorem od_219_56 : decode (ov_byt 219) 56 = .ok (.iconst 2, 1) := by decide +kernel
theorem od_219_57 : decode (ov_byt 219) 57 = .ok (.iconst 3, 1) := by decide +kernel
