theorem od_219_58 : decode (ov_byt 219) 58 = .ok (.iload_n 3, 1) := by decide +kernel
theorem od_219_59 : decode (ov_byt 219) 59 = .ok (.imul, 1) := by decide +kernel
theorem od_219_60 : decode (ov_byt 219) 60 = .ok (.iload 4, 2) := by decide +kernel
theorem od_219_62 : decode (ov_byt 219) 62 = .ok (.iadd, 1) := by decide +kernel
theorem od_219_63 : decode (ov_byt 219) 63 = .ok (.imul, 1) := by decide +kernel
theorem od_219_64 : decode (ov_byt 219) 64 = .ok (.aload_n 0, 1) := by decide +kernel
theorem od_219_65 : decode (ov_byt 219) 65 = .ok (.iload_n 1, 1) := by decide +kernel
theorem od_219_66 : decode (ov_byt 219) 66 = .ok (.iload 5, 2) := by decide +kernel
theorem oc_219_68 : ov_CL 219 68 1 220 := ⟨309, (1305, 1307, 54), (by show decode (ov_byt 219) 68 = Except.ok (Instr.invokevirtual 309, 3); decide +kernel), by decide +kernel⟩
theorem od_219_71 : decode (ov_byt 219) 71 = .ok (.iastore, 1) := by decide +kernel
theorem od_219_72 : decode (ov_byt 219) 72 = .ok (.aload_n 0, 1) := by decide +kernel
theorem og_219_73 : ov_GF 219 73 8 41 := ⟨77, true, 911, by decide +kernel, by decide +kernel⟩
theorem od_219_76 : decode (ov_byt 219) 76 = .ok (.iconst 2, 1) := by decide +kernel
theorem od_219_77 : decode (ov_byt 219) 77 = .ok (.iconst 3, 1) := by decide +kernel
theorem od_219_78 : decode (ov_byt 219) 78 = .ok (.iload_n 3, 1) := by decide +kernel
theorem od_219_79 : decode (ov_byt 219) 79 = .ok (.imul, 1) := by decide +kernel
theorem od_219_80 : decode (ov_byt 219) 80 = .ok (.iload 4, 2) := by decide +kernel
theorem od_219_82 : decode (ov_byt 219) 82 = .ok (.iadd, 1) := by decide +kernel
theorem od_219_83 : decode (ov_byt 219) 83 = .ok (.imul, 1) := by decide +kernel
theorem od_219_84 : decode (ov_byt 219) 84 = .ok (.iconst 1, 1) := by decide +kernel
theorem od_219_85 : decode (ov_byt 219) 85 = .ok (.iadd, 1) := by decide +kernel
theorem od_219_86 : decode (ov_byt 219) 86 = .ok (.aload_n 0, 1) := by decide +kernel
theorem od_219_87 : decode (ov_byt 219) 87 = .ok (.iload_n 2, 1) := by decide +kernel
theorem od_219_88 : decode (ov_byt 219) 88 = .ok (.iload 6, 2) := by decide +kernel
theorem oc_219_90 : ov_CL 219 90 1 220 := ⟨309, (1305, 1307, 54), (by show decode (ov_byt 219) 90 = Except.ok (Instr.invokevirtual 309, 3); decide +kernel), by decide +kernel⟩
theorem od_219_93 : decode (ov_byt 219) 93 = .ok (.iastore, 1) := by decide +kernel
theorem od_219_94 : decode (ov_byt 219) 94 = .ok (.iinc 4 1, 3) := by decide +kernel
theorem od_219_97 : decode (ov_byt 219) 97 = .ok (.goto (-84), 3) := by decide +kernel
theorem od_219_19 : decode (ov_byt 219) 19 = .ok (.if_icmp .ge 81, 3) := by decide +kernel
theorem od_219_100 : decode (ov_byt 219) 100 = .ok (.iinc 3 1, 3) := by decide +kernel
theorem od_219_103 : decode (ov_byt 219) 103 = .ok (.goto (-101), 3) := by decide +kernel
theorem od_219_7 : decode (ov_byt 219) 7 = .ok (.if_icmp .ge 99, 3) := by decide +kernel
theorem od_219_106 : decode (ov_byt 219) 106 = .ok (.aload_n 0, 1) := by decide +kernel
theorem od_219_107 : decode (ov_byt 219) 107 = .ok (.iconst 0, 1) := by decide +kernel
theorem op_219_108 : ov_PF 219 108 8 39 := ⟨312, 909, by decide +kernel, by decide +kernel⟩
theorem od_219_111 : decode (ov_byt 219) 111 = .ok (.aload_n 0, 1) := by decide +kernel
theorem od_219_112 : decode (ov_byt 219) 112 = .ok (.bipush (-9), 2) := by decide +kernel
theorem op_219_114 : ov_PF 219 114 8 40 := ⟨315, 910, by decide +kernel, by decide +kernel⟩
theorem od_219_117 : decode (ov_byt 219) 117 = .ok (.iconst 0, 1) := by decide +kernel
theorem od_219_118 : decode (ov_byt 219) 118 = .ok (.istore_n 3, 1) := by decide +kernel
theorem od_219_119 : decode (ov_byt 219) 119 = .ok (.iload_n 3, 1) := by decide +kernel
theorem od_219_120 : decode (ov_byt 219) 120 = .ok (.aload_n 0, 1) := by decide +kernel
theorem og_219_121 : ov_GF 219 121 8 4 := ⟨94, false, 875, by decide +kernel, by decide +kernel⟩
theorem od_219_127 : decode (ov_byt 219) 127 = .ok (.iconst 0, 1) := by decide +kernel
theorem od_219_128 : decode (ov_byt 219) 128 = .ok (.istore 4, 2) := by decide +kernel
theorem od_219_130 : decode (ov_byt 219) 130 = .ok (.iload 4, 2) := by decide +kernel
theorem od_219_132 : decode (ov_byt 219) 132 = .ok (.aload_n 0, 1) := by decide +kernel
theorem og_219_133 : ov_GF 219 133 8 4 := ⟨94, false, 875, by decide +kernel, by decide +kernel⟩
theorem od_219_139 : decode (ov_byt 219) 139 = .ok (.iconst 1, 1) := by decide +kernel
theorem od_219_140 : decode (ov_byt 219) 140 = .ok (.istore 5, 2) := by decide +kernel
theorem od_219_142 : decode (ov_byt 219) 142 = .ok (.iconst 0, 1) := by decide +kernel
theorem od_219_143 : decode (ov_byt 219) 143 = .ok (.istore 6, 2) := by decide +kernel
theorem od_219_145 : decode (ov_byt 219) 145 = .ok (.iload 6, 2) := by decide +kernel
theorem od_219_147 : decode (ov_byt 219) 147 = .ok (.aload_n 0, 1) := by decide +kernel
theorem og_219_148 : ov_GF 219 148 8 4 := ⟨94, false, 875, by decide +kernel, by decide +kernel⟩
theorem od_219_154 : decode (ov_byt 219) 154 = .ok (.iload 5, 2) := by decide +kernel
theorem od_219_226 : decode (ov_byt 219) 226 = .ok (.iconst 0, 1) := by decide +kernel
theorem od_219_227 : decode (ov_byt 219) 227 = .ok (.istore 5, 2) := by decide +kernel
theorem od_219_229 : decode (ov_byt 219) 229 = .ok (.iinc 6 1, 3) := by decide +kernel
theorem od_219_232 : decode (ov_byt 219) 232 = .ok (.goto (-87), 3) := by decide +kernel
theorem od_219_159 : decode (ov_byt 219) 159 = .ok (.aload_n 0, 1) := by decide +kernel
theorem og_219_160 : ov_GF 219 160 8 41 := ⟨77, true, 911, by decide +kernel, by decide +kernel⟩
theorem od_219_163 : decode (ov_byt 219) 163 = .ok (.iconst 2, 1) := by decide +kernel
theorem od_219_164 : decode (ov_byt 219) 164 = .ok (.iconst 3, 1) := by decide +kernel
theorem od_219_165 : decode (ov_byt 219) 165 = .ok (.iload 6, 2) := by decide +kernel
theorem od_219_167 : decode (ov_byt 219) 167 = .ok (.imul, 1) := by decide +kernel
theorem od_219_168 : decode (ov_byt 219) 168 = .ok (.iload 4, 2) := by decide +kernel
theorem od_219_170 : decode (ov_byt 219) 170 = .ok (.iadd, 1) := by decide +kernel
theorem od_219_171 : decode (ov_byt 219) 171 = .ok (.imul, 1) := by decide +kernel
theorem od_219_172 : decode (ov_byt 219) 172 = .ok (.iaload, 1) := by decide +kernel
theorem od_219_173 : decode (ov_byt 219) 173 = .ok (.aload_n 0, 1) := by decide +kernel
theorem og_219_174 : ov_GF 219 174 8 41 := ⟨77, true, 911, by decide +kernel, by decide +kernel⟩
theorem od_219_177 : decode (ov_byt 219) 177 = .ok (.iconst 2, 1) := by decide +kernel
theorem od_219_178 : decode (ov_byt 219) 178 = .ok (.iconst 3, 1) := by decide +kernel
theorem od_219_179 : decode (ov_byt 219) 179 = .ok (.iload_n 3, 1) := by decide +kernel
theorem od_219_180 : decode (ov_byt 219) 180 = .ok (.imul, 1) := by decide +kernel
theorem od_219_181 : decode (ov_byt 219) 181 = .ok (.iload 4, 2) := by decide +kernel
theorem od_219_183 : decode (ov_byt 219) 183 = .ok (.iadd, 1) := by decide +kernel
theorem od_219_184 : decode (ov_byt 219) 184 = .ok (.imul, 1) := by decide +kernel
theorem od_219_185 : decode (ov_byt 219) 185 = .ok (.iaload, 1) := by decide +kernel
theorem od_219_189 : decode (ov_byt 219) 189 = .ok (.aload_n 0, 1) := by decide +kernel
theorem og_219_190 : ov_GF 219 190 8 41 := ⟨77, true, 911, by decide +kernel, by decide +kernel⟩
theorem od_219_193 : decode (ov_byt 219) 193 = .ok (.iconst 2, 1) := by decide +kernel
theorem od_219_194 : decode (ov_byt 219) 194 = .ok (.iconst 3, 1) := by decide +kernel
theorem od_219_195 : decode (ov_byt 219) 195 = .ok (.iload_n 3, 1) := by decide +kernel
theorem od_219_196 : decode (ov_byt 219) 196 = .ok (.imul, 1) := by decide +kernel
theorem od_219_197 : decode (ov_byt 219) 197 = .ok (.iload 6, 2) := by decide +kernel
theorem od_219_199 : decode (ov_byt 219) 199 = .ok (.iadd, 1) := by decide +kernel
theorem od_219_200 : decode (ov_byt 219) 200 = .ok (.imul, 1) := by decide +kernel
theorem od_219_201 : decode (ov_byt 219) 201 = .ok (.iconst 1, 1) := by decide +kernel
theorem od_219_202 : decode (ov_byt 219) 202 = .ok (.iadd, 1) := by decide +kernel
theorem od_219_203 : decode (ov_byt 219) 203 = .ok (.iaload, 1) := by decide +kernel
theorem od_219_204 : decode (ov_byt 219) 204 = .ok (.aload_n 0, 1) := by decide +kernel
theorem og_219_205 : ov_GF 219 205 8 41 := ⟨77, true, 911, by decide +kernel, by decide +kernel⟩
theorem od_219_208 : decode (ov_byt 219) 208 = .ok (.iconst 2, 1) := by decide +kernel
theorem od_219_209 : decode (ov_byt 219) 209 = .ok (.iconst 3, 1) := by decide +kernel
theorem od_219_210 : decode (ov_byt 219) 210 = .ok (.iload_n 3, 1) := by decide +kernel
theorem od_219_211 : decode (ov_byt 219) 211 = .ok (.imul, 1) := by decide +kernel
theorem od_219_212 : decode (ov_byt 219) 212 = .ok (.iload 4, 2) := by decide +kernel
theorem od_219_214 : decode (ov_byt 219) 214 = .ok (.iadd, 1) := by decide +kernel
theorem od_219_215 : decode (ov_byt 219) 215 = .ok (.imul, 1) := by decide +kernel
theorem od_219_216 : decode (ov_byt 219) 216 = .ok (.iconst 1, 1) := by decide +kernel
theorem od_219_217 : decode (ov_byt 219) 217 = .ok (.iadd, 1) := by decide +kernel
theorem od_219_218 : decode (ov_byt 219) 218 = .ok (.iaload, 1) := by decide +kernel
theorem od_219_222 : decode (ov_byt 219) 222 = .ok (.iconst 1, 1) := by decide +kernel
theorem od_219_223 : decode (ov_byt 219) 223 = .ok (.goto 4, 3) := by decide +kernel
theorem od_219_219 : decode (ov_byt 219) 219 = .ok (.if_icmp .gt 7, 3) := by decide +kernel
theorem od_219_186 : decode (ov_byt 219) 186 = .ok (.if_icmp .gt 40, 3) := by decide +kernel
theorem od_219_156 : decode (ov_byt 219) 156 = .ok (.ifCond .eq 70, 3) := by decide +kernel
theorem od_219_151 : decode (ov_byt 219) 151 = .ok (.if_icmp .ge 84, 3) := by decide +kernel
theorem od_219_235 : decode (ov_byt 219) 235 = .ok (.aload_n 0, 1) := by decide +kernel
theorem od_219_236 : decode (ov_byt 219) 236 = .ok (.iload 5, 2) := by decide +kernel
theorem od_219_258 : decode (ov_byt 219) 258 = .ok (.aload_n 0, 1) := by decide +kernel
theorem og_219_259 : ov_GF 219 259 8 40 := ⟨315, false, 910, by decide +kernel, by decide +kernel⟩
theorem op_219_262 : ov_PF 219 262 8 40 := ⟨315, 910, by decide +kernel, by decide +kernel⟩
theorem od_219_265 : decode (ov_byt 219) 265 = .ok (.aload_n 0, 1) := by decide +kernel
theorem od_219_266 : decode (ov_byt 219) 266 = .ok (.dup, 1) := by decide +kernel
theorem og_219_267 : ov_GF 219 267 8 39 := ⟨312, false, 909, by decide +kernel, by decide +kernel⟩
theorem od_219_270 : decode (ov_byt 219) 270 = .ok (.iload 5, 2) := by decide +kernel
theorem od_219_279 : decode (ov_byt 219) 279 = .ok (.iconst 0, 1) := by decide +kernel
theorem od_219_280 : decode (ov_byt 219) 280 = .ok (.iadd, 1) := by decide +kernel
theorem op_219_281 : ov_PF 219 281 8 39 := ⟨312, 909, by decide +kernel, by decide +kernel⟩
theorem od_219_284 : decode (ov_byt 219) 284 = .ok (.iinc 4 1, 3) := by decide +kernel
theorem od_219_287 : decode (ov_byt 219) 287 = .ok (.goto (-157), 3) := by decide +kernel
theorem od_219_275 : decode (ov_byt 219) 275 = .ok (.iconst 1, 1) := by decide +kernel
theorem od_219_276 : decode (ov_byt 219) 276 = .ok (.goto 4, 3) := by decide +kernel
theorem od_219_272 : decode (ov_byt 219) 272 = .ok (.ifCond .eq 7, 3) := by decide +kernel
theorem od_219_241 : decode (ov_byt 219) 241 = .ok (.aload_n 0, 1) := by decide +kernel
theorem og_219_242 : ov_GF 219 242 8 39 := ⟨312, false, 909, by decide +kernel, by decide +kernel⟩
theorem od_219_248 : decode (ov_byt 219) 248 = .ok (.bipush 10, 2) := by decide +kernel
theorem od_219_250 : decode (ov_byt 219) 250 = .ok (.iload_n 3, 1) := by decide +kernel
theorem od_219_251 : decode (ov_byt 219) 251 = .ok (.imul, 1) := by decide +kernel
theorem od_219_252 : decode (ov_byt 219) 252 = .ok (.iload 4, 2) := by decide +kernel
theorem od_219_254 : decode (ov_byt 219) 254 = .ok (.iadd, 1) := by decide +kernel
theorem od_219_255 : decode (ov_byt 219) 255 = .ok (.goto 7, 3) := by decide +kernel
theorem od_219_245 : decode (ov_byt 219) 245 = .ok (.ifCond .ne 13, 3) := by decide +kernel
theorem od_219_238 : decode (ov_byt 219) 238 = .ok (.ifCond .eq 20, 3) := by decide +kernel
theorem od_219_136 : decode (ov_byt 219) 136 = .ok (.if_icmp .ge 154, 3) := by decide +kernel
theorem od_219_290 : decode (ov_byt 219) 290 = .ok (.iinc 3 1, 3) := by decide +kernel
theorem od_219_293 : decode (ov_byt 219) 293 = .ok (.goto (-174), 3) := by decide +kernel
theorem od_219_124 : decode (ov_byt 219) 124 = .ok (.if_icmp .ge 172, 3) := by decide +kernel
theorem od_219_296 : decode (ov_byt 219) 296 = .ok (.return_, 1) := by decide +kernel
theorem od_223_0 : decode (ov_byt 223) 0 = .ok (.aload_n 0, 1) := by decide +kernel
theorem od_223_1 : decode (ov_byt 223) 1 = .ok (.iconst 0, 1) := by decide +kernel
theorem op_223_2 : ov_PF 223 2 8 0 := ⟨83, 871, by decide +kernel, by decide +kernel⟩
theorem od_223_5 : decode (ov_byt 223) 5 = .ok (.iload_n 1, 1) := by decide +kernel
theorem od_223_6 : decode (ov_byt 223) 6 = .ok (.i2l, 1) := by decide +kernel
theorem od_223_7 : decode (ov_byt 223) 7 = .ok (.lconst 1, 1) := by decide +kernel
theorem ok_223_8 : ∃ w, ov_find ov_k2t (329 * 32 + ov_oc 223) = some ((30 : Int64), w) := ⟨1323, by decide +kernel⟩
theorem od_223_8 : decode (ov_byt 223) 8 = .ok (.ldc2_w 329, 3) := by decide +kernel
theorem oc_223_11 : ov_CL 223 11 0 144 := ⟨90, (1006, 1007, 0), (by show decode (ov_byt 223) 11 = Except.ok (Instr.invokestatic 90, 3); decide +kernel), by decide +kernel⟩
theorem od_223_20 : decode (ov_byt 223) 20 = .ok (.aload_n 0, 1) := by decide +kernel
theorem og_223_21 : ov_GF 223 21 8 23 := ⟨46, true, 894, by decide +kernel, by decide +kernel⟩
theorem od_223_24 : decode (ov_byt 223) 24 = .ok (.aload_n 0, 1) := by decide +kernel
theorem og_223_25 : ov_GF 223 25 8 24 := ⟨49, true, 895, by decide +kernel, by decide +kernel⟩
theorem od_223_28 : decode (ov_byt 223) 28 = .ok (.bipush 12, 2) := by decide +kernel
theorem oc_223_30 : ov_CL 223 30 0 158 := ⟨160, (1061, 1062, 0), (by show decode (ov_byt 223) 30 = Except.ok (Instr.invokestatic 160, 3); decide +kernel), by decide +kernel⟩
theorem od_223_33 : decode (ov_byt 223) 33 = .ok (.iconst 0, 1) := by decide +kernel
theorem od_223_34 : decode (ov_byt 223) 34 = .ok (.istore_n 2, 1) := by decide +kernel
theorem od_223_35 : decode (ov_byt 223) 35 = .ok (.iconst 0, 1) := by decide +kernel
theorem od_223_36 : decode (ov_byt 223) 36 = .ok (.istore_n 3, 1) := by decide +kernel
theorem od_223_37 : decode (ov_byt 223) 37 = .ok (.iload_n 3, 1) := by decide +kernel
theorem od_223_38 : decode (ov_byt 223) 38 = .ok (.iload_n 1, 1) := by decide +kernel
theorem od_223_42 : decode (ov_byt 223) 42 = .ok (.aload_n 0, 1) := by decide +kernel
theorem od_223_43 : decode (ov_byt 223) 43 = .ok (.aload_n 0, 1) := by decide +kernel
theorem og_223_44 : ov_GF 223 44 8 33 := ⟨325, false, 904, by decide +kernel, by decide +kernel⟩
theorem ok_223_47 : ∃ w, ov_find ov_k2t (331 * 32 + ov_oc 223) = some ((6364136223846793005 : Int64), w) := ⟨1324, by decide +kernel⟩
theorem od_223_47 : decode (ov_byt 223) 47 = .ok (.ldc2_w 331, 3) := by decide +kernel
theorem od_223_50 : decode (ov_byt 223) 50 = .ok (.lmul, 1) := by decide +kernel
theorem ok_223_51 : ∃ w, ov_find ov_k2t (333 * 32 + ov_oc 223) = some ((1442695040888963407 : Int64), w) := ⟨1325, by decide +kernel⟩
theorem od_223_51 : decode (ov_byt 223) 51 = .ok (.ldc2_w 333, 3) := by decide +kernel
theorem od_223_54 : decode (ov_byt 223) 54 = .ok (.ladd, 1) := by decide +kernel
theorem op_223_55 : ov_PF 223 55 8 33 := ⟨325, 904, by decide +kernel, by decide +kernel⟩
theorem od_223_58 : decode (ov_byt 223) 58 = .ok (.aload_n 0, 1) := by decide +kernel
theorem og_223_59 : ov_GF 223 59 8 33 := ⟨325, false, 904, by decide +kernel, by decide +kernel⟩
theorem od_223_62 : decode (ov_byt 223) 62 = .ok (.bipush 33, 2) := by decide +kernel
theorem od_223_64 : decode (ov_byt 223) 64 = .ok (.lushr, 1) := by decide +kernel
theorem ok_223_65 : ∃ w, ov_find ov_k2t (335 * 32 + ov_oc 223) = some ((42 : Int64), w) := ⟨1326, by decide +kernel⟩
theorem od_223_65 : decode (ov_byt 223) 65 = .ok (.ldc2_w 335, 3) := by decide +kernel
theorem od_223_68 : decode (ov_byt 223) 68 = .ok (.lrem, 1) := by decide +kernel
theorem od_223_69 : decode (ov_byt 223) 69 = .ok (.l2i, 1) := by decide +kernel
theorem od_223_70 : decode (ov_byt 223) 70 = .ok (.istore 4, 2) := by decide +kernel
theorem od_223_72 : decode (ov_byt 223) 72 = .ok (.aload_n 0, 1) := by decide +kernel
theorem od_223_73 : decode (ov_byt 223) 73 = .ok (.iload 4, 2) := by decide +kernel
theorem od_223_75 : decode (ov_byt 223) 75 = .ok (.bipush 24, 2) := by decide +kernel
theorem od_223_99 : decode (ov_byt 223) 99 = .ok (.bipush 100, 2) := by decide +kernel
theorem od_223_101 : decode (ov_byt 223) 101 = .ok (.bipush 10, 2) := by decide +kernel
theorem od_223_103 : decode (ov_byt 223) 103 = .ok (.iload 4, 2) := by decide +kernel
theorem od_223_105 : decode (ov_byt 223) 105 = .ok (.bipush 24, 2) := by decide +kernel
theorem od_223_107 : decode (ov_byt 223) 107 = .ok (.isub, 1) := by decide +kernel
theorem od_223_108 : decode (ov_byt 223) 108 = .ok (.iconst 3, 1) := by decide +kernel
theorem od_223_109 : decode (ov_byt 223) 109 = .ok (.idiv, 1) := by decide +kernel
theorem od_223_110 : decode (ov_byt 223) 110 = .ok (.imul, 1) := by decide +kernel
theorem od_223_111 : decode (ov_byt 223) 111 = .ok (.iadd, 1) := by decide +kernel
theorem od_223_112 : decode (ov_byt 223) 112 = .ok (.iload 4, 2) := by decide +kernel
theorem od_223_114 : decode (ov_byt 223) 114 = .ok (.iconst 3, 1) := by decide +kernel
theorem od_223_115 : decode (ov_byt 223) 115 = .ok (.irem, 1) := by decide +kernel
theorem od_223_116 : decode (ov_byt 223) 116 = .ok (.iadd, 1) := by decide +kernel
theorem oc_223_117 : ov_CL 223 117 1 210 := ⟨294, (1267, 1269, 52), (by show decode (ov_byt 223) 117 = Except.ok (Instr.invokevirtual 294, 3); decide +kernel), by decide +kernel⟩
theorem od_223_120 : decode (ov_byt 223) 120 = .ok (.pop, 1) := by decide +kernel
theorem od_223_121 : decode (ov_byt 223) 121 = .ok (.iload_n 2, 1) := by decide +kernel
theorem od_223_122 : decode (ov_byt 223) 122 = .ok (.aload_n 0, 1) := by decide +kernel
theorem od_223_123 : decode (ov_byt 223) 123 = .ok (.aload_n 0, 1) := by decide +kernel
theorem og_223_124 : ov_GF 223 124 8 24 := ⟨49, true, 895, by decide +kernel, by decide +kernel⟩
theorem oc_223_127 : ov_CL 223 127 1 161 := ⟨206, (1072, 1074, 26), (by show decode (ov_byt 223) 127 = Except.ok (Instr.invokevirtual 206, 3); decide +kernel), by decide +kernel⟩
theorem oc_223_130 : ov_CL 223 130 0 191 := ⟨252, (1192, 1193, 0), (by show decode (ov_byt 223) 130 = Except.ok (Instr.invokestatic 252, 3); decide +kernel), by decide +kernel⟩
theorem od_223_133 : decode (ov_byt 223) 133 = .ok (.iadd, 1) := by decide +kernel
theorem od_223_134 : decode (ov_byt 223) 134 = .ok (.istore_n 2, 1) := by decide +kernel
theorem od_223_135 : decode (ov_byt 223) 135 = .ok (.iinc 3 1, 3) := by decide +kernel
theorem od_223_138 : decode (ov_byt 223) 138 = .ok (.goto (-101), 3) := by decide +kernel
theorem od_223_80 : decode (ov_byt 223) 80 = .ok (.sipush 200, 3) := by decide +kernel
theorem od_223_83 : decode (ov_byt 223) 83 = .ok (.bipush 10, 2) := by decide +kernel
theorem od_223_85 : decode (ov_byt 223) 85 = .ok (.iload 4, 2) := by decide +kernel
theorem od_223_87 : decode (ov_byt 223) 87 = .ok (.iconst 4, 1) := by decide +kernel
theorem od_223_88 : decode (ov_byt 223) 88 = .ok (.idiv, 1) := by decide +kernel
theorem od_223_89 : decode (ov_byt 223) 89 = .ok (.imul, 1) := by decide +kernel
theorem od_223_90 : decode (ov_byt 223) 90 = .ok (.iadd, 1) := by decide +kernel
theorem od_223_91 : decode (ov_byt 223) 91 = .ok (.iload 4, 2) := by decide +kernel
theorem od_223_93 : decode (ov_byt 223) 93 = .ok (.iconst 4, 1) := by decide +kernel
theorem od_223_94 : decode (ov_byt 223) 94 = .ok (.irem, 1) := by decide +kernel
theorem od_223_95 : decode (ov_byt 223) 95 = .ok (.iadd, 1) := by decide +kernel
theorem od_223_96 : decode (ov_byt 223) 96 = .ok (.goto 21, 3) := by decide +kernel
theorem od_223_77 : decode (ov_byt 223) 77 = .ok (.if_icmp .ge 22, 3) := by decide +kernel
theorem od_223_39 : decode (ov_byt 223) 39 = .ok (.if_icmp .ge 102, 3) := by decide +kernel
theorem od_223_141 : decode (ov_byt 223) 141 = .ok (.iload_n 2, 1) := by decide +kernel
theorem od_223_142 : decode (ov_byt 223) 142 = .ok (.ireturn, 1) := by decide +kernel
theorem od_223_17 : decode (ov_byt 223) 17 = .ok (.bipush (-2), 2) := by decide +kernel
theorem od_223_19 : decode (ov_byt 223) 19 = .ok (.ireturn, 1) := by decide +kernel
theorem od_223_14 : decode (ov_byt 223) 14 = .ok (.ifCond .ne 6, 3) := by decide +kernel
theorem od_95_0 : decode (ov_byt 95) 0 = .ok (.aload_n 0, 1) := by decide +kernel
theorem og_95_1 : ov_GF 95 1 0 1 := ⟨19, true, 263, by decide +kernel, by decide +kernel⟩
theorem od_95_4 : decode (ov_byt 95) 4 = .ok (.iload_n 1, 1) := by decide +kernel
theorem oc_95_5 : ov_CL 95 5 1 29 := ⟨148, (508, 368, 369), (by show decode (ov_byt 95) 5 = Except.ok (Instr.invokevirtual 148, 3); decide +kernel), by decide +kernel⟩
theorem od_95_13 : decode (ov_byt 95) 13 = .ok (.iload_n 2, 1) := by decide +kernel
theorem od_95_22 : decode (ov_byt 95) 22 = .ok (.bipush (-2), 2) := by decide +kernel
theorem od_95_24 : decode (ov_byt 95) 24 = .ok (.ireturn, 1) := by decide +kernel
theorem od_95_17 : decode (ov_byt 95) 17 = .ok (.iload_n 2, 1) := by decide +kernel
theorem od_95_18 : decode (ov_byt 95) 18 = .ok (.iconst 1, 1) := by decide +kernel
theorem od_95_25 : decode (ov_byt 95) 25 = .ok (.aload_n 0, 1) := by decide +kernel
theorem og_95_26 : ov_GF 95 26 0 3 := ⟨31, true, 265, by decide +kernel, by decide +kernel⟩
theorem od_95_29 : decode (ov_byt 95) 29 = .ok (.iload_n 1, 1) := by decide +kernel
theorem oc_95_30 : ov_CL 95 30 1 34 := ⟨229, (652, 389, 390), (by show decode (ov_byt 95) 30 = Except.ok (Instr.invokevirtual 229, 3); decide +kernel), by decide +kernel⟩
theorem od_95_39 : decode (ov_byt 95) 39 = .ok (.aload_n 0, 1) := by decide +kernel
theorem od_95_40 : decode (ov_byt 95) 40 = .ok (.iload_n 1, 1) := by decide +kernel
theorem oc_95_41 : ov_CL 95 41 1 96 := ⟨236, (660, 662, 11), (by show decode (ov_byt 95) 41 = Except.ok (Instr.invokevirtual 236, 3); decide +kernel), by decide +kernel⟩
theorem od_95_44 : decode (ov_byt 95) 44 = .ok (.istore_n 3, 1) := by decide +kernel
theorem od_95_45 : decode (ov_byt 95) 45 = .ok (.iload_n 2, 1) := by decide +kernel
theorem od_95_53 : decode (ov_byt 95) 53 = .ok (.aload_n 0, 1) := by decide +kernel
theorem od_95_54 : decode (ov_byt 95) 54 = .ok (.iload_n 1, 1) := by decide +kernel
theorem od_95_55 : decode (ov_byt 95) 55 = .ok (.iload_n 3, 1) := by decide +kernel
theorem oc_95_56 : ov_CL 95 56 1 98 := ⟨239, (670, 672, 12), (by show decode (ov_byt 95) 56 = Except.ok (Instr.invokevirtual 239, 3); decide +kernel), by decide +kernel⟩
theorem od_95_59 : decode (ov_byt 95) 59 = .ok (.ireturn, 1) := by decide +kernel
theorem od_95_49 : decode (ov_byt 95) 49 = .ok (.iload_n 3, 1) := by decide +kernel
theorem od_95_50 : decode (ov_byt 95) 50 = .ok (.goto 9, 3) := by decide +kernel
theorem od_95_46 : decode (ov_byt 95) 46 = .ok (.ifCond .ne 7, 3) := by decide +kernel
theorem od_95_36 : decode (ov_byt 95) 36 = .ok (.bipush (-3), 2) := by decide +kernel
theorem od_95_38 : decode (ov_byt 95) 38 = .ok (.ireturn, 1) := by decide +kernel
theorem od_95_33 : decode (ov_byt 95) 33 = .ok (.ifCond .ne 6, 3) := by decide +kernel
theorem od_95_19 : decode (ov_byt 95) 19 = .ok (.if_icmp .le 6, 3) := by decide +kernel
theorem od_95_14 : decode (ov_byt 95) 14 = .ok (.ifCond .lt 8, 3) := by decide +kernel
theorem od_95_11 : decode (ov_byt 95) 11 = .ok (.iconst (-1), 1) := by decide +kernel
theorem od_95_12 : decode (ov_byt 95) 12 = .ok (.ireturn, 1) := by decide +kernel
theorem od_95_8 : decode (ov_byt 95) 8 = .ok (.ifCond .ne 5, 3) := by decide +kernel
theorem od_114_0 : decode (ov_byt 114) 0 = .ok (.iload_n 1, 1) := by decide +kernel
theorem od_114_1 : decode (ov_byt 114) 1 = .ok (.iconst 1, 1) := by decide +kernel
theorem od_114_28 : decode (ov_byt 114) 28 = .ok (.bipush (-2), 2) := by decide +kernel
theorem od_114_30 : decode (ov_byt 114) 30 = .ok (.ireturn, 1) := by decide +kernel
theorem od_114_5 : decode (ov_byt 114) 5 = .ok (.iload_n 1, 1) := by decide +kernel
theorem od_114_6 : decode (ov_byt 114) 6 = .ok (.iconst 4, 1) := by decide +kernel
theorem od_114_10 : decode (ov_byt 114) 10 = .ok (.lload_n 2, 1) := by decide +kernel
theorem od_114_11 : decode (ov_byt 114) 11 = .ok (.lconst 0, 1) := by decide +kernel
theorem od_114_12 : decode (ov_byt 114) 12 = .ok (.lcmp, 1) := by decide +kernel
theorem od_114_16 : decode (ov_byt 114) 16 = .ok (.lload_n 2, 1) := by decide +kernel
theorem od_114_17 : decode (ov_byt 114) 17 = .ok (.sipush 1000, 3) := by decide +kernel
theorem od_114_20 : decode (ov_byt 114) 20 = .ok (.iload_n 1, 1) := by decide +kernel
theorem oc_114_21 : ov_CL 114 21 0 115 := ⟨280, (750, 751, 0), (by show decode (ov_byt 114) 21 = Except.ok (Instr.invokestatic 280, 3); decide +kernel), by decide +kernel⟩
theorem od_114_24 : decode (ov_byt 114) 24 = .ok (.lcmp, 1) := by decide +kernel
theorem od_114_31 : decode (ov_byt 114) 31 = .ok (.aload_n 0, 1) := by decide +kernel
theorem og_114_32 : ov_GF 114 32 0 4 := ⟨35, true, 266, by decide +kernel, by decide +kernel⟩
theorem od_114_35 : decode (ov_byt 114) 35 = .ok (.aload_n 0, 1) := by decide +kernel
theorem og_114_36 : ov_GF 114 36 0 3 := ⟨31, true, 265, by decide +kernel, by decide +kernel⟩
theorem oc_114_39 : ov_CL 114 39 1 97 := ⟨242, (664, 665, 666), (by show decode (ov_byt 114) 39 = Except.ok (Instr.invokevirtual 242, 3); decide +kernel), by decide +kernel⟩
theorem od_114_42 : decode (ov_byt 114) 42 = .ok (.iconst 0, 1) := by decide +kernel
theorem od_114_43 : decode (ov_byt 114) 43 = .ok (.istore 4, 2) := by decide +kernel
theorem od_114_45 : decode (ov_byt 114) 45 = .ok (.iload 4, 2) := by decide +kernel
theorem od_114_47 : decode (ov_byt 114) 47 = .ok (.iload_n 1, 1) := by decide +kernel
theorem od_114_51 : decode (ov_byt 114) 51 = .ok (.lload_n 2, 1) := by decide +kernel
theorem od_114_52 : decode (ov_byt 114) 52 = .ok (.iload_n 1, 1) := by decide +kernel
theorem od_114_53 : decode (ov_byt 114) 53 = .ok (.iconst 1, 1) := by decide +kernel
theorem od_114_54 : decode (ov_byt 114) 54 = .ok (.isub, 1) := by decide +kernel
theorem od_114_55 : decode (ov_byt 114) 55 = .ok (.iload 4, 2) := by decide +kernel
theorem od_114_57 : decode (ov_byt 114) 57 = .ok (.isub, 1) := by decide +kernel
theorem oc_114_58 : ov_CL 114 58 0 116 := ⟨286, (753, 754, 0), (by show decode (ov_byt 114) 58 = Except.ok (Instr.invokestatic 286, 3); decide +kernel), by decide +kernel⟩
theorem od_114_61 : decode (ov_byt 114) 61 = .ok (.istore 5, 2) := by decide +kernel
theorem od_114_63 : decode (ov_byt 114) 63 = .ok (.aload_n 0, 1) := by decide +kernel
theorem og_114_64 : ov_GF 114 64 0 4 := ⟨35, true, 266, by decide +kernel, by decide +kernel⟩
theorem od_114_67 : decode (ov_byt 114) 67 = .ok (.iload 5, 2) := by decide +kernel
theorem od_114_69 : decode (ov_byt 114) 69 = .ok (.bipush 100, 2) := by decide +kernel
theorem od_114_71 : decode (ov_byt 114) 71 = .ok (.idiv, 1) := by decide +kernel
theorem od_114_72 : decode (ov_byt 114) 72 = .ok (.iload 5, 2) := by decide +kernel
theorem od_114_74 : decode (ov_byt 114) 74 = .ok (.bipush 10, 2) := by decide +kernel
theorem od_114_76 : decode (ov_byt 114) 76 = .ok (.idiv, 1) := by decide +kernel
theorem od_114_77 : decode (ov_byt 114) 77 = .ok (.bipush 10, 2) := by decide +kernel
theorem od_114_79 : decode (ov_byt 114) 79 = .ok (.irem, 1) := by decide +kernel
theorem od_114_80 : decode (ov_byt 114) 80 = .ok (.iload 5, 2) := by decide +kernel
theorem od_114_82 : decode (ov_byt 114) 82 = .ok (.bipush 10, 2) := by decide +kernel
theorem od_114_84 : decode (ov_byt 114) 84 = .ok (.irem, 1) := by decide +kernel
theorem oc_114_85 : ov_CL 114 85 1 117 := ⟨290, (757, 758, 759), (by show decode (ov_byt 114) 85 = Except.ok (Instr.invokevirtual 290, 3); decide +kernel), by decide +kernel⟩
theorem od_114_94 : decode (ov_byt 114) 94 = .ok (.iinc 4 1, 3) := by decide +kernel
theorem od_114_97 : decode (ov_byt 114) 97 = .ok (.goto (-52), 3) := by decide +kernel
theorem od_114_91 : decode (ov_byt 114) 91 = .ok (.iload 4, 2) := by decide +kernel
theorem od_114_93 : decode (ov_byt 114) 93 = .ok (.ireturn, 1) := by decide +kernel
theorem od_114_88 : decode (ov_byt 114) 88 = .ok (.ifCond .ne 6, 3) := by decide +kernel
theorem od_114_48 : decode (ov_byt 114) 48 = .ok (.if_icmp .ge 52, 3) := by decide +kernel
theorem od_114_100 : decode (ov_byt 114) 100 = .ok (.bipush (-9), 2) := by decide +kernel
theorem od_114_102 : decode (ov_byt 114) 102 = .ok (.ireturn, 1) := by decide +kernel
theorem od_114_25 : decode (ov_byt 114) 25 = .ok (.ifCond .lt 6, 3) := by decide +kernel
theorem od_114_13 : decode (ov_byt 114) 13 = .ok (.ifCond .lt 15, 3) := by decide +kernel
theorem od_114_7 : decode (ov_byt 114) 7 = .ok (.if_icmp .gt 21, 3) := by decide +kernel
theorem od_114_2 : decode (ov_byt 114) 2 = .ok (.if_icmp .lt 26, 3) := by decide +kernel
theorem od_130_0 : decode (ov_byt 130) 0 = .ok (.aload_n 0, 1) := by decide +kernel
theorem og_130_1 : ov_GF 130 1 7 0 := ⟨18, true, 239, by decide +kernel, by decide +kernel⟩
theorem og_130_4 : ov_GF 130 4 2 0 := ⟨36, false, 100, by decide +kernel, by decide +kernel⟩
theorem od_130_7 : decode (ov_byt 130) 7 = .ok (.istore_n 3, 1) := by decide +kernel
theorem od_130_8 : decode (ov_byt 130) 8 = .ok (.iconst 0, 1) := by decide +kernel
theorem od_130_9 : decode (ov_byt 130) 9 = .ok (.istore 4, 2) := by decide +kernel
theorem od_130_11 : decode (ov_byt 130) 11 = .ok (.iload 4, 2) := by decide +kernel
theorem od_130_13 : decode (ov_byt 130) 13 = .ok (.iload_n 3, 1) := by decide +kernel
theorem od_130_17 : decode (ov_byt 130) 17 = .ok (.iconst 0, 1) := by decide +kernel
theorem od_130_18 : decode (ov_byt 130) 18 = .ok (.istore 5, 2) := by decide +kernel
theorem od_130_20 : decode (ov_byt 130) 20 = .ok (.iload 5, 2) := by decide +kernel
theorem od_130_22 : decode (ov_byt 130) 22 = .ok (.iload_n 3, 1) := by decide +kernel
theorem od_130_26 : decode (ov_byt 130) 26 = .ok (.aload_n 0, 1) := by decide +kernel
theorem od_130_27 : decode (ov_byt 130) 27 = .ok (.iload_n 1, 1) := by decide +kernel
theorem od_130_28 : decode (ov_byt 130) 28 = .ok (.iload_n 2, 1) := by decide +kernel
theorem od_130_29 : decode (ov_byt 130) 29 = .ok (.iload 4, 2) := by decide +kernel
theorem od_130_31 : decode (ov_byt 130) 31 = .ok (.iload 5, 2) := by decide +kernel
theorem oc_130_33 : ov_CL 130 33 1 131 := ⟨41, (816, 818, 14), (by show decode (ov_byt 130) 33 = Except.ok (Instr.invokevirtual 41, 3); decide +kernel), by decide +kernel⟩
theorem od_130_36 : decode (ov_byt 130) 36 = .ok (.iinc 5 1, 3) := by decide +kernel
theorem od_130_39 : decode (ov_byt 130) 39 = .ok (.goto (-19), 3) := by decide +kernel
theorem od_130_23 : decode (ov_byt 130) 23 = .ok (.if_icmp .ge 19, 3) := by decide +kernel
theorem od_130_42 : decode (ov_byt 130) 42 = .ok (.iinc 4 1, 3) := by decide +kernel
theorem od_130_45 : decode (ov_byt 130) 45 = .ok (.goto (-34), 3) := by decide +kernel
theorem od_130_14 : decode (ov_byt 130) 14 = .ok (.if_icmp .ge 34, 3) := by decide +kernel
theorem od_130_48 : decode (ov_byt 130) 48 = .ok (.aload_n 0, 1) := by decide +kernel
theorem od_130_49 : decode (ov_byt 130) 49 = .ok (.iconst 0, 1) := by decide +kernel
theorem op_130_50 : ov_PF 130 50 7 5 := ⟨29, 244, by decide +kernel, by decide +kernel⟩
theorem od_130_53 : decode (ov_byt 130) 53 = .ok (.aload_n 0, 1) := by decide +kernel
theorem od_130_54 : decode (ov_byt 130) 54 = .ok (.bipush (-9), 2) := by decide +kernel
theorem op_130_56 : ov_PF 130 56 7 6 := ⟨33, 245, by decide +kernel, by decide +kernel⟩
theorem od_130_59 : decode (ov_byt 130) 59 = .ok (.iconst 0, 1) := by decide +kernel
theorem od_130_60 : decode (ov_byt 130) 60 = .ok (.istore 4, 2) := by decide +kernel
theorem od_130_62 : decode (ov_byt 130) 62 = .ok (.iload 4, 2) := by decide +kernel
theorem od_130_64 : decode (ov_byt 130) 64 = .ok (.iload_n 3, 1) := by decide +kernel
theorem od_130_68 : decode (ov_byt 130) 68 = .ok (.iconst 0, 1) := by decide +kernel
theorem od_130_69 : decode (ov_byt 130) 69 = .ok (.istore 5, 2) := by decide +kernel
theorem od_130_71 : decode (ov_byt 130) 71 = .ok (.iload 5, 2) := by decide +kernel
theorem od_130_73 : decode (ov_byt 130) 73 = .ok (.iload_n 3, 1) := by decide +kernel
theorem od_130_77 : decode (ov_byt 130) 77 = .ok (.aload_n 0, 1) := by decide +kernel
theorem od_130_78 : decode (ov_byt 130) 78 = .ok (.iload 4, 2) := by decide +kernel
theorem od_130_80 : decode (ov_byt 130) 80 = .ok (.iload 5, 2) := by decide +kernel
theorem oc_130_82 : ov_CL 130 82 1 133 := ⟨45, (827, 829, 15), (by show decode (ov_byt 130) 82 = Except.ok (Instr.invokevirtual 45, 3); decide +kernel), by decide +kernel⟩
theorem od_130_124 : decode (ov_byt 130) 124 = .ok (.iinc 5 1, 3) := by decide +kernel
theorem od_130_127 : decode (ov_byt 130) 127 = .ok (.goto (-56), 3) := by decide +kernel
theorem od_130_88 : decode (ov_byt 130) 88 = .ok (.aload_n 0, 1) := by decide +kernel
theorem od_130_89 : decode (ov_byt 130) 89 = .ok (.aload_n 0, 1) := by decide +kernel
theorem og_130_90 : ov_GF 130 90 7 5 := ⟨29, false, 244, by decide +kernel, by decide +kernel⟩
theorem od_130_107 : decode (ov_byt 130) 107 = .ok (.aload_n 0, 1) := by decide +kernel
theorem og_130_108 : ov_GF 130 108 7 6 := ⟨33, false, 245, by decide +kernel, by decide +kernel⟩
theorem op_130_111 : ov_PF 130 111 7 6 := ⟨33, 245, by decide +kernel, by decide +kernel⟩
theorem od_130_114 : decode (ov_byt 130) 114 = .ok (.aload_n 0, 1) := by decide +kernel
theorem od_130_115 : decode (ov_byt 130) 115 = .ok (.dup, 1) := by decide +kernel
theorem og_130_116 : ov_GF 130 116 7 5 := ⟨29, false, 244, by decide +kernel, by decide +kernel⟩
theorem od_130_119 : decode (ov_byt 130) 119 = .ok (.iconst 1, 1) := by decide +kernel
theorem od_130_120 : decode (ov_byt 130) 120 = .ok (.iadd, 1) := by decide +kernel
theorem op_130_121 : ov_PF 130 121 7 5 := ⟨29, 244, by decide +kernel, by decide +kernel⟩
theorem od_130_96 : decode (ov_byt 130) 96 = .ok (.bipush 10, 2) := by decide +kernel
theorem od_130_98 : decode (ov_byt 130) 98 = .ok (.iload 4, 2) := by decide +kernel
theorem od_130_100 : decode (ov_byt 130) 100 = .ok (.imul, 1) := by decide +kernel
theorem od_130_101 : decode (ov_byt 130) 101 = .ok (.iload 5, 2) := by decide +kernel
theorem od_130_103 : decode (ov_byt 130) 103 = .ok (.iadd, 1) := by decide +kernel
theorem od_130_104 : decode (ov_byt 130) 104 = .ok (.goto 7, 3) := by decide +kernel
theorem od_130_93 : decode (ov_byt 130) 93 = .ok (.ifCond .ne 14, 3) := by decide +kernel
theorem od_130_85 : decode (ov_byt 130) 85 = .ok (.ifCond .eq 39, 3) := by decide +kernel
theorem od_130_74 : decode (ov_byt 130) 74 = .ok (.if_icmp .ge 56, 3) := by decide +kernel
theorem od_130_130 : decode (ov_byt 130) 130 = .ok (.iinc 4 1, 3) := by decide +kernel
theorem od_130_133 : decode (ov_byt 130) 133 = .ok (.goto (-71), 3) := by decide +kernel
theorem od_130_65 : decode (ov_byt 130) 65 = .ok (.if_icmp .ge 71, 3) := by decide +kernel
theorem od_130_136 : decode (ov_byt 130) 136 = .ok (.return_, 1) := by decide +kernel
theorem od_197_0 : decode (ov_byt 197) 0 = .ok (.aload_n 0, 1) := by decide +kernel
theorem od_197_1 : decode (ov_byt 197) 1 = .ok (.iconst 0, 1) := by decide +kernel
theorem op_197_2 : ov_PF 197 2 8 0 := ⟨83, 871, by decide +kernel, by decide +kernel⟩
theorem od_197_5 : decode (ov_byt 197) 5 = .ok (.aload_n 0, 1) := by decide +kernel
theorem od_197_6 : decode (ov_byt 197) 6 = .ok (.iload_n 1, 1) := by decide +kernel
theorem oc_197_7 : ov_CL 197 7 1 175 := ⟨223, (1127, 1129, 35), (by show decode (ov_byt 197) 7 = Except.ok (Instr.invokevirtual 223, 3); decide +kernel), by decide +kernel⟩
theorem od_197_15 : decode (ov_byt 197) 15 = .ok (.iload_n 2, 1) := by decide +kernel
theorem od_197_16 : decode (ov_byt 197) 16 = .ok (.i2l, 1) := by decide +kernel
theorem od_197_17 : decode (ov_byt 197) 17 = .ok (.lconst 0, 1) := by decide +kernel
theorem od_197_18 : decode (ov_byt 197) 18 = .ok (.lconst 1, 1) := by decide +kernel
theorem oc_197_19 : ov_CL 197 19 0 144 := ⟨90, (1006, 1007, 0), (by show decode (ov_byt 197) 19 = Except.ok (Instr.invokestatic 90, 3); decide +kernel), by decide +kernel⟩
theorem od_197_28 : decode (ov_byt 197) 28 = .ok (.aload_n 0, 1) := by decide +kernel
theorem og_197_29 : ov_GF 197 29 8 23 := ⟨46, true, 894, by decide +kernel, by decide +kernel⟩
theorem od_197_32 : decode (ov_byt 197) 32 = .ok (.iconst 0, 1) := by decide +kernel
theorem od_197_33 : decode (ov_byt 197) 33 = .ok (.iload_n 1, 1) := by decide +kernel
theorem od_197_34 : decode (ov_byt 197) 34 = .ok (.iadd, 1) := by decide +kernel
theorem od_197_35 : decode (ov_byt 197) 35 = .ok (.iaload, 1) := by decide +kernel
theorem od_197_36 : decode (ov_byt 197) 36 = .ok (.bipush (-9), 2) := by decide +kernel
theorem od_197_44 : decode (ov_byt 197) 44 = .ok (.aload_n 0, 1) := by decide +kernel
theorem od_197_45 : decode (ov_byt 197) 45 = .ok (.iload_n 1, 1) := by decide +kernel
theorem oc_197_46 : ov_CL 197 46 1 198 := ⟨270, (1218, 1220, 46), (by show decode (ov_byt 197) 46 = Except.ok (Instr.invokevirtual 270, 3); decide +kernel), by decide +kernel⟩
theorem od_197_49 : decode (ov_byt 197) 49 = .ok (.iload_n 2, 1) := by decide +kernel
theorem od_197_60 : decode (ov_byt 197) 60 = .ok (.aload_n 0, 1) := by decide +kernel
theorem og_197_61 : ov_GF 197 61 8 37 := ⟨264, false, 907, by decide +kernel, by decide +kernel⟩
theorem od_197_64 : decode (ov_byt 197) 64 = .ok (.ireturn, 1) := by decide +kernel
theorem od_197_53 : decode (ov_byt 197) 53 = .ok (.aload_n 0, 1) := by decide +kernel
theorem og_197_54 : ov_GF 197 54 8 36 := ⟨261, false, 906, by decide +kernel, by decide +kernel⟩
theorem od_197_57 : decode (ov_byt 197) 57 = .ok (.goto 7, 3) := by decide +kernel
theorem od_197_50 : decode (ov_byt 197) 50 = .ok (.ifCond .ne 10, 3) := by decide +kernel
theorem od_197_41 : decode (ov_byt 197) 41 = .ok (.bipush (-3), 2) := by decide +kernel
theorem od_197_43 : decode (ov_byt 197) 43 = .ok (.ireturn, 1) := by decide +kernel
theorem od_197_38 : decode (ov_byt 197) 38 = .ok (.if_icmp .ne 6, 3) := by decide +kernel
theorem od_197_25 : decode (ov_byt 197) 25 = .ok (.bipush (-2), 2) := by decide +kernel
theorem od_197_27 : decode (ov_byt 197) 27 = .ok (.ireturn, 1) := by decide +kernel
theorem od_197_22 : decode (ov_byt 197) 22 = .ok (.ifCond .ne 6, 3) := by decide +kernel
theorem od_197_13 : decode (ov_byt 197) 13 = .ok (.iconst (-1), 1) := by decide +kernel
theorem od_197_14 : decode (ov_byt 197) 14 = .ok (.ireturn, 1) := by decide +kernel
theorem od_197_10 : decode (ov_byt 197) 10 = .ok (.ifCond .eq 5, 3) := by decide +kernel
theorem od_203_0 : decode (ov_byt 203) 0 = .ok (.iconst 0, 1) := by decide +kernel
theorem od_203_1 : decode (ov_byt 203) 1 = .ok (.istore_n 1, 1) := by decide +kernel
theorem od_203_2 : decode (ov_byt 203) 2 = .ok (.iconst 0, 1) := by decide +kernel
theorem od_203_3 : decode (ov_byt 203) 3 = .ok (.istore_n 2, 1) := by decide +kernel
theorem od_203_4 : decode (ov_byt 203) 4 = .ok (.iload_n 2, 1) := by decide +kernel
theorem od_203_5 : decode (ov_byt 203) 5 = .ok (.aload_n 0, 1) := by decide +kernel
theorem og_203_6 : ov_GF 203 6 8 7 := ⟨87, false, 878, by decide +kernel, by decide +kernel⟩
theorem od_203_12 : decode (ov_byt 203) 12 = .ok (.aload_n 0, 1) := by decide +kernel
theorem og_203_13 : ov_GF 203 13 8 23 := ⟨46, true, 894, by decide +kernel, by decide +kernel⟩
theorem od_203_16 : decode (ov_byt 203) 16 = .ok (.iconst 0, 1) := by decide +kernel
theorem od_203_17 : decode (ov_byt 203) 17 = .ok (.iload_n 2, 1) := by decide +kernel
theorem od_203_18 : decode (ov_byt 203) 18 = .ok (.iadd, 1) := by decide +kernel
theorem od_203_19 : decode (ov_byt 203) 19 = .ok (.iaload, 1) := by decide +kernel
theorem od_203_20 : decode (ov_byt 203) 20 = .ok (.bipush (-9), 2) := by decide +kernel
theorem od_203_35 : decode (ov_byt 203) 35 = .ok (.iinc 2 1, 3) := by decide +kernel
theorem od_203_38 : decode (ov_byt 203) 38 = .ok (.goto (-34), 3) := by decide +kernel
theorem od_203_25 : decode (ov_byt 203) 25 = .ok (.aload_n 0, 1) := by decide +kernel
theorem og_203_26 : ov_GF 203 26 8 38 := ⟨74, true, 908, by decide +kernel, by decide +kernel⟩
theorem od_203_29 : decode (ov_byt 203) 29 = .ok (.iload_n 1, 1) := by decide +kernel
theorem od_203_30 : decode (ov_byt 203) 30 = .ok (.iload_n 2, 1) := by decide +kernel
theorem od_203_31 : decode (ov_byt 203) 31 = .ok (.iastore, 1) := by decide +kernel
theorem od_203_32 : decode (ov_byt 203) 32 = .ok (.iinc 1 1, 3) := by decide +kernel
theorem od_203_22 : decode (ov_byt 203) 22 = .ok (.if_icmp .ne 13, 3) := by decide +kernel
theorem od_203_9 : decode (ov_byt 203) 9 = .ok (.if_icmp .ge 32, 3) := by decide +kernel
theorem od_203_41 : decode (ov_byt 203) 41 = .ok (.aload_n 0, 1) := by decide +kernel
theorem od_203_42 : decode (ov_byt 203) 42 = .ok (.bipush (-9), 2) := by decide +kernel
theorem op_203_44 : ov_PF 203 44 8 37 := ⟨264, 907, by decide +kernel, by decide +kernel⟩
theorem od_203_47 : decode (ov_byt 203) 47 = .ok (.iconst 1, 1) := by decide +kernel
theorem od_203_48 : decode (ov_byt 203) 48 = .ok (.istore_n 2, 1) := by decide +kernel
theorem od_203_49 : decode (ov_byt 203) 49 = .ok (.iload_n 2, 1) := by decide +kernel
theorem od_203_53 : decode (ov_byt 203) 53 = .ok (.aload_n 0, 1) := by decide +kernel
theorem og_203_54 : ov_GF 203 54 8 23 := ⟨46, true, 894, by decide +kernel, by decide +kernel⟩
theorem od_203_57 : decode (ov_byt 203) 57 = .ok (.aload_n 0, 1) := by decide +kernel
theorem og_203_58 : ov_GF 203 58 8 24 := ⟨49, true, 895, by decide +kernel, by decide +kernel⟩
theorem od_203_61 : decode (ov_byt 203) 61 = .ok (.bipush 12, 2) := by decide +kernel
theorem oc_203_63 : ov_CL 203 63 0 158 := ⟨160, (1061, 1062, 0), (by show decode (ov_byt 203) 63 = Except.ok (Instr.invokestatic 160, 3); decide +kernel), by decide +kernel⟩
theorem od_203_66 : decode (ov_byt 203) 66 = .ok (.iconst 0, 1) := by decide +kernel
theorem od_203_67 : decode (ov_byt 203) 67 = .ok (.istore_n 3, 1) := by decide +kernel
theorem od_203_68 : decode (ov_byt 203) 68 = .ok (.iconst 0, 1) := by decide +kernel
theorem od_203_69 : decode (ov_byt 203) 69 = .ok (.istore 4, 2) := by decide +kernel
theorem od_203_71 : decode (ov_byt 203) 71 = .ok (.iload 4, 2) := by decide +kernel
theorem od_203_73 : decode (ov_byt 203) 73 = .ok (.iload_n 1, 1) := by decide +kernel
theorem od_203_77 : decode (ov_byt 203) 77 = .ok (.aload_n 0, 1) := by decide +kernel
theorem od_203_78 : decode (ov_byt 203) 78 = .ok (.aload_n 0, 1) := by decide +kernel
theorem og_203_79 : ov_GF 203 79 8 38 := ⟨74, true, 908, by decide +kernel, by decide +kernel⟩
theorem od_203_82 : decode (ov_byt 203) 82 = .ok (.iload 4, 2) := by decide +kernel
theorem od_203_84 : decode (ov_byt 203) 84 = .ok (.iaload, 1) := by decide +kernel
theorem oc_203_85 : ov_CL 203 85 1 204 := ⟨277, (1242, 1244, 50), (by show decode (ov_byt 203) 85 = Except.ok (Instr.invokevirtual 277, 3); decide +kernel), by decide +kernel⟩
theorem od_203_88 : decode (ov_byt 203) 88 = .ok (.bipush 10, 2) := by decide +kernel
theorem od_203_90 : decode (ov_byt 203) 90 = .ok (.iload_n 3, 1) := by decide +kernel
theorem od_203_91 : decode (ov_byt 203) 91 = .ok (.imul, 1) := by decide +kernel
theorem od_203_92 : decode (ov_byt 203) 92 = .ok (.aload_n 0, 1) := by decide +kernel
theorem og_203_93 : ov_GF 203 93 8 38 := ⟨74, true, 908, by decide +kernel, by decide +kernel⟩
theorem od_203_96 : decode (ov_byt 203) 96 = .ok (.iload 4, 2) := by decide +kernel
theorem od_203_98 : decode (ov_byt 203) 98 = .ok (.iaload, 1) := by decide +kernel
theorem od_203_99 : decode (ov_byt 203) 99 = .ok (.iadd, 1) := by decide +kernel
theorem od_203_100 : decode (ov_byt 203) 100 = .ok (.iconst 1, 1) := by decide +kernel
theorem od_203_101 : decode (ov_byt 203) 101 = .ok (.iadd, 1) := by decide +kernel
theorem od_203_102 : decode (ov_byt 203) 102 = .ok (.istore_n 3, 1) := by decide +kernel
theorem od_203_103 : decode (ov_byt 203) 103 = .ok (.iinc 4 1, 3) := by decide +kernel
theorem od_203_106 : decode (ov_byt 203) 106 = .ok (.goto (-35), 3) := by decide +kernel
theorem od_203_74 : decode (ov_byt 203) 74 = .ok (.if_icmp .ge 35, 3) := by decide +kernel
theorem od_203_109 : decode (ov_byt 203) 109 = .ok (.aload_n 0, 1) := by decide +kernel
theorem od_203_110 : decode (ov_byt 203) 110 = .ok (.aload_n 0, 1) := by decide +kernel
theorem og_203_111 : ov_GF 203 111 8 24 := ⟨49, true, 895, by decide +kernel, by decide +kernel⟩
theorem oc_203_114 : ov_CL 203 114 1 163 := ⟨209, (1080, 1082, 28), (by show decode (ov_byt 203) 114 = Except.ok (Instr.invokevirtual 209, 3); decide +kernel), by decide +kernel⟩
theorem oc_203_117 : ov_CL 203 117 0 191 := ⟨252, (1192, 1193, 0), (by show decode (ov_byt 203) 117 = Except.ok (Instr.invokestatic 252, 3); decide +kernel), by decide +kernel⟩
theorem od_203_120 : decode (ov_byt 203) 120 = .ok (.istore 4, 2) := by decide +kernel
theorem od_203_122 : decode (ov_byt 203) 122 = .ok (.aload_n 0, 1) := by decide +kernel
theorem od_203_123 : decode (ov_byt 203) 123 = .ok (.iload 4, 2) := by decide +kernel
theorem od_203_125 : decode (ov_byt 203) 125 = .ok (.aload_n 0, 1) := by decide +kernel
theorem og_203_126 : ov_GF 203 126 8 37 := ⟨264, false, 907, by decide +kernel, by decide +kernel⟩
theorem od_203_136 : decode (ov_byt 203) 136 = .ok (.aload_n 0, 1) := by decide +kernel
theorem og_203_137 : ov_GF 203 137 8 36 := ⟨261, false, 906, by decide +kernel, by decide +kernel⟩
theorem op_203_140 : ov_PF 203 140 8 36 := ⟨261, 906, by decide +kernel, by decide +kernel⟩
theorem od_203_143 : decode (ov_byt 203) 143 = .ok (.aload_n 0, 1) := by decide +kernel
theorem od_203_144 : decode (ov_byt 203) 144 = .ok (.iload 4, 2) := by decide +kernel
theorem od_203_146 : decode (ov_byt 203) 146 = .ok (.aload_n 0, 1) := by decide +kernel
theorem og_203_147 : ov_GF 203 147 8 37 := ⟨264, false, 907, by decide +kernel, by decide +kernel⟩
theorem od_203_158 : decode (ov_byt 203) 158 = .ok (.aload_n 0, 1) := by decide +kernel
theorem og_203_159 : ov_GF 203 159 8 37 := ⟨264, false, 907, by decide +kernel, by decide +kernel⟩
theorem op_203_162 : ov_PF 203 162 8 37 := ⟨264, 907, by decide +kernel, by decide +kernel⟩
theorem od_203_165 : decode (ov_byt 203) 165 = .ok (.aload_n 0, 1) := by decide +kernel
theorem od_203_166 : decode (ov_byt 203) 166 = .ok (.iload_n 1, 1) := by decide +kernel
theorem oc_203_167 : ov_CL 203 167 1 205 := ⟨280, (1246, 1248, 51), (by show decode (ov_byt 203) 167 = Except.ok (Instr.invokevirtual 280, 3); decide +kernel), by decide +kernel⟩
theorem od_203_170 : decode (ov_byt 203) 170 = .ok (.istore_n 2, 1) := by decide +kernel
theorem od_203_171 : decode (ov_byt 203) 171 = .ok (.goto (-122), 3) := by decide +kernel
theorem od_203_153 : decode (ov_byt 203) 153 = .ok (.iload 4, 2) := by decide +kernel
theorem od_203_155 : decode (ov_byt 203) 155 = .ok (.goto 7, 3) := by decide +kernel
theorem od_203_150 : decode (ov_byt 203) 150 = .ok (.if_icmp .le 8, 3) := by decide +kernel
theorem od_203_132 : decode (ov_byt 203) 132 = .ok (.iload_n 3, 1) := by decide +kernel
theorem od_203_133 : decode (ov_byt 203) 133 = .ok (.goto 7, 3) := by decide +kernel
theorem od_203_129 : decode (ov_byt 203) 129 = .ok (.if_icmp .le 7, 3) := by decide +kernel
theorem od_203_50 : decode (ov_byt 203) 50 = .ok (.ifCond .eq 124, 3) := by decide +kernel
theorem od_203_174 : decode (ov_byt 203) 174 = .ok (.return_, 1) := by decide +kernel
theorem od_218_0 : decode (ov_byt 218) 0 = .ok (.aload_n 0, 1) := by decide +kernel
theorem od_218_1 : decode (ov_byt 218) 1 = .ok (.iconst 0, 1) := by decide +kernel
theorem op_218_2 : ov_PF 218 2 8 0 := ⟨83, 871, by decide +kernel, by decide +kernel⟩
theorem od_218_5 : decode (ov_byt 218) 5 = .ok (.aload_n 0, 1) := by decide +kernel
theorem od_218_6 : decode (ov_byt 218) 6 = .ok (.iload_n 1, 1) := by decide +kernel
theorem oc_218_7 : ov_CL 218 7 1 175 := ⟨223, (1127, 1129, 35), (by show decode (ov_byt 218) 7 = Except.ok (Instr.invokevirtual 223, 3); decide +kernel), by decide +kernel⟩
theorem od_218_21 : decode (ov_byt 218) 21 = .ok (.iconst (-1), 1) := by decide +kernel
theorem od_218_22 : decode (ov_byt 218) 22 = .ok (.ireturn, 1) := by decide +kernel
theorem od_218_13 : decode (ov_byt 218) 13 = .ok (.aload_n 0, 1) := by decide +kernel
theorem od_218_14 : decode (ov_byt 218) 14 = .ok (.iload_n 2, 1) := by decide +kernel
theorem oc_218_15 : ov_CL 218 15 1 175 := ⟨223, (1127, 1129, 35), (by show decode (ov_byt 218) 15 = Except.ok (Instr.invokevirtual 223, 3); decide +kernel), by decide +kernel⟩
theorem od_218_23 : decode (ov_byt 218) 23 = .ok (.iload_n 1, 1) := by decide +kernel
theorem od_218_24 : decode (ov_byt 218) 24 = .ok (.iload_n 2, 1) := by decide +kernel
theorem od_218_38 : decode (ov_byt 218) 38 = .ok (.bipush (-2), 2) := by decide +kernel
theorem od_218_40 : decode (ov_byt 218) 40 = .ok (.ireturn, 1) := by decide +kernel
theorem od_218_28 : decode (ov_byt 218) 28 = .ok (.iload_n 3, 1) := by decide +kernel
theorem od_218_29 : decode (ov_byt 218) 29 = .ok (.i2l, 1) := by decide +kernel
theorem od_218_30 : decode (ov_byt 218) 30 = .ok (.lconst 0, 1) := by decide +kernel
theorem od_218_31 : decode (ov_byt 218) 31 = .ok (.lconst 1, 1) := by decide +kernel
theorem oc_218_32 : ov_CL 218 32 0 144 := ⟨90, (1006, 1007, 0), (by show decode (ov_byt 218) 32 = Except.ok (Instr.invokestatic 90, 3); decide +kernel), by decide +kernel⟩
theorem od_218_41 : decode (ov_byt 218) 41 = .ok (.aload_n 0, 1) := by decide +kernel
theorem og_218_42 : ov_GF 218 42 8 23 := ⟨46, true, 894, by decide +kernel, by decide +kernel⟩
theorem od_218_45 : decode (ov_byt 218) 45 = .ok (.iconst 0, 1) := by decide +kernel
theorem od_218_46 : decode (ov_byt 218) 46 = .ok (.iload_n 1, 1) := by decide +kernel
theorem od_218_47 : decode (ov_byt 218) 47 = .ok (.iadd, 1) := by decide +kernel
theorem od_218_48 : decode (ov_byt 218) 48 = .ok (.iaload, 1) := by decide +kernel
theorem od_218_49 : decode (ov_byt 218) 49 = .ok (.bipush (-9), 2) := by decide +kernel
theorem od_218_67 : decode (ov_byt 218) 67 = .ok (.bipush (-3), 2) := by decide +kernel
theorem od_218_69 : decode (ov_byt 218) 69 = .ok (.ireturn, 1) := by decide +kernel
theorem od_218_54 : decode (ov_byt 218) 54 = .ok (.aload_n 0, 1) := by decide +kernel
theorem og_218_55 : ov_GF 218 55 8 23 := ⟨46, true, 894, by decide +kernel, by decide +kernel⟩
theorem od_218_58 : decode (ov_byt 218) 58 = .ok (.iconst 0, 1) := by decide +kernel
theorem od_218_59 : decode (ov_byt 218) 59 = .ok (.iload_n 2, 1) := by decide +kernel
theorem od_218_60 : decode (ov_byt 218) 60 = .ok (.iadd, 1) := by decide +kernel
theorem od_218_61 : decode (ov_byt 218) 61 = .ok (.iaload, 1) := by decide +kernel
theorem od_218_62 : decode (ov_byt 218) 62 = .ok (.bipush (-9), 2) := by decide +kernel
theorem od_218_70 : decode (ov_byt 218) 70 = .ok (.aload_n 0, 1) := by decide +kernel
theorem od_218_71 : decode (ov_byt 218) 71 = .ok (.iload_n 1, 1) := by decide +kernel
theorem od_218_72 : decode (ov_byt 218) 72 = .ok (.iload_n 2, 1) := by decide +kernel
theorem oc_218_73 : ov_CL 218 73 1 219 := ⟨318, (1301, 1303, 53), (by show decode (ov_byt 218) 73 = Except.ok (Instr.invokevirtual 318, 3); decide +kernel), by decide +kernel⟩
theorem od_218_76 : decode (ov_byt 218) 76 = .ok (.iload_n 3, 1) := by decide +kernel
theorem od_218_87 : decode (ov_byt 218) 87 = .ok (.aload_n 0, 1) := by decide +kernel
theorem og_218_88 : ov_GF 218 88 8 40 := ⟨315, false, 910, by decide +kernel, by decide +kernel⟩
theorem od_218_91 : decode (ov_byt 218) 91 = .ok (.ireturn, 1) := by decide +kernel
theorem od_218_80 : decode (ov_byt 218) 80 = .ok (.aload_n 0, 1) := by decide +kernel
theorem og_218_81 : ov_GF 218 81 8 39 := ⟨312, false, 909, by decide +kernel, by decide +kernel⟩
theorem od_218_84 : decode (ov_byt 218) 84 = .ok (.goto 7, 3) := by decide +kernel
theorem od_218_77 : decode (ov_byt 218) 77 = .ok (.ifCond .ne 10, 3) := by decide +kernel
theorem od_218_64 : decode (ov_byt 218) 64 = .ok (.if_icmp .eq 6, 3) := by decide +kernel
theorem od_218_51 : decode (ov_byt 218) 51 = .ok (.if_icmp .ne 16, 3) := by decide +kernel
theorem od_218_35 : decode (ov_byt 218) 35 = .ok (.ifCond .ne 6, 3) := by decide +kernel
theorem od_218_25 : decode (ov_byt 218) 25 = .ok (.if_icmp .eq 13, 3) := by decide +kernel
theorem od_218_18 : decode (ov_byt 218) 18 = .ok (.ifCond .eq 5, 3) := by decide +kernel
theorem od_218_10 : decode (ov_byt 218) 10 = .ok (.ifCond .ne 11, 3) := by decide +kernel
theorem od_129_0 : decode (ov_byt 129) 0 = .ok (.aload_n 0, 1) := by decide +kernel
theorem og_129_1 : ov_GF 129 1 0 1 := ⟨19, true, 263, by decide +kernel, by decide +kernel⟩
theorem od_129_4 : decode (ov_byt 129) 4 = .ok (.iload_n 1, 1) := by decide +kernel
theorem oc_129_5 : ov_CL 129 5 1 29 := ⟨148, (508, 368, 369), (by show decode (ov_byt 129) 5 = Except.ok (Instr.invokevirtual 148, 3); decide +kernel), by decide +kernel⟩
theorem od_129_22 : decode (ov_byt 129) 22 = .ok (.iconst (-1), 1) := by decide +kernel
theorem od_129_23 : decode (ov_byt 129) 23 = .ok (.ireturn, 1) := by decide +kernel
theorem od_129_11 : decode (ov_byt 129) 11 = .ok (.aload_n 0, 1) := by decide +kernel
theorem og_129_12 : ov_GF 129 12 0 1 := ⟨19, true, 263, by decide +kernel, by decide +kernel⟩
theorem od_129_15 : decode (ov_byt 129) 15 = .ok (.iload_n 2, 1) := by decide +kernel
theorem oc_129_16 : ov_CL 129 16 1 29 := ⟨148, (508, 368, 369), (by show decode (ov_byt 129) 16 = Except.ok (Instr.invokevirtual 148, 3); decide +kernel), by decide +kernel⟩
theorem od_129_24 : decode (ov_byt 129) 24 = .ok (.iload_n 1, 1) := by decide +kernel
theorem od_129_25 : decode (ov_byt 129) 25 = .ok (.iload_n 2, 1) := by decide +kernel
theorem od_129_38 : decode (ov_byt 129) 38 = .ok (.bipush (-2), 2) := by decide +kernel
theorem od_129_40 : decode (ov_byt 129) 40 = .ok (.ireturn, 1) := by decide +kernel
theorem od_129_29 : decode (ov_byt 129) 29 = .ok (.iload_n 3, 1) := by decide +kernel
theorem od_129_33 : decode (ov_byt 129) 33 = .ok (.iload_n 3, 1) := by decide +kernel
theorem od_129_34 : decode (ov_byt 129) 34 = .ok (.iconst 1, 1) := by decide +kernel
theorem od_129_41 : decode (ov_byt 129) 41 = .ok (.aload_n 0, 1) := by decide +kernel
theorem og_129_42 : ov_GF 129 42 0 3 := ⟨31, true, 265, by decide +kernel, by decide +kernel⟩
theorem od_129_45 : decode (ov_byt 129) 45 = .ok (.iload_n 1, 1) := by decide +kernel
theorem oc_129_46 : ov_CL 129 46 1 34 := ⟨229, (652, 389, 390), (by show decode (ov_byt 129) 46 = Except.ok (Instr.invokevirtual 229, 3); decide +kernel), by decide +kernel⟩
theorem od_129_63 : decode (ov_byt 129) 63 = .ok (.bipush (-3), 2) := by decide +kernel
theorem od_129_65 : decode (ov_byt 129) 65 = .ok (.ireturn, 1) := by decide +kernel
theorem od_129_52 : decode (ov_byt 129) 52 = .ok (.aload_n 0, 1) := by decide +kernel
