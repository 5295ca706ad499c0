theorem od_105_0 : decode (ov_byt 105) 0 = .ok (.iload_n 1, 1) := by decide +kernel
theorem od_105_10 : decode (ov_byt 105) 10 = .ok (.aload_n 0, 1) := by decide +kernel
theorem od_105_11 : decode (ov_byt 105) 11 = .ok (.iload_n 2, 1) := by decide +kernel
theorem oc_105_12 : ov_CL 105 12 1 106 := ⟨41, (706, 708, 13), (by show decode (ov_byt 105) 12 = Except.ok (Instr.invokevirtual 41, 3); decide +kernel), by decide +kernel⟩
theorem od_105_15 : decode (ov_byt 105) 15 = .ok (.return_, 1) := by decide +kernel
theorem od_105_4 : decode (ov_byt 105) 4 = .ok (.iload_n 3, 1) := by decide +kernel
theorem od_105_5 : decode (ov_byt 105) 5 = .ok (.bipush 6, 2) := by decide +kernel
theorem od_105_16 : decode (ov_byt 105) 16 = .ok (.aload_n 0, 1) := by decide +kernel
theorem og_105_17 : ov_GF 105 17 6 1 := ⟨15, true, 221, by decide +kernel, by decide +kernel⟩
theorem od_105_20 : decode (ov_byt 105) 20 = .ok (.astore 4, 2) := by decide +kernel
theorem od_105_22 : decode (ov_byt 105) 22 = .ok (.iconst 0, 1) := by decide +kernel
theorem od_105_23 : decode (ov_byt 105) 23 = .ok (.istore 5, 2) := by decide +kernel
theorem od_105_25 : decode (ov_byt 105) 25 = .ok (.iload 5, 2) := by decide +kernel
theorem od_105_27 : decode (ov_byt 105) 27 = .ok (.bipush 6, 2) := by decide +kernel
theorem od_105_32 : decode (ov_byt 105) 32 = .ok (.iload_n 1, 1) := by decide +kernel
theorem od_105_33 : decode (ov_byt 105) 33 = .ok (.iload 5, 2) := by decide +kernel
theorem oc_105_35 : ov_CL 105 35 0 23 := ⟨45, (712, 346, 0), (by show decode (ov_byt 105) 35 = Except.ok (Instr.invokestatic 45, 3); decide +kernel), by decide +kernel⟩
theorem od_105_85 : decode (ov_byt 105) 85 = .ok (.iinc 5 1, 3) := by decide +kernel
theorem od_105_88 : decode (ov_byt 105) 88 = .ok (.goto (-63), 3) := by decide +kernel
theorem od_105_41 : decode (ov_byt 105) 41 = .ok (.aload 4, 2) := by decide +kernel
theorem od_105_43 : decode (ov_byt 105) 43 = .ok (.iload 5, 2) := by decide +kernel
theorem od_105_45 : decode (ov_byt 105) 45 = .ok (.aload 4, 2) := by decide +kernel
theorem oc_105_47 : ov_CL 105 47 1 107 := ⟨51, (713, 714, 715), (by show decode (ov_byt 105) 47 = Except.ok (Instr.invokevirtual 51, 3); decide +kernel), by decide +kernel⟩
theorem oc_105_50 : ov_CL 105 50 1 101 := ⟨54, (717, 687, 688), (by show decode (ov_byt 105) 50 = Except.ok (Instr.invokevirtual 54, 3); decide +kernel), by decide +kernel⟩
theorem od_105_53 : decode (ov_byt 105) 53 = .ok (.pop, 1) := by decide +kernel
theorem od_105_54 : decode (ov_byt 105) 54 = .ok (.aload_n 0, 1) := by decide +kernel
theorem od_105_55 : decode (ov_byt 105) 55 = .ok (.iload_n 1, 1) := by decide +kernel
theorem od_105_56 : decode (ov_byt 105) 56 = .ok (.iload 5, 2) := by decide +kernel
theorem oc_105_58 : ov_CL 105 58 0 91 := ⟨58, (718, 641, 0), (by show decode (ov_byt 105) 58 = Except.ok (Instr.invokestatic 58, 3); decide +kernel), by decide +kernel⟩
theorem od_105_61 : decode (ov_byt 105) 61 = .ok (.bipush 10, 2) := by decide +kernel
theorem od_105_63 : decode (ov_byt 105) 63 = .ok (.iload_n 2, 1) := by decide +kernel
theorem od_105_64 : decode (ov_byt 105) 64 = .ok (.imul, 1) := by decide +kernel
theorem od_105_65 : decode (ov_byt 105) 65 = .ok (.iload 5, 2) := by decide +kernel
theorem od_105_67 : decode (ov_byt 105) 67 = .ok (.iadd, 1) := by decide +kernel
theorem od_105_68 : decode (ov_byt 105) 68 = .ok (.iconst 1, 1) := by decide +kernel
theorem od_105_69 : decode (ov_byt 105) 69 = .ok (.iadd, 1) := by decide +kernel
theorem od_105_70 : decode (ov_byt 105) 70 = .ok (.iload_n 3, 1) := by decide +kernel
theorem od_105_71 : decode (ov_byt 105) 71 = .ok (.iconst 1, 1) := by decide +kernel
theorem od_105_72 : decode (ov_byt 105) 72 = .ok (.iadd, 1) := by decide +kernel
theorem oc_105_73 : ov_CL 105 73 0 105 := ⟨37, (703, 704, 0), (by show decode (ov_byt 105) 73 = Except.ok (Instr.invokestatic 37, 3); decide +kernel), by decide +kernel⟩
theorem od_105_76 : decode (ov_byt 105) 76 = .ok (.aload 4, 2) := by decide +kernel
theorem od_105_78 : decode (ov_byt 105) 78 = .ok (.iload 5, 2) := by decide +kernel
theorem od_105_80 : decode (ov_byt 105) 80 = .ok (.bipush (-9), 2) := by decide +kernel
theorem oc_105_82 : ov_CL 105 82 1 90 := ⟨61, (719, 637, 638), (by show decode (ov_byt 105) 82 = Except.ok (Instr.invokevirtual 61, 3); decide +kernel), by decide +kernel⟩
theorem od_105_38 : decode (ov_byt 105) 38 = .ok (.ifCond .eq 47, 3) := by decide +kernel
theorem od_105_29 : decode (ov_byt 105) 29 = .ok (.if_icmp .ge 62, 3) := by decide +kernel
theorem od_105_91 : decode (ov_byt 105) 91 = .ok (.return_, 1) := by decide +kernel
theorem od_105_7 : decode (ov_byt 105) 7 = .ok (.if_icmp .lt 9, 3) := by decide +kernel
theorem od_105_1 : decode (ov_byt 105) 1 = .ok (.ifCond .eq 9, 3) := by decide +kernel
theorem od_104_0 : decode (ov_byt 104) 0 = .ok (.aload_n 0, 1) := by decide +kernel
theorem od_104_1 : decode (ov_byt 104) 1 = .ok (.iconst (-1), 1) := by decide +kernel
theorem op_104_2 : ov_PF 104 2 6 2 := ⟨19, 222, by decide +kernel, by decide +kernel⟩
theorem od_104_5 : decode (ov_byt 104) 5 = .ok (.aload_n 0, 1) := by decide +kernel
theorem od_104_6 : decode (ov_byt 104) 6 = .ok (.iconst 0, 1) := by decide +kernel
theorem op_104_7 : ov_PF 104 7 6 3 := ⟨23, 223, by decide +kernel, by decide +kernel⟩
theorem od_104_10 : decode (ov_byt 104) 10 = .ok (.aload_n 0, 1) := by decide +kernel
theorem og_104_11 : ov_GF 104 11 6 1 := ⟨15, true, 221, by decide +kernel, by decide +kernel⟩
theorem oc_104_14 : ov_CL 104 14 1 33 := ⟨26, (702, 385, 386), (by show decode (ov_byt 104) 14 = Except.ok (Instr.invokevirtual 26, 3); decide +kernel), by decide +kernel⟩
theorem od_104_17 : decode (ov_byt 104) 17 = .ok (.iconst (-1), 1) := by decide +kernel
theorem od_104_18 : decode (ov_byt 104) 18 = .ok (.ixor, 1) := by decide +kernel
theorem od_104_19 : decode (ov_byt 104) 19 = .ok (.iconst 1, 1) := by decide +kernel
theorem od_104_20 : decode (ov_byt 104) 20 = .ok (.aload_n 0, 1) := by decide +kernel
theorem og_104_21 : ov_GF 104 21 6 0 := ⟨9, true, 220, by decide +kernel, by decide +kernel⟩
theorem og_104_24 : ov_GF 104 24 2 2 := ⟨32, false, 106, by decide +kernel, by decide +kernel⟩
theorem od_104_27 : decode (ov_byt 104) 27 = .ok (.ishl, 1) := by decide +kernel
theorem od_104_28 : decode (ov_byt 104) 28 = .ok (.iconst 1, 1) := by decide +kernel
theorem od_104_29 : decode (ov_byt 104) 29 = .ok (.isub, 1) := by decide +kernel
theorem od_104_30 : decode (ov_byt 104) 30 = .ok (.iand, 1) := by decide +kernel
theorem od_104_31 : decode (ov_byt 104) 31 = .ok (.istore_n 1, 1) := by decide +kernel
theorem od_104_32 : decode (ov_byt 104) 32 = .ok (.aload_n 0, 1) := by decide +kernel
theorem od_104_33 : decode (ov_byt 104) 33 = .ok (.iload_n 1, 1) := by decide +kernel
theorem od_104_34 : decode (ov_byt 104) 34 = .ok (.iconst 0, 1) := by decide +kernel
theorem od_104_35 : decode (ov_byt 104) 35 = .ok (.iconst 0, 1) := by decide +kernel
theorem oc_104_36 : ov_CL 104 36 0 105 := ⟨37, (703, 704, 0), (by show decode (ov_byt 104) 36 = Except.ok (Instr.invokestatic 37, 3); decide +kernel), by decide +kernel⟩
theorem od_104_39 : decode (ov_byt 104) 39 = .ok (.return_, 1) := by decide +kernel
theorem od_103_0 : decode (ov_byt 103) 0 = .ok (.aload_n 0, 1) := by decide +kernel
theorem og_103_1 : ov_GF 103 1 0 4 := ⟨35, true, 266, by decide +kernel, by decide +kernel⟩
theorem od_103_4 : decode (ov_byt 103) 4 = .ok (.aload_n 0, 1) := by decide +kernel
theorem og_103_5 : ov_GF 103 5 0 3 := ⟨31, true, 265, by decide +kernel, by decide +kernel⟩
theorem oc_103_8 : ov_CL 103 8 1 97 := ⟨242, (664, 665, 666), (by show decode (ov_byt 103) 8 = Except.ok (Instr.invokevirtual 242, 3); decide +kernel), by decide +kernel⟩
theorem od_103_11 : decode (ov_byt 103) 11 = .ok (.aload_n 0, 1) := by decide +kernel
theorem og_103_12 : ov_GF 103 12 0 7 := ⟨57, true, 269, by decide +kernel, by decide +kernel⟩
theorem oc_103_15 : ov_CL 103 15 1 104 := ⟨262, (698, 699, 700), (by show decode (ov_byt 103) 15 = Except.ok (Instr.invokevirtual 262, 3); decide +kernel), by decide +kernel⟩
theorem od_103_18 : decode (ov_byt 103) 18 = .ok (.iload_n 1, 1) := by decide +kernel
theorem od_103_32 : decode (ov_byt 103) 32 = .ok (.aload_n 0, 1) := by decide +kernel
theorem og_103_33 : ov_GF 103 33 0 7 := ⟨57, true, 269, by decide +kernel, by decide +kernel⟩
theorem oc_103_36 : ov_CL 103 36 1 109 := ⟨268, (724, 725, 726), (by show decode (ov_byt 103) 36 = Except.ok (Instr.invokevirtual 268, 3); decide +kernel), by decide +kernel⟩
theorem od_103_39 : decode (ov_byt 103) 39 = .ok (.ireturn, 1) := by decide +kernel
theorem od_103_22 : decode (ov_byt 103) 22 = .ok (.aload_n 0, 1) := by decide +kernel
theorem og_103_23 : ov_GF 103 23 0 7 := ⟨57, true, 269, by decide +kernel, by decide +kernel⟩
theorem oc_103_26 : ov_CL 103 26 1 108 := ⟨265, (720, 721, 722), (by show decode (ov_byt 103) 26 = Except.ok (Instr.invokevirtual 265, 3); decide +kernel), by decide +kernel⟩
theorem od_103_29 : decode (ov_byt 103) 29 = .ok (.goto 10, 3) := by decide +kernel
theorem od_103_19 : decode (ov_byt 103) 19 = .ok (.ifCond .eq 13, 3) := by decide +kernel
theorem od_0_18 : decode (ov_byt 0) 18 = .ok (.iload_n 3, 1) := by decide +kernel
theorem od_0_19 : decode (ov_byt 0) 19 = .ok (.aload_n 0, 1) := by decide +kernel
theorem od_0_20 : decode (ov_byt 0) 20 = .ok (.arraylength, 1) := by decide +kernel
theorem od_0_21 : decode (ov_byt 0) 21 = .ok (.iconst 4, 1) := by decide +kernel
theorem od_0_22 : decode (ov_byt 0) 22 = .ok (.isub, 1) := by decide +kernel
theorem od_0_26 : decode (ov_byt 0) 26 = .ok (.aload_n 0, 1) := by decide +kernel
theorem od_0_27 : decode (ov_byt 0) 27 = .ok (.iload_n 3, 1) := by decide +kernel
theorem od_0_28 : decode (ov_byt 0) 28 = .ok (.iaload, 1) := by decide +kernel
theorem od_0_29 : decode (ov_byt 0) 29 = .ok (.bipush 31, 2) := by decide +kernel
theorem od_0_31 : decode (ov_byt 0) 31 = .ok (.iand, 1) := by decide +kernel
theorem od_0_176 : decode (ov_byt 0) 176 = .ok (.aload_n 1, 1) := by decide +kernel
theorem od_0_177 : decode (ov_byt 0) 177 = .ok (.aload_n 0, 1) := by decide +kernel
theorem od_0_178 : decode (ov_byt 0) 178 = .ok (.iload_n 3, 1) := by decide +kernel
theorem od_0_179 : decode (ov_byt 0) 179 = .ok (.iconst 1, 1) := by decide +kernel
theorem od_0_180 : decode (ov_byt 0) 180 = .ok (.iadd, 1) := by decide +kernel
theorem od_0_181 : decode (ov_byt 0) 181 = .ok (.iaload, 1) := by decide +kernel
theorem oc_0_182 : ov_CL 0 182 1 12 := ⟨13, (299, 300, 301), (by show decode (ov_byt 0) 182 = Except.ok (Instr.invokevirtual 13, 3); decide +kernel), by decide +kernel⟩
theorem od_0_185 : decode (ov_byt 0) 185 = .ok (.aload_n 2, 1) := by decide +kernel
theorem od_0_186 : decode (ov_byt 0) 186 = .ok (.aload_n 0, 1) := by decide +kernel
theorem od_0_187 : decode (ov_byt 0) 187 = .ok (.iload_n 3, 1) := by decide +kernel
theorem od_0_188 : decode (ov_byt 0) 188 = .ok (.iconst 1, 1) := by decide +kernel
theorem od_0_189 : decode (ov_byt 0) 189 = .ok (.iadd, 1) := by decide +kernel
theorem od_0_190 : decode (ov_byt 0) 190 = .ok (.iaload, 1) := by decide +kernel
theorem oc_0_191 : ov_CL 0 191 1 143 := ⟨17, (1001, 1002, 1003), (by show decode (ov_byt 0) 191 = Except.ok (Instr.invokevirtual 17, 3); decide +kernel), by decide +kernel⟩
theorem od_0_1111 : decode (ov_byt 0) 1111 = .ok (.iinc 3 4, 3) := by decide +kernel
theorem od_0_1114 : decode (ov_byt 0) 1114 = .ok (.goto (-1096), 3) := by decide +kernel
theorem od_0_197 : decode (ov_byt 0) 197 = .ok (.iconst 0, 1) := by decide +kernel
theorem od_0_198 : decode (ov_byt 0) 198 = .ok (.ireturn, 1) := by decide +kernel
theorem od_0_194 : decode (ov_byt 0) 194 = .ok (.if_icmp .eq 917, 3) := by decide +kernel
theorem od_0_32 : decode (ov_byt 0) 32 = .ok (.tableswitch 1079 0 31 #[144, 167, 180, 193, 206, 229, 252, 275, 308, 341, 364, 397, 430, 453, 486, 499, 532, 565, 598, 637, 660, 683, 746, 795, 828, 841, 854, 897, 956, 1010, 1033, 1056], 144) := by decide +kernel
theorem od_0_199 : decode (ov_byt 0) 199 = .ok (.aload_n 1, 1) := by decide +kernel
theorem oc_0_200 : ov_CL 0 200 1 15 := ⟨18, (311, 312, 313), (by show decode (ov_byt 0) 200 = Except.ok (Instr.invokevirtual 18, 3); decide +kernel), by decide +kernel⟩
theorem od_0_203 : decode (ov_byt 0) 203 = .ok (.aload_n 2, 1) := by decide +kernel
theorem oc_0_204 : ov_CL 0 204 1 145 := ⟨22, (1009, 1010, 1011), (by show decode (ov_byt 0) 204 = Except.ok (Instr.invokevirtual 22, 3); decide +kernel), by decide +kernel⟩
theorem od_0_210 : decode (ov_byt 0) 210 = .ok (.iconst 0, 1) := by decide +kernel
theorem od_0_211 : decode (ov_byt 0) 211 = .ok (.ireturn, 1) := by decide +kernel
theorem od_0_207 : decode (ov_byt 0) 207 = .ok (.if_icmp .eq 904, 3) := by decide +kernel
theorem od_0_212 : decode (ov_byt 0) 212 = .ok (.aload_n 1, 1) := by decide +kernel
theorem oc_0_213 : ov_CL 0 213 1 17 := ⟨23, (319, 320, 321), (by show decode (ov_byt 0) 213 = Except.ok (Instr.invokevirtual 23, 3); decide +kernel), by decide +kernel⟩
theorem od_0_216 : decode (ov_byt 0) 216 = .ok (.aload_n 2, 1) := by decide +kernel
theorem oc_0_217 : ov_CL 0 217 1 146 := ⟨26, (1013, 1014, 1015), (by show decode (ov_byt 0) 217 = Except.ok (Instr.invokevirtual 26, 3); decide +kernel), by decide +kernel⟩
theorem od_0_223 : decode (ov_byt 0) 223 = .ok (.iconst 0, 1) := by decide +kernel
theorem od_0_224 : decode (ov_byt 0) 224 = .ok (.ireturn, 1) := by decide +kernel
theorem od_0_220 : decode (ov_byt 0) 220 = .ok (.if_icmp .eq 891, 3) := by decide +kernel
theorem od_0_225 : decode (ov_byt 0) 225 = .ok (.aload_n 1, 1) := by decide +kernel
theorem oc_0_226 : ov_CL 0 226 1 30 := ⟨27, (371, 372, 373), (by show decode (ov_byt 0) 226 = Except.ok (Instr.invokevirtual 27, 3); decide +kernel), by decide +kernel⟩
theorem od_0_229 : decode (ov_byt 0) 229 = .ok (.aload_n 2, 1) := by decide +kernel
theorem oc_0_230 : ov_CL 0 230 1 157 := ⟨30, (1057, 1058, 1059), (by show decode (ov_byt 0) 230 = Except.ok (Instr.invokevirtual 30, 3); decide +kernel), by decide +kernel⟩
theorem od_0_236 : decode (ov_byt 0) 236 = .ok (.iconst 0, 1) := by decide +kernel
theorem od_0_237 : decode (ov_byt 0) 237 = .ok (.ireturn, 1) := by decide +kernel
theorem od_0_233 : decode (ov_byt 0) 233 = .ok (.if_icmp .eq 878, 3) := by decide +kernel
theorem od_0_238 : decode (ov_byt 0) 238 = .ok (.aload_n 1, 1) := by decide +kernel
theorem od_0_239 : decode (ov_byt 0) 239 = .ok (.aload_n 0, 1) := by decide +kernel
theorem od_0_240 : decode (ov_byt 0) 240 = .ok (.iload_n 3, 1) := by decide +kernel
theorem od_0_241 : decode (ov_byt 0) 241 = .ok (.iconst 1, 1) := by decide +kernel
theorem od_0_242 : decode (ov_byt 0) 242 = .ok (.iadd, 1) := by decide +kernel
theorem od_0_243 : decode (ov_byt 0) 243 = .ok (.iaload, 1) := by decide +kernel
theorem oc_0_244 : ov_CL 0 244 1 32 := ⟨31, (380, 381, 382), (by show decode (ov_byt 0) 244 = Except.ok (Instr.invokevirtual 31, 3); decide +kernel), by decide +kernel⟩
theorem od_0_247 : decode (ov_byt 0) 247 = .ok (.aload_n 2, 1) := by decide +kernel
theorem od_0_248 : decode (ov_byt 0) 248 = .ok (.aload_n 0, 1) := by decide +kernel
theorem od_0_249 : decode (ov_byt 0) 249 = .ok (.iload_n 3, 1) := by decide +kernel
theorem od_0_250 : decode (ov_byt 0) 250 = .ok (.iconst 1, 1) := by decide +kernel
theorem od_0_251 : decode (ov_byt 0) 251 = .ok (.iadd, 1) := by decide +kernel
theorem od_0_252 : decode (ov_byt 0) 252 = .ok (.iaload, 1) := by decide +kernel
theorem oc_0_253 : ov_CL 0 253 1 159 := ⟨34, (1064, 1065, 1066), (by show decode (ov_byt 0) 253 = Except.ok (Instr.invokevirtual 34, 3); decide +kernel), by decide +kernel⟩
theorem od_0_259 : decode (ov_byt 0) 259 = .ok (.iconst 0, 1) := by decide +kernel
theorem od_0_260 : decode (ov_byt 0) 260 = .ok (.ireturn, 1) := by decide +kernel
theorem od_0_256 : decode (ov_byt 0) 256 = .ok (.if_icmp .eq 855, 3) := by decide +kernel
theorem od_0_261 : decode (ov_byt 0) 261 = .ok (.aload_n 1, 1) := by decide +kernel
theorem od_0_262 : decode (ov_byt 0) 262 = .ok (.aload_n 0, 1) := by decide +kernel
theorem od_0_263 : decode (ov_byt 0) 263 = .ok (.iload_n 3, 1) := by decide +kernel
theorem od_0_264 : decode (ov_byt 0) 264 = .ok (.iconst 1, 1) := by decide +kernel
theorem od_0_265 : decode (ov_byt 0) 265 = .ok (.iadd, 1) := by decide +kernel
theorem od_0_266 : decode (ov_byt 0) 266 = .ok (.iaload, 1) := by decide +kernel
theorem oc_0_267 : ov_CL 0 267 1 57 := ⟨35, (481, 482, 483), (by show decode (ov_byt 0) 267 = Except.ok (Instr.invokevirtual 35, 3); decide +kernel), by decide +kernel⟩
theorem od_0_270 : decode (ov_byt 0) 270 = .ok (.aload_n 2, 1) := by decide +kernel
theorem od_0_271 : decode (ov_byt 0) 271 = .ok (.aload_n 0, 1) := by decide +kernel
theorem od_0_272 : decode (ov_byt 0) 272 = .ok (.iload_n 3, 1) := by decide +kernel
theorem od_0_273 : decode (ov_byt 0) 273 = .ok (.iconst 1, 1) := by decide +kernel
theorem od_0_274 : decode (ov_byt 0) 274 = .ok (.iadd, 1) := by decide +kernel
theorem od_0_275 : decode (ov_byt 0) 275 = .ok (.iaload, 1) := by decide +kernel
theorem oc_0_276 : ov_CL 0 276 1 171 := ⟨38, (1111, 1112, 1113), (by show decode (ov_byt 0) 276 = Except.ok (Instr.invokevirtual 38, 3); decide +kernel), by decide +kernel⟩
theorem od_0_282 : decode (ov_byt 0) 282 = .ok (.iconst 0, 1) := by decide +kernel
theorem od_0_283 : decode (ov_byt 0) 283 = .ok (.ireturn, 1) := by decide +kernel
theorem od_0_279 : decode (ov_byt 0) 279 = .ok (.if_icmp .eq 832, 3) := by decide +kernel
theorem od_0_284 : decode (ov_byt 0) 284 = .ok (.aload_n 1, 1) := by decide +kernel
theorem od_0_285 : decode (ov_byt 0) 285 = .ok (.aload_n 0, 1) := by decide +kernel
theorem od_0_286 : decode (ov_byt 0) 286 = .ok (.iload_n 3, 1) := by decide +kernel
theorem od_0_287 : decode (ov_byt 0) 287 = .ok (.iconst 1, 1) := by decide +kernel
theorem od_0_288 : decode (ov_byt 0) 288 = .ok (.iadd, 1) := by decide +kernel
theorem od_0_289 : decode (ov_byt 0) 289 = .ok (.iaload, 1) := by decide +kernel
theorem oc_0_290 : ov_CL 0 290 1 60 := ⟨39, (494, 495, 496), (by show decode (ov_byt 0) 290 = Except.ok (Instr.invokevirtual 39, 3); decide +kernel), by decide +kernel⟩
theorem od_0_293 : decode (ov_byt 0) 293 = .ok (.aload_n 2, 1) := by decide +kernel
theorem od_0_294 : decode (ov_byt 0) 294 = .ok (.aload_n 0, 1) := by decide +kernel
theorem od_0_295 : decode (ov_byt 0) 295 = .ok (.iload_n 3, 1) := by decide +kernel
theorem od_0_296 : decode (ov_byt 0) 296 = .ok (.iconst 1, 1) := by decide +kernel
theorem od_0_297 : decode (ov_byt 0) 297 = .ok (.iadd, 1) := by decide +kernel
theorem od_0_298 : decode (ov_byt 0) 298 = .ok (.iaload, 1) := by decide +kernel
theorem oc_0_299 : ov_CL 0 299 1 173 := ⟨42, (1119, 1120, 1121), (by show decode (ov_byt 0) 299 = Except.ok (Instr.invokevirtual 42, 3); decide +kernel), by decide +kernel⟩
theorem od_0_305 : decode (ov_byt 0) 305 = .ok (.iconst 0, 1) := by decide +kernel
theorem od_0_306 : decode (ov_byt 0) 306 = .ok (.ireturn, 1) := by decide +kernel
theorem od_0_302 : decode (ov_byt 0) 302 = .ok (.if_icmp .eq 809, 3) := by decide +kernel
theorem od_0_307 : decode (ov_byt 0) 307 = .ok (.aload_n 1, 1) := by decide +kernel
theorem od_0_308 : decode (ov_byt 0) 308 = .ok (.aload_n 0, 1) := by decide +kernel
theorem od_0_309 : decode (ov_byt 0) 309 = .ok (.iload_n 3, 1) := by decide +kernel
theorem od_0_310 : decode (ov_byt 0) 310 = .ok (.iconst 1, 1) := by decide +kernel
theorem od_0_311 : decode (ov_byt 0) 311 = .ok (.iadd, 1) := by decide +kernel
theorem od_0_312 : decode (ov_byt 0) 312 = .ok (.iaload, 1) := by decide +kernel
theorem od_0_313 : decode (ov_byt 0) 313 = .ok (.aload_n 0, 1) := by decide +kernel
theorem od_0_314 : decode (ov_byt 0) 314 = .ok (.iload_n 3, 1) := by decide +kernel
theorem od_0_315 : decode (ov_byt 0) 315 = .ok (.iconst 2, 1) := by decide +kernel
theorem od_0_316 : decode (ov_byt 0) 316 = .ok (.iadd, 1) := by decide +kernel
theorem od_0_317 : decode (ov_byt 0) 317 = .ok (.iaload, 1) := by decide +kernel
theorem oc_0_318 : ov_CL 0 318 1 62 := ⟨43, (504, 505, 506), (by show decode (ov_byt 0) 318 = Except.ok (Instr.invokevirtual 43, 3); decide +kernel), by decide +kernel⟩
theorem od_0_321 : decode (ov_byt 0) 321 = .ok (.aload_n 2, 1) := by decide +kernel
theorem od_0_322 : decode (ov_byt 0) 322 = .ok (.aload_n 0, 1) := by decide +kernel
theorem od_0_323 : decode (ov_byt 0) 323 = .ok (.iload_n 3, 1) := by decide +kernel
theorem od_0_324 : decode (ov_byt 0) 324 = .ok (.iconst 1, 1) := by decide +kernel
theorem od_0_325 : decode (ov_byt 0) 325 = .ok (.iadd, 1) := by decide +kernel
theorem od_0_326 : decode (ov_byt 0) 326 = .ok (.iaload, 1) := by decide +kernel
theorem od_0_327 : decode (ov_byt 0) 327 = .ok (.aload_n 0, 1) := by decide +kernel
theorem od_0_328 : decode (ov_byt 0) 328 = .ok (.iload_n 3, 1) := by decide +kernel
theorem od_0_329 : decode (ov_byt 0) 329 = .ok (.iconst 2, 1) := by decide +kernel
theorem od_0_330 : decode (ov_byt 0) 330 = .ok (.iadd, 1) := by decide +kernel
theorem od_0_331 : decode (ov_byt 0) 331 = .ok (.iaload, 1) := by decide +kernel
theorem oc_0_332 : ov_CL 0 332 1 174 := ⟨47, (1123, 1124, 1125), (by show decode (ov_byt 0) 332 = Except.ok (Instr.invokevirtual 47, 3); decide +kernel), by decide +kernel⟩
theorem od_0_338 : decode (ov_byt 0) 338 = .ok (.iconst 0, 1) := by decide +kernel
theorem od_0_339 : decode (ov_byt 0) 339 = .ok (.ireturn, 1) := by decide +kernel
theorem od_0_335 : decode (ov_byt 0) 335 = .ok (.if_icmp .eq 776, 3) := by decide +kernel
theorem od_0_340 : decode (ov_byt 0) 340 = .ok (.aload_n 1, 1) := by decide +kernel
theorem od_0_341 : decode (ov_byt 0) 341 = .ok (.aload_n 0, 1) := by decide +kernel
theorem od_0_342 : decode (ov_byt 0) 342 = .ok (.iload_n 3, 1) := by decide +kernel
theorem od_0_343 : decode (ov_byt 0) 343 = .ok (.iconst 1, 1) := by decide +kernel
theorem od_0_344 : decode (ov_byt 0) 344 = .ok (.iadd, 1) := by decide +kernel
theorem od_0_345 : decode (ov_byt 0) 345 = .ok (.iaload, 1) := by decide +kernel
theorem od_0_346 : decode (ov_byt 0) 346 = .ok (.aload_n 0, 1) := by decide +kernel
theorem od_0_347 : decode (ov_byt 0) 347 = .ok (.iload_n 3, 1) := by decide +kernel
theorem od_0_348 : decode (ov_byt 0) 348 = .ok (.iconst 2, 1) := by decide +kernel
theorem od_0_349 : decode (ov_byt 0) 349 = .ok (.iadd, 1) := by decide +kernel
theorem od_0_350 : decode (ov_byt 0) 350 = .ok (.iaload, 1) := by decide +kernel
theorem oc_0_351 : ov_CL 0 351 1 70 := ⟨48, (541, 542, 543), (by show decode (ov_byt 0) 351 = Except.ok (Instr.invokevirtual 48, 3); decide +kernel), by decide +kernel⟩
theorem od_0_354 : decode (ov_byt 0) 354 = .ok (.aload_n 2, 1) := by decide +kernel
theorem od_0_355 : decode (ov_byt 0) 355 = .ok (.aload_n 0, 1) := by decide +kernel
theorem od_0_356 : decode (ov_byt 0) 356 = .ok (.iload_n 3, 1) := by decide +kernel
theorem od_0_357 : decode (ov_byt 0) 357 = .ok (.iconst 1, 1) := by decide +kernel
theorem od_0_358 : decode (ov_byt 0) 358 = .ok (.iadd, 1) := by decide +kernel
theorem od_0_359 : decode (ov_byt 0) 359 = .ok (.iaload, 1) := by decide +kernel
theorem od_0_360 : decode (ov_byt 0) 360 = .ok (.aload_n 0, 1) := by decide +kernel
theorem od_0_361 : decode (ov_byt 0) 361 = .ok (.iload_n 3, 1) := by decide +kernel
theorem od_0_362 : decode (ov_byt 0) 362 = .ok (.iconst 2, 1) := by decide +kernel
theorem od_0_363 : decode (ov_byt 0) 363 = .ok (.iadd, 1) := by decide +kernel
theorem od_0_364 : decode (ov_byt 0) 364 = .ok (.iaload, 1) := by decide +kernel
theorem oc_0_365 : ov_CL 0 365 1 181 := ⟨51, (1150, 1151, 1152), (by show decode (ov_byt 0) 365 = Except.ok (Instr.invokevirtual 51, 3); decide +kernel), by decide +kernel⟩
theorem od_0_371 : decode (ov_byt 0) 371 = .ok (.iconst 0, 1) := by decide +kernel
theorem od_0_372 : decode (ov_byt 0) 372 = .ok (.ireturn, 1) := by decide +kernel
theorem od_0_368 : decode (ov_byt 0) 368 = .ok (.if_icmp .eq 743, 3) := by decide +kernel
theorem od_0_373 : decode (ov_byt 0) 373 = .ok (.aload_n 1, 1) := by decide +kernel
theorem od_0_374 : decode (ov_byt 0) 374 = .ok (.aload_n 0, 1) := by decide +kernel
theorem od_0_375 : decode (ov_byt 0) 375 = .ok (.iload_n 3, 1) := by decide +kernel
theorem od_0_376 : decode (ov_byt 0) 376 = .ok (.iconst 1, 1) := by decide +kernel
theorem od_0_377 : decode (ov_byt 0) 377 = .ok (.iadd, 1) := by decide +kernel
theorem od_0_378 : decode (ov_byt 0) 378 = .ok (.iaload, 1) := by decide +kernel
theorem oc_0_379 : ov_CL 0 379 1 71 := ⟨52, (549, 550, 551), (by show decode (ov_byt 0) 379 = Except.ok (Instr.invokevirtual 52, 3); decide +kernel), by decide +kernel⟩
theorem od_0_382 : decode (ov_byt 0) 382 = .ok (.aload_n 2, 1) := by decide +kernel
theorem od_0_383 : decode (ov_byt 0) 383 = .ok (.aload_n 0, 1) := by decide +kernel
theorem od_0_384 : decode (ov_byt 0) 384 = .ok (.iload_n 3, 1) := by decide +kernel
theorem od_0_385 : decode (ov_byt 0) 385 = .ok (.iconst 1, 1) := by decide +kernel
theorem od_0_386 : decode (ov_byt 0) 386 = .ok (.iadd, 1) := by decide +kernel
theorem od_0_387 : decode (ov_byt 0) 387 = .ok (.iaload, 1) := by decide +kernel
theorem oc_0_388 : ov_CL 0 388 1 182 := ⟨55, (1154, 1155, 1156), (by show decode (ov_byt 0) 388 = Except.ok (Instr.invokevirtual 55, 3); decide +kernel), by decide +kernel⟩
theorem od_0_394 : decode (ov_byt 0) 394 = .ok (.iconst 0, 1) := by decide +kernel
theorem od_0_395 : decode (ov_byt 0) 395 = .ok (.ireturn, 1) := by decide +kernel
theorem od_0_391 : decode (ov_byt 0) 391 = .ok (.if_icmp .eq 720, 3) := by decide +kernel
theorem od_0_396 : decode (ov_byt 0) 396 = .ok (.aload_n 1, 1) := by decide +kernel
theorem od_0_397 : decode (ov_byt 0) 397 = .ok (.aload_n 0, 1) := by decide +kernel
theorem od_0_398 : decode (ov_byt 0) 398 = .ok (.iload_n 3, 1) := by decide +kernel
theorem od_0_399 : decode (ov_byt 0) 399 = .ok (.iconst 1, 1) := by decide +kernel
theorem od_0_400 : decode (ov_byt 0) 400 = .ok (.iadd, 1) := by decide +kernel
theorem od_0_401 : decode (ov_byt 0) 401 = .ok (.iaload, 1) := by decide +kernel
theorem od_0_402 : decode (ov_byt 0) 402 = .ok (.aload_n 0, 1) := by decide +kernel
theorem od_0_403 : decode (ov_byt 0) 403 = .ok (.iload_n 3, 1) := by decide +kernel
theorem od_0_404 : decode (ov_byt 0) 404 = .ok (.iconst 2, 1) := by decide +kernel
theorem od_0_405 : decode (ov_byt 0) 405 = .ok (.iadd, 1) := by decide +kernel
theorem od_0_406 : decode (ov_byt 0) 406 = .ok (.iaload, 1) := by decide +kernel
theorem oc_0_407 : ov_CL 0 407 1 73 := ⟨56, (558, 559, 560), (by show decode (ov_byt 0) 407 = Except.ok (Instr.invokevirtual 56, 3); decide +kernel), by decide +kernel⟩
theorem od_0_410 : decode (ov_byt 0) 410 = .ok (.aload_n 2, 1) := by decide +kernel
theorem od_0_411 : decode (ov_byt 0) 411 = .ok (.aload_n 0, 1) := by decide +kernel
theorem od_0_412 : decode (ov_byt 0) 412 = .ok (.iload_n 3, 1) := by decide +kernel
theorem od_0_413 : decode (ov_byt 0) 413 = .ok (.iconst 1, 1) := by decide +kernel
theorem od_0_414 : decode (ov_byt 0) 414 = .ok (.iadd, 1) := by decide +kernel
theorem od_0_415 : decode (ov_byt 0) 415 = .ok (.iaload, 1) := by decide +kernel
theorem od_0_416 : decode (ov_byt 0) 416 = .ok (.aload_n 0, 1) := by decide +kernel
theorem od_0_417 : decode (ov_byt 0) 417 = .ok (.iload_n 3, 1) := by decide +kernel
theorem od_0_418 : decode (ov_byt 0) 418 = .ok (.iconst 2, 1) := by decide +kernel
theorem od_0_419 : decode (ov_byt 0) 419 = .ok (.iadd, 1) := by decide +kernel
theorem od_0_420 : decode (ov_byt 0) 420 = .ok (.iaload, 1) := by decide +kernel
theorem oc_0_421 : ov_CL 0 421 1 184 := ⟨59, (1163, 1164, 1165), (by show decode (ov_byt 0) 421 = Except.ok (Instr.invokevirtual 59, 3); decide +kernel), by decide +kernel⟩
theorem od_0_427 : decode (ov_byt 0) 427 = .ok (.iconst 0, 1) := by decide +kernel
theorem od_0_428 : decode (ov_byt 0) 428 = .ok (.ireturn, 1) := by decide +kernel
theorem od_0_424 : decode (ov_byt 0) 424 = .ok (.if_icmp .eq 687, 3) := by decide +kernel
theorem od_0_429 : decode (ov_byt 0) 429 = .ok (.aload_n 1, 1) := by decide +kernel
theorem od_0_430 : decode (ov_byt 0) 430 = .ok (.aload_n 0, 1) := by decide +kernel
theorem od_0_431 : decode (ov_byt 0) 431 = .ok (.iload_n 3, 1) := by decide +kernel
theorem od_0_432 : decode (ov_byt 0) 432 = .ok (.iconst 1, 1) := by decide +kernel
theorem od_0_433 : decode (ov_byt 0) 433 = .ok (.iadd, 1) := by decide +kernel
theorem od_0_434 : decode (ov_byt 0) 434 = .ok (.iaload, 1) := by decide +kernel
theorem od_0_435 : decode (ov_byt 0) 435 = .ok (.aload_n 0, 1) := by decide +kernel
theorem od_0_436 : decode (ov_byt 0) 436 = .ok (.iload_n 3, 1) := by decide +kernel
theorem od_0_437 : decode (ov_byt 0) 437 = .ok (.iconst 2, 1) := by decide +kernel
theorem od_0_438 : decode (ov_byt 0) 438 = .ok (.iadd, 1) := by decide +kernel
theorem od_0_439 : decode (ov_byt 0) 439 = .ok (.iaload, 1) := by decide +kernel
theorem oc_0_440 : ov_CL 0 440 1 77 := ⟨60, (578, 579, 580), (by show decode (ov_byt 0) 440 = Except.ok (Instr.invokevirtual 60, 3); decide +kernel), by decide +kernel⟩
theorem od_0_443 : decode (ov_byt 0) 443 = .ok (.aload_n 2, 1) := by decide +kernel
theorem od_0_444 : decode (ov_byt 0) 444 = .ok (.aload_n 0, 1) := by decide +kernel
theorem od_0_445 : decode (ov_byt 0) 445 = .ok (.iload_n 3, 1) := by decide +kernel
theorem od_0_446 : decode (ov_byt 0) 446 = .ok (.iconst 1, 1) := by decide +kernel
theorem od_0_447 : decode (ov_byt 0) 447 = .ok (.iadd, 1) := by decide +kernel
theorem od_0_448 : decode (ov_byt 0) 448 = .ok (.iaload, 1) := by decide +kernel
theorem od_0_449 : decode (ov_byt 0) 449 = .ok (.aload_n 0, 1) := by decide +kernel
theorem od_0_450 : decode (ov_byt 0) 450 = .ok (.iload_n 3, 1) := by decide +kernel
theorem od_0_451 : decode (ov_byt 0) 451 = .ok (.iconst 2, 1) := by decide +kernel
theorem od_0_452 : decode (ov_byt 0) 452 = .ok (.iadd, 1) := by decide +kernel
theorem od_0_453 : decode (ov_byt 0) 453 = .ok (.iaload, 1) := by decide +kernel
theorem oc_0_454 : ov_CL 0 454 1 188 := ⟨63, (1179, 1180, 1181), (by show decode (ov_byt 0) 454 = Except.ok (Instr.invokevirtual 63, 3); decide +kernel), by decide +kernel⟩
theorem od_0_460 : decode (ov_byt 0) 460 = .ok (.iconst 0, 1) := by decide +kernel
theorem od_0_461 : decode (ov_byt 0) 461 = .ok (.ireturn, 1) := by decide +kernel
theorem od_0_457 : decode (ov_byt 0) 457 = .ok (.if_icmp .eq 654, 3) := by decide +kernel
theorem od_0_462 : decode (ov_byt 0) 462 = .ok (.aload_n 1, 1) := by decide +kernel
theorem od_0_463 : decode (ov_byt 0) 463 = .ok (.aload_n 0, 1) := by decide +kernel
theorem od_0_464 : decode (ov_byt 0) 464 = .ok (.iload_n 3, 1) := by decide +kernel
theorem od_0_465 : decode (ov_byt 0) 465 = .ok (.iconst 1, 1) := by decide +kernel
theorem od_0_466 : decode (ov_byt 0) 466 = .ok (.iadd, 1) := by decide +kernel
theorem od_0_467 : decode (ov_byt 0) 467 = .ok (.iaload, 1) := by decide +kernel
theorem oc_0_468 : ov_CL 0 468 1 80 := ⟨64, (593, 594, 595), (by show decode (ov_byt 0) 468 = Except.ok (Instr.invokevirtual 64, 3); decide +kernel), by decide +kernel⟩
theorem od_0_471 : decode (ov_byt 0) 471 = .ok (.aload_n 2, 1) := by decide +kernel
theorem od_0_472 : decode (ov_byt 0) 472 = .ok (.aload_n 0, 1) := by decide +kernel
theorem od_0_473 : decode (ov_byt 0) 473 = .ok (.iload_n 3, 1) := by decide +kernel
theorem od_0_474 : decode (ov_byt 0) 474 = .ok (.iconst 1, 1) := by decide +kernel
theorem od_0_475 : decode (ov_byt 0) 475 = .ok (.iadd, 1) := by decide +kernel
theorem od_0_476 : decode (ov_byt 0) 476 = .ok (.iaload, 1) := by decide +kernel
theorem oc_0_477 : ov_CL 0 477 1 190 := ⟨67, (1188, 1189, 1190), (by show decode (ov_byt 0) 477 = Except.ok (Instr.invokevirtual 67, 3); decide +kernel), by decide +kernel⟩
theorem od_0_483 : decode (ov_byt 0) 483 = .ok (.iconst 0, 1) := by decide +kernel
theorem od_0_484 : decode (ov_byt 0) 484 = .ok (.ireturn, 1) := by decide +kernel
theorem od_0_480 : decode (ov_byt 0) 480 = .ok (.if_icmp .eq 631, 3) := by decide +kernel
theorem od_0_485 : decode (ov_byt 0) 485 = .ok (.aload_n 1, 1) := by decide +kernel
theorem od_0_486 : decode (ov_byt 0) 486 = .ok (.aload_n 0, 1) := by decide +kernel
theorem od_0_487 : decode (ov_byt 0) 487 = .ok (.iload_n 3, 1) := by decide +kernel
theorem od_0_488 : decode (ov_byt 0) 488 = .ok (.iconst 1, 1) := by decide +kernel
theorem od_0_489 : decode (ov_byt 0) 489 = .ok (.iadd, 1) := by decide +kernel
theorem od_0_490 : decode (ov_byt 0) 490 = .ok (.iaload, 1) := by decide +kernel
theorem od_0_491 : decode (ov_byt 0) 491 = .ok (.aload_n 0, 1) := by decide +kernel
theorem od_0_492 : decode (ov_byt 0) 492 = .ok (.iload_n 3, 1) := by decide +kernel
theorem od_0_493 : decode (ov_byt 0) 493 = .ok (.iconst 2, 1) := by decide +kernel
theorem od_0_494 : decode (ov_byt 0) 494 = .ok (.iadd, 1) := by decide +kernel
theorem od_0_495 : decode (ov_byt 0) 495 = .ok (.iaload, 1) := by decide +kernel
theorem oc_0_496 : ov_CL 0 496 1 82 := ⟨68, (602, 603, 604), (by show decode (ov_byt 0) 496 = Except.ok (Instr.invokevirtual 68, 3); decide +kernel), by decide +kernel⟩
theorem od_0_499 : decode (ov_byt 0) 499 = .ok (.aload_n 2, 1) := by decide +kernel
theorem od_0_500 : decode (ov_byt 0) 500 = .ok (.aload_n 0, 1) := by decide +kernel
theorem od_0_501 : decode (ov_byt 0) 501 = .ok (.iload_n 3, 1) := by decide +kernel
theorem od_0_502 : decode (ov_byt 0) 502 = .ok (.iconst 1, 1) := by decide +kernel
theorem od_0_503 : decode (ov_byt 0) 503 = .ok (.iadd, 1) := by decide +kernel
theorem od_0_504 : decode (ov_byt 0) 504 = .ok (.iaload, 1) := by decide +kernel
theorem od_0_505 : decode (ov_byt 0) 505 = .ok (.aload_n 0, 1) := by decide +kernel
theorem od_0_506 : decode (ov_byt 0) 506 = .ok (.iload_n 3, 1) := by decide +kernel
theorem od_0_507 : decode (ov_byt 0) 507 = .ok (.iconst 2, 1) := by decide +kernel
theorem od_0_508 : decode (ov_byt 0) 508 = .ok (.iadd, 1) := by decide +kernel
theorem od_0_509 : decode (ov_byt 0) 509 = .ok (.iaload, 1) := by decide +kernel
theorem oc_0_510 : ov_CL 0 510 1 192 := ⟨71, (1195, 1196, 1197), (by show decode (ov_byt 0) 510 = Except.ok (Instr.invokevirtual 71, 3); decide +kernel), by decide +kernel⟩
theorem od_0_516 : decode (ov_byt 0) 516 = .ok (.iconst 0, 1) := by decide +kernel
theorem od_0_517 : decode (ov_byt 0) 517 = .ok (.ireturn, 1) := by decide +kernel
theorem od_0_513 : decode (ov_byt 0) 513 = .ok (.if_icmp .eq 598, 3) := by decide +kernel
theorem od_0_518 : decode (ov_byt 0) 518 = .ok (.aload_n 1, 1) := by decide +kernel
theorem oc_0_519 : ov_CL 0 519 1 85 := ⟨72, (616, 617, 618), (by show decode (ov_byt 0) 519 = Except.ok (Instr.invokevirtual 72, 3); decide +kernel), by decide +kernel⟩
theorem od_0_522 : decode (ov_byt 0) 522 = .ok (.aload_n 2, 1) := by decide +kernel
theorem oc_0_523 : ov_CL 0 523 1 195 := ⟨75, (1206, 1207, 1208), (by show decode (ov_byt 0) 523 = Except.ok (Instr.invokevirtual 75, 3); decide +kernel), by decide +kernel⟩
theorem od_0_529 : decode (ov_byt 0) 529 = .ok (.iconst 0, 1) := by decide +kernel
theorem od_0_530 : decode (ov_byt 0) 530 = .ok (.ireturn, 1) := by decide +kernel
theorem od_0_526 : decode (ov_byt 0) 526 = .ok (.if_icmp .eq 585, 3) := by decide +kernel
theorem od_0_531 : decode (ov_byt 0) 531 = .ok (.aload_n 1, 1) := by decide +kernel
theorem od_0_532 : decode (ov_byt 0) 532 = .ok (.aload_n 0, 1) := by decide +kernel
theorem od_0_533 : decode (ov_byt 0) 533 = .ok (.iload_n 3, 1) := by decide +kernel
theorem od_0_534 : decode (ov_byt 0) 534 = .ok (.iconst 1, 1) := by decide +kernel
theorem od_0_535 : decode (ov_byt 0) 535 = .ok (.iadd, 1) := by decide +kernel
theorem od_0_536 : decode (ov_byt 0) 536 = .ok (.iaload, 1) := by decide +kernel
theorem od_0_537 : decode (ov_byt 0) 537 = .ok (.aload_n 0, 1) := by decide +kernel
theorem od_0_538 : decode (ov_byt 0) 538 = .ok (.iload_n 3, 1) := by decide +kernel
theorem od_0_539 : decode (ov_byt 0) 539 = .ok (.iconst 2, 1) := by decide +kernel
theorem od_0_540 : decode (ov_byt 0) 540 = .ok (.iadd, 1) := by decide +kernel
theorem od_0_541 : decode (ov_byt 0) 541 = .ok (.iaload, 1) := by decide +kernel
theorem oc_0_542 : ov_CL 0 542 1 93 := ⟨76, (648, 649, 650), (by show decode (ov_byt 0) 542 = Except.ok (Instr.invokevirtual 76, 3); decide +kernel), by decide +kernel⟩
theorem od_0_545 : decode (ov_byt 0) 545 = .ok (.aload_n 2, 1) := by decide +kernel
theorem od_0_546 : decode (ov_byt 0) 546 = .ok (.aload_n 0, 1) := by decide +kernel
theorem od_0_547 : decode (ov_byt 0) 547 = .ok (.iload_n 3, 1) := by decide +kernel
theorem od_0_548 : decode (ov_byt 0) 548 = .ok (.iconst 1, 1) := by decide +kernel
theorem od_0_549 : decode (ov_byt 0) 549 = .ok (.iadd, 1) := by decide +kernel
theorem od_0_550 : decode (ov_byt 0) 550 = .ok (.iaload, 1) := by decide +kernel
theorem od_0_551 : decode (ov_byt 0) 551 = .ok (.aload_n 0, 1) := by decide +kernel
theorem od_0_552 : decode (ov_byt 0) 552 = .ok (.iload_n 3, 1) := by decide +kernel
theorem od_0_553 : decode (ov_byt 0) 553 = .ok (.iconst 2, 1) := by decide +kernel
theorem od_0_554 : decode (ov_byt 0) 554 = .ok (.iadd, 1) := by decide +kernel
theorem od_0_555 : decode (ov_byt 0) 555 = .ok (.iaload, 1) := by decide +kernel
theorem oc_0_556 : ov_CL 0 556 1 196 := ⟨79, (1210, 1211, 1212), (by show decode (ov_byt 0) 556 = Except.ok (Instr.invokevirtual 79, 3); decide +kernel), by decide +kernel⟩
theorem od_0_562 : decode (ov_byt 0) 562 = .ok (.iconst 0, 1) := by decide +kernel
theorem od_0_563 : decode (ov_byt 0) 563 = .ok (.ireturn, 1) := by decide +kernel
theorem od_0_559 : decode (ov_byt 0) 559 = .ok (.if_icmp .eq 552, 3) := by decide +kernel
theorem od_0_564 : decode (ov_byt 0) 564 = .ok (.aload_n 1, 1) := by decide +kernel
theorem od_0_565 : decode (ov_byt 0) 565 = .ok (.aload_n 0, 1) := by decide +kernel
theorem od_0_566 : decode (ov_byt 0) 566 = .ok (.iload_n 3, 1) := by decide +kernel
theorem od_0_567 : decode (ov_byt 0) 567 = .ok (.iconst 1, 1) := by decide +kernel
theorem od_0_568 : decode (ov_byt 0) 568 = .ok (.iadd, 1) := by decide +kernel
theorem od_0_569 : decode (ov_byt 0) 569 = .ok (.iaload, 1) := by decide +kernel
theorem od_0_570 : decode (ov_byt 0) 570 = .ok (.aload_n 0, 1) := by decide +kernel
theorem od_0_571 : decode (ov_byt 0) 571 = .ok (.iload_n 3, 1) := by decide +kernel
theorem od_0_572 : decode (ov_byt 0) 572 = .ok (.iconst 2, 1) := by decide +kernel
theorem od_0_573 : decode (ov_byt 0) 573 = .ok (.iadd, 1) := by decide +kernel
theorem od_0_574 : decode (ov_byt 0) 574 = .ok (.iaload, 1) := by decide +kernel
theorem oc_0_575 : ov_CL 0 575 1 95 := ⟨80, (656, 657, 658), (by show decode (ov_byt 0) 575 = Except.ok (Instr.invokevirtual 80, 3); decide +kernel), by decide +kernel⟩
theorem od_0_578 : decode (ov_byt 0) 578 = .ok (.aload_n 2, 1) := by decide +kernel
theorem od_0_579 : decode (ov_byt 0) 579 = .ok (.aload_n 0, 1) := by decide +kernel
theorem od_0_580 : decode (ov_byt 0) 580 = .ok (.iload_n 3, 1) := by decide +kernel
theorem od_0_581 : decode (ov_byt 0) 581 = .ok (.iconst 1, 1) := by decide +kernel
theorem od_0_582 : decode (ov_byt 0) 582 = .ok (.iadd, 1) := by decide +kernel
theorem od_0_583 : decode (ov_byt 0) 583 = .ok (.iaload, 1) := by decide +kernel
theorem od_0_584 : decode (ov_byt 0) 584 = .ok (.aload_n 0, 1) := by decide +kernel
theorem od_0_585 : decode (ov_byt 0) 585 = .ok (.iload_n 3, 1) := by decide +kernel
theorem od_0_586 : decode (ov_byt 0) 586 = .ok (.iconst 2, 1) := by decide +kernel
theorem od_0_587 : decode (ov_byt 0) 587 = .ok (.iadd, 1) := by decide +kernel
theorem od_0_588 : decode (ov_byt 0) 588 = .ok (.iaload, 1) := by decide +kernel
theorem oc_0_589 : ov_CL 0 589 1 197 := ⟨83, (1214, 1215, 1216), (by show decode (ov_byt 0) 589 = Except.ok (Instr.invokevirtual 83, 3); decide +kernel), by decide +kernel⟩
theorem od_0_595 : decode (ov_byt 0) 595 = .ok (.iconst 0, 1) := by decide +kernel
theorem od_0_596 : decode (ov_byt 0) 596 = .ok (.ireturn, 1) := by decide +kernel
theorem od_0_592 : decode (ov_byt 0) 592 = .ok (.if_icmp .eq 519, 3) := by decide +kernel
theorem od_0_597 : decode (ov_byt 0) 597 = .ok (.aload_n 1, 1) := by decide +kernel
theorem od_0_598 : decode (ov_byt 0) 598 = .ok (.aload_n 0, 1) := by decide +kernel
theorem od_0_599 : decode (ov_byt 0) 599 = .ok (.iload_n 3, 1) := by decide +kernel
theorem od_0_600 : decode (ov_byt 0) 600 = .ok (.iconst 1, 1) := by decide +kernel
theorem od_0_601 : decode (ov_byt 0) 601 = .ok (.iadd, 1) := by decide +kernel
theorem od_0_602 : decode (ov_byt 0) 602 = .ok (.iaload, 1) := by decide +kernel
theorem od_0_603 : decode (ov_byt 0) 603 = .ok (.aload_n 0, 1) := by decide +kernel
theorem od_0_604 : decode (ov_byt 0) 604 = .ok (.iload_n 3, 1) := by decide +kernel
theorem od_0_605 : decode (ov_byt 0) 605 = .ok (.iconst 2, 1) := by decide +kernel
theorem od_0_606 : decode (ov_byt 0) 606 = .ok (.iadd, 1) := by decide +kernel
theorem od_0_607 : decode (ov_byt 0) 607 = .ok (.iaload, 1) := by decide +kernel
theorem oc_0_608 : ov_CL 0 608 1 100 := ⟨84, (682, 683, 684), (by show decode (ov_byt 0) 608 = Except.ok (Instr.invokevirtual 84, 3); decide +kernel), by decide +kernel⟩
theorem od_0_611 : decode (ov_byt 0) 611 = .ok (.aload_n 2, 1) := by decide +kernel
theorem od_0_612 : decode (ov_byt 0) 612 = .ok (.aload_n 0, 1) := by decide +kernel
theorem od_0_613 : decode (ov_byt 0) 613 = .ok (.iload_n 3, 1) := by decide +kernel
theorem od_0_614 : decode (ov_byt 0) 614 = .ok (.iconst 1, 1) := by decide +kernel
theorem od_0_615 : decode (ov_byt 0) 615 = .ok (.iadd, 1) := by decide +kernel
theorem od_0_616 : decode (ov_byt 0) 616 = .ok (.iaload, 1) := by decide +kernel
theorem od_0_617 : decode (ov_byt 0) 617 = .ok (.aload_n 0, 1) := by decide +kernel
theorem od_0_618 : decode (ov_byt 0) 618 = .ok (.iload_n 3, 1) := by decide +kernel
theorem od_0_619 : decode (ov_byt 0) 619 = .ok (.iconst 2, 1) := by decide +kernel
theorem od_0_620 : decode (ov_byt 0) 620 = .ok (.iadd, 1) := by decide +kernel
theorem od_0_621 : decode (ov_byt 0) 621 = .ok (.iaload, 1) := by decide +kernel
theorem oc_0_622 : ov_CL 0 622 1 200 := ⟨87, (1226, 1227, 1228), (by show decode (ov_byt 0) 622 = Except.ok (Instr.invokevirtual 87, 3); decide +kernel), by decide +kernel⟩
theorem od_0_628 : decode (ov_byt 0) 628 = .ok (.iconst 0, 1) := by decide +kernel
theorem od_0_629 : decode (ov_byt 0) 629 = .ok (.ireturn, 1) := by decide +kernel
theorem od_0_625 : decode (ov_byt 0) 625 = .ok (.if_icmp .eq 486, 3) := by decide +kernel
theorem od_0_630 : decode (ov_byt 0) 630 = .ok (.aload_n 1, 1) := by decide +kernel
theorem od_0_631 : decode (ov_byt 0) 631 = .ok (.aload_n 0, 1) := by decide +kernel
theorem od_0_632 : decode (ov_byt 0) 632 = .ok (.iload_n 3, 1) := by decide +kernel
theorem od_0_633 : decode (ov_byt 0) 633 = .ok (.iconst 1, 1) := by decide +kernel
theorem od_0_634 : decode (ov_byt 0) 634 = .ok (.iadd, 1) := by decide +kernel
theorem od_0_635 : decode (ov_byt 0) 635 = .ok (.iaload, 1) := by decide +kernel
theorem od_0_643 : decode (ov_byt 0) 643 = .ok (.iconst 0, 1) := by decide +kernel
theorem oc_0_644 : ov_CL 0 644 1 103 := ⟨88, (694, 695, 696), (by show decode (ov_byt 0) 644 = Except.ok (Instr.invokevirtual 88, 3); decide +kernel), by decide +kernel⟩
theorem od_0_647 : decode (ov_byt 0) 647 = .ok (.aload_n 2, 1) := by decide +kernel
theorem od_0_648 : decode (ov_byt 0) 648 = .ok (.aload_n 0, 1) := by decide +kernel
theorem od_0_649 : decode (ov_byt 0) 649 = .ok (.iload_n 3, 1) := by decide +kernel
theorem od_0_650 : decode (ov_byt 0) 650 = .ok (.iconst 1, 1) := by decide +kernel
theorem od_0_651 : decode (ov_byt 0) 651 = .ok (.iadd, 1) := by decide +kernel
theorem od_0_652 : decode (ov_byt 0) 652 = .ok (.iaload, 1) := by decide +kernel
theorem od_0_660 : decode (ov_byt 0) 660 = .ok (.iconst 0, 1) := by decide +kernel
theorem oc_0_661 : ov_CL 0 661 1 202 := ⟨92, (1234, 1235, 1236), (by show decode (ov_byt 0) 661 = Except.ok (Instr.invokevirtual 92, 3); decide +kernel), by decide +kernel⟩
theorem od_0_667 : decode (ov_byt 0) 667 = .ok (.iconst 0, 1) := by decide +kernel
theorem od_0_668 : decode (ov_byt 0) 668 = .ok (.ireturn, 1) := by decide +kernel
theorem od_0_664 : decode (ov_byt 0) 664 = .ok (.if_icmp .eq 447, 3) := by decide +kernel
theorem od_0_656 : decode (ov_byt 0) 656 = .ok (.iconst 1, 1) := by decide +kernel
theorem od_0_657 : decode (ov_byt 0) 657 = .ok (.goto 4, 3) := by decide +kernel
theorem od_0_653 : decode (ov_byt 0) 653 = .ok (.ifCond .eq 7, 3) := by decide +kernel
theorem od_0_639 : decode (ov_byt 0) 639 = .ok (.iconst 1, 1) := by decide +kernel
theorem od_0_640 : decode (ov_byt 0) 640 = .ok (.goto 4, 3) := by decide +kernel
theorem od_0_636 : decode (ov_byt 0) 636 = .ok (.ifCond .eq 7, 3) := by decide +kernel
theorem od_0_669 : decode (ov_byt 0) 669 = .ok (.aload_n 1, 1) := by decide +kernel
theorem od_0_670 : decode (ov_byt 0) 670 = .ok (.aload_n 0, 1) := by decide +kernel
theorem od_0_671 : decode (ov_byt 0) 671 = .ok (.iload_n 3, 1) := by decide +kernel
theorem od_0_672 : decode (ov_byt 0) 672 = .ok (.iconst 1, 1) := by decide +kernel
theorem od_0_673 : decode (ov_byt 0) 673 = .ok (.iadd, 1) := by decide +kernel
theorem od_0_674 : decode (ov_byt 0) 674 = .ok (.iaload, 1) := by decide +kernel
theorem oc_0_675 : ov_CL 0 675 1 110 := ⟨93, (728, 729, 730), (by show decode (ov_byt 0) 675 = Except.ok (Instr.invokevirtual 93, 3); decide +kernel), by decide +kernel⟩
theorem od_0_678 : decode (ov_byt 0) 678 = .ok (.aload_n 2, 1) := by decide +kernel
theorem od_0_679 : decode (ov_byt 0) 679 = .ok (.aload_n 0, 1) := by decide +kernel
theorem od_0_680 : decode (ov_byt 0) 680 = .ok (.iload_n 3, 1) := by decide +kernel
theorem od_0_681 : decode (ov_byt 0) 681 = .ok (.iconst 1, 1) := by decide +kernel
theorem od_0_682 : decode (ov_byt 0) 682 = .ok (.iadd, 1) := by decide +kernel
theorem od_0_683 : decode (ov_byt 0) 683 = .ok (.iaload, 1) := by decide +kernel
theorem oc_0_684 : ov_CL 0 684 1 206 := ⟨96, (1250, 1251, 1252), (by show decode (ov_byt 0) 684 = Except.ok (Instr.invokevirtual 96, 3); decide +kernel), by decide +kernel⟩
theorem od_0_690 : decode (ov_byt 0) 690 = .ok (.iconst 0, 1) := by decide +kernel
theorem od_0_691 : decode (ov_byt 0) 691 = .ok (.ireturn, 1) := by decide +kernel
theorem od_0_687 : decode (ov_byt 0) 687 = .ok (.if_icmp .eq 424, 3) := by decide +kernel
theorem od_0_692 : decode (ov_byt 0) 692 = .ok (.aload_n 1, 1) := by decide +kernel
theorem od_0_693 : decode (ov_byt 0) 693 = .ok (.aload_n 0, 1) := by decide +kernel
theorem od_0_694 : decode (ov_byt 0) 694 = .ok (.iload_n 3, 1) := by decide +kernel
theorem od_0_695 : decode (ov_byt 0) 695 = .ok (.iconst 1, 1) := by decide +kernel
theorem od_0_696 : decode (ov_byt 0) 696 = .ok (.iadd, 1) := by decide +kernel
theorem od_0_697 : decode (ov_byt 0) 697 = .ok (.iaload, 1) := by decide +kernel
theorem oc_0_698 : ov_CL 0 698 1 112 := ⟨97, (736, 737, 738), (by show decode (ov_byt 0) 698 = Except.ok (Instr.invokevirtual 97, 3); decide +kernel), by decide +kernel⟩
theorem od_0_701 : decode (ov_byt 0) 701 = .ok (.aload_n 2, 1) := by decide +kernel
theorem od_0_702 : decode (ov_byt 0) 702 = .ok (.aload_n 0, 1) := by decide +kernel
theorem od_0_703 : decode (ov_byt 0) 703 = .ok (.iload_n 3, 1) := by decide +kernel
theorem od_0_704 : decode (ov_byt 0) 704 = .ok (.iconst 1, 1) := by decide +kernel
theorem od_0_705 : decode (ov_byt 0) 705 = .ok (.iadd, 1) := by decide +kernel
theorem od_0_706 : decode (ov_byt 0) 706 = .ok (.iaload, 1) := by decide +kernel
theorem oc_0_707 : ov_CL 0 707 1 207 := ⟨100, (1254, 1255, 1256), (by show decode (ov_byt 0) 707 = Except.ok (Instr.invokevirtual 100, 3); decide +kernel), by decide +kernel⟩
theorem od_0_713 : decode (ov_byt 0) 713 = .ok (.iconst 0, 1) := by decide +kernel
theorem od_0_714 : decode (ov_byt 0) 714 = .ok (.ireturn, 1) := by decide +kernel
theorem od_0_710 : decode (ov_byt 0) 710 = .ok (.if_icmp .eq 401, 3) := by decide +kernel
theorem od_0_715 : decode (ov_byt 0) 715 = .ok (.aload_n 1, 1) := by decide +kernel
theorem od_0_716 : decode (ov_byt 0) 716 = .ok (.aload_n 0, 1) := by decide +kernel
theorem od_0_717 : decode (ov_byt 0) 717 = .ok (.iload_n 3, 1) := by decide +kernel
theorem od_0_718 : decode (ov_byt 0) 718 = .ok (.iconst 1, 1) := by decide +kernel
theorem od_0_719 : decode (ov_byt 0) 719 = .ok (.iadd, 1) := by decide +kernel
theorem od_0_720 : decode (ov_byt 0) 720 = .ok (.iaload, 1) := by decide +kernel
theorem od_0_721 : decode (ov_byt 0) 721 = .ok (.aload_n 0, 1) := by decide +kernel
theorem od_0_722 : decode (ov_byt 0) 722 = .ok (.iload_n 3, 1) := by decide +kernel
theorem od_0_723 : decode (ov_byt 0) 723 = .ok (.iconst 2, 1) := by decide +kernel
theorem od_0_724 : decode (ov_byt 0) 724 = .ok (.iadd, 1) := by decide +kernel
theorem od_0_725 : decode (ov_byt 0) 725 = .ok (.iaload, 1) := by decide +kernel
theorem od_0_726 : decode (ov_byt 0) 726 = .ok (.i2l, 1) := by decide +kernel
theorem od_0_727 : decode (ov_byt 0) 727 = .ok (.bipush 32, 2) := by decide +kernel
theorem od_0_729 : decode (ov_byt 0) 729 = .ok (.lshl, 1) := by decide +kernel
theorem od_0_730 : decode (ov_byt 0) 730 = .ok (.aload_n 0, 1) := by decide +kernel
theorem od_0_731 : decode (ov_byt 0) 731 = .ok (.iload_n 3, 1) := by decide +kernel
theorem od_0_732 : decode (ov_byt 0) 732 = .ok (.iconst 3, 1) := by decide +kernel
theorem od_0_733 : decode (ov_byt 0) 733 = .ok (.iadd, 1) := by decide +kernel
theorem od_0_734 : decode (ov_byt 0) 734 = .ok (.iaload, 1) := by decide +kernel
theorem od_0_735 : decode (ov_byt 0) 735 = .ok (.i2l, 1) := by decide +kernel
theorem ok_0_736 : ∃ w, ov_find ov_k2t (101 * 32 + ov_oc 0) = some ((4294967295 : Int64), w) := ⟨1335, by decide +kernel⟩
theorem od_0_736 : decode (ov_byt 0) 736 = .ok (.ldc2_w 101, 3) := by decide +kernel
theorem od_0_739 : decode (ov_byt 0) 739 = .ok (.land, 1) := by decide +kernel
theorem od_0_740 : decode (ov_byt 0) 740 = .ok (.lor, 1) := by decide +kernel
theorem oc_0_741 : ov_CL 0 741 1 114 := ⟨103, (746, 747, 748), (by show decode (ov_byt 0) 741 = Except.ok (Instr.invokevirtual 103, 3); decide +kernel), by decide +kernel⟩
theorem od_0_744 : decode (ov_byt 0) 744 = .ok (.aload_n 2, 1) := by decide +kernel
theorem od_0_745 : decode (ov_byt 0) 745 = .ok (.aload_n 0, 1) := by decide +kernel
theorem od_0_746 : decode (ov_byt 0) 746 = .ok (.iload_n 3, 1) := by decide +kernel
theorem od_0_747 : decode (ov_byt 0) 747 = .ok (.iconst 1, 1) := by decide +kernel
theorem od_0_748 : decode (ov_byt 0) 748 = .ok (.iadd, 1) := by decide +kernel
theorem od_0_749 : decode (ov_byt 0) 749 = .ok (.iaload, 1) := by decide +kernel
theorem od_0_750 : decode (ov_byt 0) 750 = .ok (.aload_n 0, 1) := by decide +kernel
theorem od_0_751 : decode (ov_byt 0) 751 = .ok (.iload_n 3, 1) := by decide +kernel
theorem od_0_752 : decode (ov_byt 0) 752 = .ok (.iconst 2, 1) := by decide +kernel
theorem od_0_753 : decode (ov_byt 0) 753 = .ok (.iadd, 1) := by decide +kernel
theorem od_0_754 : decode (ov_byt 0) 754 = .ok (.iaload, 1) := by decide +kernel
theorem od_0_755 : decode (ov_byt 0) 755 = .ok (.i2l, 1) := by decide +kernel
theorem od_0_756 : decode (ov_byt 0) 756 = .ok (.bipush 32, 2) := by decide +kernel
theorem od_0_758 : decode (ov_byt 0) 758 = .ok (.lshl, 1) := by decide +kernel
theorem od_0_759 : decode (ov_byt 0) 759 = .ok (.aload_n 0, 1) := by decide +kernel
theorem od_0_760 : decode (ov_byt 0) 760 = .ok (.iload_n 3, 1) := by decide +kernel
theorem od_0_761 : decode (ov_byt 0) 761 = .ok (.iconst 3, 1) := by decide +kernel
theorem od_0_762 : decode (ov_byt 0) 762 = .ok (.iadd, 1) := by decide +kernel
theorem od_0_763 : decode (ov_byt 0) 763 = .ok (.iaload, 1) := by decide +kernel
theorem od_0_764 : decode (ov_byt 0) 764 = .ok (.i2l, 1) := by decide +kernel
theorem ok_0_765 : ∃ w, ov_find ov_k2t (101 * 32 + ov_oc 0) = some ((4294967295 : Int64), w) := ⟨1335, by decide +kernel⟩
theorem od_0_765 : decode (ov_byt 0) 765 = .ok (.ldc2_w 101, 3) := by decide +kernel
theorem od_0_768 : decode (ov_byt 0) 768 = .ok (.land, 1) := by decide +kernel
theorem od_0_769 : decode (ov_byt 0) 769 = .ok (.lor, 1) := by decide +kernel
theorem oc_0_770 : ov_CL 0 770 1 208 := ⟨107, (1258, 1259, 1260), (by show decode (ov_byt 0) 770 = Except.ok (Instr.invokevirtual 107, 3); decide +kernel), by decide +kernel⟩
theorem od_0_776 : decode (ov_byt 0) 776 = .ok (.iconst 0, 1) := by decide +kernel
theorem od_0_777 : decode (ov_byt 0) 777 = .ok (.ireturn, 1) := by decide +kernel
theorem od_0_773 : decode (ov_byt 0) 773 = .ok (.if_icmp .eq 338, 3) := by decide +kernel
theorem od_0_778 : decode (ov_byt 0) 778 = .ok (.aload_n 1, 1) := by decide +kernel
theorem od_0_779 : decode (ov_byt 0) 779 = .ok (.aload_n 0, 1) := by decide +kernel
theorem od_0_780 : decode (ov_byt 0) 780 = .ok (.iload_n 3, 1) := by decide +kernel
theorem od_0_781 : decode (ov_byt 0) 781 = .ok (.iconst 1, 1) := by decide +kernel
theorem od_0_782 : decode (ov_byt 0) 782 = .ok (.iadd, 1) := by decide +kernel
theorem od_0_783 : decode (ov_byt 0) 783 = .ok (.iaload, 1) := by decide +kernel
theorem od_0_784 : decode (ov_byt 0) 784 = .ok (.aload_n 0, 1) := by decide +kernel
theorem od_0_785 : decode (ov_byt 0) 785 = .ok (.iload_n 3, 1) := by decide +kernel
theorem od_0_786 : decode (ov_byt 0) 786 = .ok (.iconst 2, 1) := by decide +kernel
theorem od_0_787 : decode (ov_byt 0) 787 = .ok (.iadd, 1) := by decide +kernel
theorem od_0_788 : decode (ov_byt 0) 788 = .ok (.iaload, 1) := by decide +kernel
theorem od_0_796 : decode (ov_byt 0) 796 = .ok (.iconst 0, 1) := by decide +kernel
theorem oc_0_797 : ov_CL 0 797 1 118 := ⟨108, (764, 765, 766), (by show decode (ov_byt 0) 797 = Except.ok (Instr.invokevirtual 108, 3); decide +kernel), by decide +kernel⟩
theorem od_0_800 : decode (ov_byt 0) 800 = .ok (.aload_n 2, 1) := by decide +kernel
theorem od_0_801 : decode (ov_byt 0) 801 = .ok (.aload_n 0, 1) := by decide +kernel
theorem od_0_802 : decode (ov_byt 0) 802 = .ok (.iload_n 3, 1) := by decide +kernel
theorem od_0_803 : decode (ov_byt 0) 803 = .ok (.iconst 1, 1) := by decide +kernel
theorem od_0_804 : decode (ov_byt 0) 804 = .ok (.iadd, 1) := by decide +kernel
theorem od_0_805 : decode (ov_byt 0) 805 = .ok (.iaload, 1) := by decide +kernel
theorem od_0_806 : decode (ov_byt 0) 806 = .ok (.aload_n 0, 1) := by decide +kernel
theorem od_0_807 : decode (ov_byt 0) 807 = .ok (.iload_n 3, 1) := by decide +kernel
theorem od_0_808 : decode (ov_byt 0) 808 = .ok (.iconst 2, 1) := by decide +kernel
theorem od_0_809 : decode (ov_byt 0) 809 = .ok (.iadd, 1) := by decide +kernel
theorem od_0_810 : decode (ov_byt 0) 810 = .ok (.iaload, 1) := by decide +kernel
theorem od_0_818 : decode (ov_byt 0) 818 = .ok (.iconst 0, 1) := by decide +kernel
theorem oc_0_819 : ov_CL 0 819 1 211 := ⟨112, (1271, 1272, 1273), (by show decode (ov_byt 0) 819 = Except.ok (Instr.invokevirtual 112, 3); decide +kernel), by decide +kernel⟩
theorem od_0_825 : decode (ov_byt 0) 825 = .ok (.iconst 0, 1) := by decide +kernel
theorem od_0_826 : decode (ov_byt 0) 826 = .ok (.ireturn, 1) := by decide +kernel
theorem od_0_822 : decode (ov_byt 0) 822 = .ok (.if_icmp .eq 289, 3) := by decide +kernel
theorem od_0_814 : decode (ov_byt 0) 814 = .ok (.iconst 1, 1) := by decide +kernel
theorem od_0_815 : decode (ov_byt 0) 815 = .ok (.goto 4, 3) := by decide +kernel
theorem od_0_811 : decode (ov_byt 0) 811 = .ok (.ifCond .eq 7, 3) := by decide +kernel
theorem od_0_792 : decode (ov_byt 0) 792 = .ok (.iconst 1, 1) := by decide +kernel
theorem od_0_793 : decode (ov_byt 0) 793 = .ok (.goto 4, 3) := by decide +kernel
theorem od_0_789 : decode (ov_byt 0) 789 = .ok (.ifCond .eq 7, 3) := by decide +kernel
theorem od_0_827 : decode (ov_byt 0) 827 = .ok (.aload_n 1, 1) := by decide +kernel
