theorem od_137_21 : decode (ov_byt 137) 21 = .ok (.iadd, 1) := by decide +kernel
theorem od_137_22 : decode (ov_byt 137) 22 = .ok (.i2l, 1) := by decide +kernel
theorem od_137_23 : decode (ov_byt 137) 23 = .ok (.ldiv, 1) := by decide +kernel
theorem od_137_24 : decode (ov_byt 137) 24 = .ok (.lstore_n 2, 1) := by decide +kernel
theorem od_137_25 : decode (ov_byt 137) 25 = .ok (.iinc 4 1, 3) := by decide +kernel
theorem od_137_28 : decode (ov_byt 137) 28 = .ok (.goto (-23), 3) := by decide +kernel
theorem od_137_8 : decode (ov_byt 137) 8 = .ok (.if_icmp .ge 23, 3) := by decide +kernel
theorem od_137_31 : decode (ov_byt 137) 31 = .ok (.lload_n 2, 1) := by decide +kernel
theorem od_137_32 : decode (ov_byt 137) 32 = .ok (.lreturn, 1) := by decide +kernel
theorem od_138_0 : decode (ov_byt 138) 0 = .ok (.aload_n 0, 1) := by decide +kernel
theorem og_138_1 : ov_GF 138 1 0 11 := ⟨78, false, 273, by decide +kernel, by decide +kernel⟩
theorem od_138_4 : decode (ov_byt 138) 4 = .ok (.lstore_n 3, 1) := by decide +kernel
theorem od_138_5 : decode (ov_byt 138) 5 = .ok (.aload_n 0, 1) := by decide +kernel
theorem od_138_6 : decode (ov_byt 138) 6 = .ok (.lload_n 1, 1) := by decide +kernel
theorem op_138_7 : ov_PF 138 7 0 11 := ⟨78, 273, by decide +kernel, by decide +kernel⟩
theorem od_138_10 : decode (ov_byt 138) 10 = .ok (.lload_n 3, 1) := by decide +kernel
theorem od_138_11 : decode (ov_byt 138) 11 = .ok (.lreturn, 1) := by decide +kernel
theorem od_144_0 : decode (ov_byt 144) 0 = .ok (.lload_n 0, 1) := by decide +kernel
theorem od_144_1 : decode (ov_byt 144) 1 = .ok (.lload_n 2, 1) := by decide +kernel
theorem od_144_2 : decode (ov_byt 144) 2 = .ok (.lcmp, 1) := by decide +kernel
theorem od_144_17 : decode (ov_byt 144) 17 = .ok (.iconst 0, 1) := by decide +kernel
theorem od_144_18 : decode (ov_byt 144) 18 = .ok (.ireturn, 1) := by decide +kernel
theorem od_144_6 : decode (ov_byt 144) 6 = .ok (.lload_n 0, 1) := by decide +kernel
theorem od_144_7 : decode (ov_byt 144) 7 = .ok (.lload 4, 2) := by decide +kernel
theorem od_144_9 : decode (ov_byt 144) 9 = .ok (.lcmp, 1) := by decide +kernel
theorem od_144_13 : decode (ov_byt 144) 13 = .ok (.iconst 1, 1) := by decide +kernel
theorem od_144_14 : decode (ov_byt 144) 14 = .ok (.goto 4, 3) := by decide +kernel
theorem od_144_10 : decode (ov_byt 144) 10 = .ok (.ifCond .gt 7, 3) := by decide +kernel
theorem od_144_3 : decode (ov_byt 144) 3 = .ok (.ifCond .lt 14, 3) := by decide +kernel
theorem od_145_0 : decode (ov_byt 145) 0 = .ok (.aload_n 0, 1) := by decide +kernel
theorem od_145_1 : decode (ov_byt 145) 1 = .ok (.iconst 0, 1) := by decide +kernel
theorem op_145_2 : ov_PF 145 2 8 0 := ⟨83, 871, by decide +kernel, by decide +kernel⟩
theorem od_145_5 : decode (ov_byt 145) 5 = .ok (.aload_n 0, 1) := by decide +kernel
theorem og_145_6 : ov_GF 145 6 8 2 := ⟨101, false, 873, by decide +kernel, by decide +kernel⟩
theorem od_145_9 : decode (ov_byt 145) 9 = .ok (.istore_n 1, 1) := by decide +kernel
theorem od_145_10 : decode (ov_byt 145) 10 = .ok (.aload_n 0, 1) := by decide +kernel
theorem od_145_11 : decode (ov_byt 145) 11 = .ok (.iconst 0, 1) := by decide +kernel
theorem op_145_12 : ov_PF 145 12 8 2 := ⟨101, 873, by decide +kernel, by decide +kernel⟩
theorem od_145_15 : decode (ov_byt 145) 15 = .ok (.iload_n 1, 1) := by decide +kernel
theorem od_145_16 : decode (ov_byt 145) 16 = .ok (.ireturn, 1) := by decide +kernel
theorem od_149_0 : decode (ov_byt 149) 0 = .ok (.iconst 0, 1) := by decide +kernel
theorem od_149_1 : decode (ov_byt 149) 1 = .ok (.istore_n 1, 1) := by decide +kernel
theorem od_149_2 : decode (ov_byt 149) 2 = .ok (.iconst 0, 1) := by decide +kernel
theorem od_149_3 : decode (ov_byt 149) 3 = .ok (.istore_n 2, 1) := by decide +kernel
theorem od_149_4 : decode (ov_byt 149) 4 = .ok (.iload_n 2, 1) := by decide +kernel
theorem od_149_5 : decode (ov_byt 149) 5 = .ok (.aload_n 0, 1) := by decide +kernel
theorem og_149_6 : ov_GF 149 6 8 13 := ⟨107, false, 884, by decide +kernel, by decide +kernel⟩
theorem od_149_12 : decode (ov_byt 149) 12 = .ok (.iload_n 1, 1) := by decide +kernel
theorem od_149_13 : decode (ov_byt 149) 13 = .ok (.iconst 1, 1) := by decide +kernel
theorem od_149_14 : decode (ov_byt 149) 14 = .ok (.aload_n 0, 1) := by decide +kernel
theorem og_149_15 : ov_GF 149 15 8 14 := ⟨28, true, 885, by decide +kernel, by decide +kernel⟩
theorem od_149_18 : decode (ov_byt 149) 18 = .ok (.iload_n 2, 1) := by decide +kernel
theorem od_149_19 : decode (ov_byt 149) 19 = .ok (.iaload, 1) := by decide +kernel
theorem od_149_20 : decode (ov_byt 149) 20 = .ok (.ishl, 1) := by decide +kernel
theorem od_149_21 : decode (ov_byt 149) 21 = .ok (.ior, 1) := by decide +kernel
theorem od_149_22 : decode (ov_byt 149) 22 = .ok (.istore_n 1, 1) := by decide +kernel
theorem od_149_23 : decode (ov_byt 149) 23 = .ok (.iinc 2 1, 3) := by decide +kernel
theorem od_149_26 : decode (ov_byt 149) 26 = .ok (.goto (-22), 3) := by decide +kernel
theorem od_149_9 : decode (ov_byt 149) 9 = .ok (.if_icmp .ge 20, 3) := by decide +kernel
theorem od_149_29 : decode (ov_byt 149) 29 = .ok (.iconst 0, 1) := by decide +kernel
theorem od_149_30 : decode (ov_byt 149) 30 = .ok (.istore_n 2, 1) := by decide +kernel
theorem od_149_31 : decode (ov_byt 149) 31 = .ok (.iload_n 2, 1) := by decide +kernel
theorem od_149_32 : decode (ov_byt 149) 32 = .ok (.aload_n 0, 1) := by decide +kernel
theorem og_149_33 : ov_GF 149 33 8 15 := ⟨110, false, 886, by decide +kernel, by decide +kernel⟩
theorem od_149_39 : decode (ov_byt 149) 39 = .ok (.iload_n 1, 1) := by decide +kernel
theorem od_149_40 : decode (ov_byt 149) 40 = .ok (.iconst 1, 1) := by decide +kernel
theorem od_149_41 : decode (ov_byt 149) 41 = .ok (.aload_n 0, 1) := by decide +kernel
theorem og_149_42 : ov_GF 149 42 8 16 := ⟨31, true, 887, by decide +kernel, by decide +kernel⟩
theorem od_149_45 : decode (ov_byt 149) 45 = .ok (.iload_n 2, 1) := by decide +kernel
theorem od_149_46 : decode (ov_byt 149) 46 = .ok (.iaload, 1) := by decide +kernel
theorem od_149_47 : decode (ov_byt 149) 47 = .ok (.ishl, 1) := by decide +kernel
theorem od_149_48 : decode (ov_byt 149) 48 = .ok (.ior, 1) := by decide +kernel
theorem od_149_49 : decode (ov_byt 149) 49 = .ok (.istore_n 1, 1) := by decide +kernel
theorem od_149_50 : decode (ov_byt 149) 50 = .ok (.iinc 2 1, 3) := by decide +kernel
theorem od_149_53 : decode (ov_byt 149) 53 = .ok (.goto (-22), 3) := by decide +kernel
theorem od_149_36 : decode (ov_byt 149) 36 = .ok (.if_icmp .ge 20, 3) := by decide +kernel
theorem od_149_56 : decode (ov_byt 149) 56 = .ok (.iload_n 1, 1) := by decide +kernel
theorem od_149_57 : decode (ov_byt 149) 57 = .ok (.ireturn, 1) := by decide +kernel
theorem od_152_0 : decode (ov_byt 152) 0 = .ok (.iload_n 0, 1) := by decide +kernel
theorem od_152_1 : decode (ov_byt 152) 1 = .ok (.iload_n 1, 1) := by decide +kernel
theorem od_152_2 : decode (ov_byt 152) 2 = .ok (.ishr, 1) := by decide +kernel
theorem od_152_3 : decode (ov_byt 152) 3 = .ok (.iconst 1, 1) := by decide +kernel
theorem od_152_4 : decode (ov_byt 152) 4 = .ok (.iand, 1) := by decide +kernel
theorem od_152_5 : decode (ov_byt 152) 5 = .ok (.iconst 1, 1) := by decide +kernel
theorem od_152_13 : decode (ov_byt 152) 13 = .ok (.iconst 0, 1) := by decide +kernel
theorem od_152_14 : decode (ov_byt 152) 14 = .ok (.ireturn, 1) := by decide +kernel
theorem od_152_9 : decode (ov_byt 152) 9 = .ok (.iconst 1, 1) := by decide +kernel
theorem od_152_10 : decode (ov_byt 152) 10 = .ok (.goto 4, 3) := by decide +kernel
theorem od_152_6 : decode (ov_byt 152) 6 = .ok (.if_icmp .ne 7, 3) := by decide +kernel
theorem od_158_0 : decode (ov_byt 158) 0 = .ok (.iconst 0, 1) := by decide +kernel
theorem od_158_1 : decode (ov_byt 158) 1 = .ok (.istore_n 3, 1) := by decide +kernel
theorem od_158_2 : decode (ov_byt 158) 2 = .ok (.iload_n 3, 1) := by decide +kernel
theorem od_158_3 : decode (ov_byt 158) 3 = .ok (.iload_n 2, 1) := by decide +kernel
theorem od_158_7 : decode (ov_byt 158) 7 = .ok (.aload_n 1, 1) := by decide +kernel
theorem od_158_8 : decode (ov_byt 158) 8 = .ok (.iload_n 3, 1) := by decide +kernel
theorem od_158_9 : decode (ov_byt 158) 9 = .ok (.aload_n 0, 1) := by decide +kernel
theorem od_158_10 : decode (ov_byt 158) 10 = .ok (.iload_n 3, 1) := by decide +kernel
theorem od_158_11 : decode (ov_byt 158) 11 = .ok (.iaload, 1) := by decide +kernel
theorem od_158_12 : decode (ov_byt 158) 12 = .ok (.iastore, 1) := by decide +kernel
theorem od_158_13 : decode (ov_byt 158) 13 = .ok (.iinc 3 1, 3) := by decide +kernel
theorem od_158_16 : decode (ov_byt 158) 16 = .ok (.goto (-14), 3) := by decide +kernel
theorem od_158_4 : decode (ov_byt 158) 4 = .ok (.if_icmp .ge 15, 3) := by decide +kernel
theorem od_158_19 : decode (ov_byt 158) 19 = .ok (.return_, 1) := by decide +kernel
theorem od_160_0 : decode (ov_byt 160) 0 = .ok (.iconst 0, 1) := by decide +kernel
theorem od_160_1 : decode (ov_byt 160) 1 = .ok (.istore_n 2, 1) := by decide +kernel
theorem od_160_2 : decode (ov_byt 160) 2 = .ok (.iconst 0, 1) := by decide +kernel
theorem od_160_3 : decode (ov_byt 160) 3 = .ok (.istore_n 3, 1) := by decide +kernel
theorem od_160_4 : decode (ov_byt 160) 4 = .ok (.iload_n 3, 1) := by decide +kernel
theorem od_160_5 : decode (ov_byt 160) 5 = .ok (.aload_n 0, 1) := by decide +kernel
theorem og_160_6 : ov_GF 160 6 8 7 := ⟨87, false, 878, by decide +kernel, by decide +kernel⟩
theorem od_160_12 : decode (ov_byt 160) 12 = .ok (.iload_n 2, 1) := by decide +kernel
theorem od_160_13 : decode (ov_byt 160) 13 = .ok (.aload_n 1, 1) := by decide +kernel
theorem od_160_14 : decode (ov_byt 160) 14 = .ok (.iconst 0, 1) := by decide +kernel
theorem od_160_15 : decode (ov_byt 160) 15 = .ok (.iload_n 3, 1) := by decide +kernel
theorem od_160_16 : decode (ov_byt 160) 16 = .ok (.iadd, 1) := by decide +kernel
theorem od_160_17 : decode (ov_byt 160) 17 = .ok (.iaload, 1) := by decide +kernel
theorem od_160_18 : decode (ov_byt 160) 18 = .ok (.bipush (-9), 2) := by decide +kernel
theorem od_160_27 : decode (ov_byt 160) 27 = .ok (.iconst 1, 1) := by decide +kernel
theorem od_160_28 : decode (ov_byt 160) 28 = .ok (.iload_n 3, 1) := by decide +kernel
theorem od_160_29 : decode (ov_byt 160) 29 = .ok (.ishl, 1) := by decide +kernel
theorem od_160_30 : decode (ov_byt 160) 30 = .ok (.ior, 1) := by decide +kernel
theorem od_160_31 : decode (ov_byt 160) 31 = .ok (.istore_n 2, 1) := by decide +kernel
theorem od_160_32 : decode (ov_byt 160) 32 = .ok (.iinc 3 1, 3) := by decide +kernel
theorem od_160_35 : decode (ov_byt 160) 35 = .ok (.goto (-31), 3) := by decide +kernel
theorem od_160_23 : decode (ov_byt 160) 23 = .ok (.iconst 0, 1) := by decide +kernel
theorem od_160_24 : decode (ov_byt 160) 24 = .ok (.goto 6, 3) := by decide +kernel
theorem od_160_20 : decode (ov_byt 160) 20 = .ok (.if_icmp .ne 7, 3) := by decide +kernel
theorem od_160_9 : decode (ov_byt 160) 9 = .ok (.if_icmp .ge 29, 3) := by decide +kernel
theorem od_160_38 : decode (ov_byt 160) 38 = .ok (.iload_n 2, 1) := by decide +kernel
theorem od_160_39 : decode (ov_byt 160) 39 = .ok (.ireturn, 1) := by decide +kernel
theorem od_162_0 : decode (ov_byt 162) 0 = .ok (.aload_n 1, 1) := by decide +kernel
theorem od_162_1 : decode (ov_byt 162) 1 = .ok (.iconst 0, 1) := by decide +kernel
theorem od_162_2 : decode (ov_byt 162) 2 = .ok (.iload_n 2, 1) := by decide +kernel
theorem od_162_3 : decode (ov_byt 162) 3 = .ok (.iadd, 1) := by decide +kernel
theorem od_162_4 : decode (ov_byt 162) 4 = .ok (.iaload, 1) := by decide +kernel
theorem od_162_5 : decode (ov_byt 162) 5 = .ok (.istore_n 3, 1) := by decide +kernel
theorem od_162_6 : decode (ov_byt 162) 6 = .ok (.iload_n 3, 1) := by decide +kernel
theorem od_162_7 : decode (ov_byt 162) 7 = .ok (.bipush (-9), 2) := by decide +kernel
theorem od_162_16 : decode (ov_byt 162) 16 = .ok (.iconst 0, 1) := by decide +kernel
theorem od_162_17 : decode (ov_byt 162) 17 = .ok (.istore 4, 2) := by decide +kernel
theorem od_162_19 : decode (ov_byt 162) 19 = .ok (.iconst 0, 1) := by decide +kernel
theorem od_162_20 : decode (ov_byt 162) 20 = .ok (.istore 5, 2) := by decide +kernel
theorem od_162_22 : decode (ov_byt 162) 22 = .ok (.iload 5, 2) := by decide +kernel
theorem od_162_24 : decode (ov_byt 162) 24 = .ok (.aload_n 0, 1) := by decide +kernel
theorem og_162_25 : ov_GF 162 25 8 7 := ⟨87, false, 878, by decide +kernel, by decide +kernel⟩
theorem od_162_31 : decode (ov_byt 162) 31 = .ok (.aload_n 1, 1) := by decide +kernel
theorem od_162_32 : decode (ov_byt 162) 32 = .ok (.iconst 0, 1) := by decide +kernel
theorem od_162_33 : decode (ov_byt 162) 33 = .ok (.iload 5, 2) := by decide +kernel
theorem od_162_35 : decode (ov_byt 162) 35 = .ok (.iadd, 1) := by decide +kernel
theorem od_162_36 : decode (ov_byt 162) 36 = .ok (.iaload, 1) := by decide +kernel
theorem od_162_37 : decode (ov_byt 162) 37 = .ok (.istore 6, 2) := by decide +kernel
theorem od_162_39 : decode (ov_byt 162) 39 = .ok (.iload 4, 2) := by decide +kernel
theorem od_162_90 : decode (ov_byt 162) 90 = .ok (.iconst 0, 1) := by decide +kernel
theorem od_162_91 : decode (ov_byt 162) 91 = .ok (.istore 4, 2) := by decide +kernel
theorem od_162_93 : decode (ov_byt 162) 93 = .ok (.iinc 5 1, 3) := by decide +kernel
theorem od_162_96 : decode (ov_byt 162) 96 = .ok (.goto (-74), 3) := by decide +kernel
theorem od_162_44 : decode (ov_byt 162) 44 = .ok (.iload 5, 2) := by decide +kernel
theorem od_162_46 : decode (ov_byt 162) 46 = .ok (.iload_n 2, 1) := by decide +kernel
theorem od_162_86 : decode (ov_byt 162) 86 = .ok (.iconst 1, 1) := by decide +kernel
theorem od_162_87 : decode (ov_byt 162) 87 = .ok (.goto 4, 3) := by decide +kernel
theorem od_162_50 : decode (ov_byt 162) 50 = .ok (.iload 6, 2) := by decide +kernel
theorem od_162_52 : decode (ov_byt 162) 52 = .ok (.bipush (-9), 2) := by decide +kernel
theorem od_162_57 : decode (ov_byt 162) 57 = .ok (.aload_n 0, 1) := by decide +kernel
theorem og_162_58 : ov_GF 162 58 8 9 := ⟨19, true, 880, by decide +kernel, by decide +kernel⟩
theorem od_162_61 : decode (ov_byt 162) 61 = .ok (.iload 5, 2) := by decide +kernel
theorem od_162_63 : decode (ov_byt 162) 63 = .ok (.iaload, 1) := by decide +kernel
theorem od_162_64 : decode (ov_byt 162) 64 = .ok (.iconst 2, 1) := by decide +kernel
theorem od_162_68 : decode (ov_byt 162) 68 = .ok (.iload 6, 2) := by decide +kernel
theorem od_162_70 : decode (ov_byt 162) 70 = .ok (.bipush 6, 2) := by decide +kernel
theorem od_162_72 : decode (ov_byt 162) 72 = .ok (.irem, 1) := by decide +kernel
theorem od_162_73 : decode (ov_byt 162) 73 = .ok (.iload_n 3, 1) := by decide +kernel
theorem od_162_74 : decode (ov_byt 162) 74 = .ok (.bipush 6, 2) := by decide +kernel
theorem od_162_76 : decode (ov_byt 162) 76 = .ok (.irem, 1) := by decide +kernel
theorem od_162_80 : decode (ov_byt 162) 80 = .ok (.iload 6, 2) := by decide +kernel
theorem od_162_82 : decode (ov_byt 162) 82 = .ok (.iload_n 3, 1) := by decide +kernel
theorem od_162_83 : decode (ov_byt 162) 83 = .ok (.if_icmp .le 7, 3) := by decide +kernel
theorem od_162_77 : decode (ov_byt 162) 77 = .ok (.if_icmp .ne 9, 3) := by decide +kernel
theorem od_162_65 : decode (ov_byt 162) 65 = .ok (.if_icmp .eq 21, 3) := by decide +kernel
theorem od_162_54 : decode (ov_byt 162) 54 = .ok (.if_icmp .eq 32, 3) := by decide +kernel
theorem od_162_47 : decode (ov_byt 162) 47 = .ok (.if_icmp .eq 39, 3) := by decide +kernel
theorem od_162_41 : decode (ov_byt 162) 41 = .ok (.ifCond .eq 49, 3) := by decide +kernel
theorem od_162_28 : decode (ov_byt 162) 28 = .ok (.if_icmp .ge 71, 3) := by decide +kernel
theorem od_162_99 : decode (ov_byt 162) 99 = .ok (.iload 4, 2) := by decide +kernel
theorem od_162_101 : decode (ov_byt 162) 101 = .ok (.ireturn, 1) := by decide +kernel
theorem od_162_12 : decode (ov_byt 162) 12 = .ok (.iconst 1, 1) := by decide +kernel
theorem od_162_13 : decode (ov_byt 162) 13 = .ok (.goto 4, 3) := by decide +kernel
theorem od_162_9 : decode (ov_byt 162) 9 = .ok (.if_icmp .eq 7, 3) := by decide +kernel
theorem od_167_0 : decode (ov_byt 167) 0 = .ok (.iload_n 0, 1) := by decide +kernel
theorem od_167_9 : decode (ov_byt 167) 9 = .ok (.iload_n 0, 1) := by decide +kernel
theorem od_167_10 : decode (ov_byt 167) 10 = .ok (.ireturn, 1) := by decide +kernel
theorem od_167_4 : decode (ov_byt 167) 4 = .ok (.iload_n 0, 1) := by decide +kernel
theorem od_167_5 : decode (ov_byt 167) 5 = .ok (.ineg, 1) := by decide +kernel
theorem od_167_6 : decode (ov_byt 167) 6 = .ok (.goto 4, 3) := by decide +kernel
theorem od_167_1 : decode (ov_byt 167) 1 = .ok (.ifCond .ge 8, 3) := by decide +kernel
theorem od_168_0 : decode (ov_byt 168) 0 = .ok (.iconst 0, 1) := by decide +kernel
theorem od_168_1 : decode (ov_byt 168) 1 = .ok (.istore_n 2, 1) := by decide +kernel
theorem od_168_2 : decode (ov_byt 168) 2 = .ok (.iconst 0, 1) := by decide +kernel
theorem od_168_3 : decode (ov_byt 168) 3 = .ok (.istore_n 3, 1) := by decide +kernel
theorem od_168_4 : decode (ov_byt 168) 4 = .ok (.iload_n 3, 1) := by decide +kernel
theorem od_168_5 : decode (ov_byt 168) 5 = .ok (.aload_n 0, 1) := by decide +kernel
theorem og_168_6 : ov_GF 168 6 8 6 := ⟨154, false, 877, by decide +kernel, by decide +kernel⟩
theorem od_168_12 : decode (ov_byt 168) 12 = .ok (.iload_n 2, 1) := by decide +kernel
theorem od_168_13 : decode (ov_byt 168) 13 = .ok (.iconst 1, 1) := by decide +kernel
theorem od_168_14 : decode (ov_byt 168) 14 = .ok (.aload_n 1, 1) := by decide +kernel
theorem od_168_15 : decode (ov_byt 168) 15 = .ok (.bipush 7, 2) := by decide +kernel
theorem od_168_17 : decode (ov_byt 168) 17 = .ok (.iload_n 3, 1) := by decide +kernel
theorem od_168_18 : decode (ov_byt 168) 18 = .ok (.iadd, 1) := by decide +kernel
theorem od_168_19 : decode (ov_byt 168) 19 = .ok (.iaload, 1) := by decide +kernel
theorem od_168_20 : decode (ov_byt 168) 20 = .ok (.ishl, 1) := by decide +kernel
theorem od_168_21 : decode (ov_byt 168) 21 = .ok (.ior, 1) := by decide +kernel
theorem od_168_22 : decode (ov_byt 168) 22 = .ok (.istore_n 2, 1) := by decide +kernel
theorem od_168_23 : decode (ov_byt 168) 23 = .ok (.iinc 3 1, 3) := by decide +kernel
theorem od_168_26 : decode (ov_byt 168) 26 = .ok (.goto (-22), 3) := by decide +kernel
theorem od_168_9 : decode (ov_byt 168) 9 = .ok (.if_icmp .ge 20, 3) := by decide +kernel
theorem od_168_29 : decode (ov_byt 168) 29 = .ok (.iload_n 2, 1) := by decide +kernel
theorem od_168_30 : decode (ov_byt 168) 30 = .ok (.ireturn, 1) := by decide +kernel
theorem od_180_0 : decode (ov_byt 180) 0 = .ok (.iload_n 1, 1) := by decide +kernel
theorem od_180_28 : decode (ov_byt 180) 28 = .ok (.iload_n 0, 1) := by decide +kernel
theorem od_180_29 : decode (ov_byt 180) 29 = .ok (.bipush 6, 2) := by decide +kernel
theorem od_180_31 : decode (ov_byt 180) 31 = .ok (.irem, 1) := by decide +kernel
theorem od_180_40 : decode (ov_byt 180) 40 = .ok (.iload_n 0, 1) := by decide +kernel
theorem od_180_41 : decode (ov_byt 180) 41 = .ok (.iconst 1, 1) := by decide +kernel
theorem od_180_42 : decode (ov_byt 180) 42 = .ok (.isub, 1) := by decide +kernel
theorem od_180_43 : decode (ov_byt 180) 43 = .ok (.ireturn, 1) := by decide +kernel
theorem od_180_35 : decode (ov_byt 180) 35 = .ok (.bipush (-9), 2) := by decide +kernel
theorem od_180_37 : decode (ov_byt 180) 37 = .ok (.goto 6, 3) := by decide +kernel
theorem od_180_32 : decode (ov_byt 180) 32 = .ok (.ifCond .ne 8, 3) := by decide +kernel
theorem od_180_1 : decode (ov_byt 180) 1 = .ok (.tableswitch 76 0 2 #[27, 43, 60], 27) := by decide +kernel
theorem od_180_44 : decode (ov_byt 180) 44 = .ok (.iload_n 0, 1) := by decide +kernel
theorem od_180_45 : decode (ov_byt 180) 45 = .ok (.bipush 6, 2) := by decide +kernel
theorem od_180_47 : decode (ov_byt 180) 47 = .ok (.irem, 1) := by decide +kernel
theorem od_180_48 : decode (ov_byt 180) 48 = .ok (.iconst 5, 1) := by decide +kernel
theorem od_180_57 : decode (ov_byt 180) 57 = .ok (.iload_n 0, 1) := by decide +kernel
theorem od_180_58 : decode (ov_byt 180) 58 = .ok (.iconst 1, 1) := by decide +kernel
theorem od_180_59 : decode (ov_byt 180) 59 = .ok (.iadd, 1) := by decide +kernel
theorem od_180_60 : decode (ov_byt 180) 60 = .ok (.ireturn, 1) := by decide +kernel
theorem od_180_52 : decode (ov_byt 180) 52 = .ok (.bipush (-9), 2) := by decide +kernel
theorem od_180_54 : decode (ov_byt 180) 54 = .ok (.goto 6, 3) := by decide +kernel
theorem od_180_49 : decode (ov_byt 180) 49 = .ok (.if_icmp .ne 8, 3) := by decide +kernel
theorem od_180_61 : decode (ov_byt 180) 61 = .ok (.iload_n 0, 1) := by decide +kernel
theorem od_180_62 : decode (ov_byt 180) 62 = .ok (.bipush 6, 2) := by decide +kernel
theorem od_180_72 : decode (ov_byt 180) 72 = .ok (.iload_n 0, 1) := by decide +kernel
theorem od_180_73 : decode (ov_byt 180) 73 = .ok (.bipush 6, 2) := by decide +kernel
theorem od_180_75 : decode (ov_byt 180) 75 = .ok (.isub, 1) := by decide +kernel
theorem od_180_76 : decode (ov_byt 180) 76 = .ok (.ireturn, 1) := by decide +kernel
theorem od_180_67 : decode (ov_byt 180) 67 = .ok (.bipush (-9), 2) := by decide +kernel
theorem od_180_69 : decode (ov_byt 180) 69 = .ok (.goto 7, 3) := by decide +kernel
theorem od_180_64 : decode (ov_byt 180) 64 = .ok (.if_icmp .ge 8, 3) := by decide +kernel
theorem od_180_77 : decode (ov_byt 180) 77 = .ok (.iload_n 0, 1) := by decide +kernel
theorem od_180_78 : decode (ov_byt 180) 78 = .ok (.bipush 6, 2) := by decide +kernel
theorem od_180_80 : decode (ov_byt 180) 80 = .ok (.iadd, 1) := by decide +kernel
theorem od_180_81 : decode (ov_byt 180) 81 = .ok (.bipush 18, 2) := by decide +kernel
theorem od_180_93 : decode (ov_byt 180) 93 = .ok (.bipush (-9), 2) := by decide +kernel
theorem od_180_95 : decode (ov_byt 180) 95 = .ok (.ireturn, 1) := by decide +kernel
theorem od_180_86 : decode (ov_byt 180) 86 = .ok (.iload_n 0, 1) := by decide +kernel
theorem od_180_87 : decode (ov_byt 180) 87 = .ok (.bipush 6, 2) := by decide +kernel
theorem od_180_89 : decode (ov_byt 180) 89 = .ok (.iadd, 1) := by decide +kernel
theorem od_180_90 : decode (ov_byt 180) 90 = .ok (.goto 5, 3) := by decide +kernel
theorem od_180_83 : decode (ov_byt 180) 83 = .ok (.if_icmp .ge 10, 3) := by decide +kernel
theorem od_183_0 : decode (ov_byt 183) 0 = .ok (.iconst 0, 1) := by decide +kernel
theorem od_183_1 : decode (ov_byt 183) 1 = .ok (.istore_n 3, 1) := by decide +kernel
theorem od_183_2 : decode (ov_byt 183) 2 = .ok (.iconst 0, 1) := by decide +kernel
theorem od_183_3 : decode (ov_byt 183) 3 = .ok (.istore 4, 2) := by decide +kernel
theorem od_183_5 : decode (ov_byt 183) 5 = .ok (.iload 4, 2) := by decide +kernel
theorem od_183_7 : decode (ov_byt 183) 7 = .ok (.aload_n 0, 1) := by decide +kernel
theorem og_183_8 : ov_GF 183 8 8 7 := ⟨87, false, 878, by decide +kernel, by decide +kernel⟩
theorem od_183_14 : decode (ov_byt 183) 14 = .ok (.aload_n 1, 1) := by decide +kernel
theorem od_183_15 : decode (ov_byt 183) 15 = .ok (.iconst 0, 1) := by decide +kernel
theorem od_183_16 : decode (ov_byt 183) 16 = .ok (.iload 4, 2) := by decide +kernel
theorem od_183_18 : decode (ov_byt 183) 18 = .ok (.iadd, 1) := by decide +kernel
theorem od_183_19 : decode (ov_byt 183) 19 = .ok (.iaload, 1) := by decide +kernel
theorem od_183_20 : decode (ov_byt 183) 20 = .ok (.bipush (-9), 2) := by decide +kernel
theorem od_183_42 : decode (ov_byt 183) 42 = .ok (.iconst 0, 1) := by decide +kernel
theorem od_183_43 : decode (ov_byt 183) 43 = .ok (.istore 5, 2) := by decide +kernel
theorem od_183_45 : decode (ov_byt 183) 45 = .ok (.iload_n 3, 1) := by decide +kernel
theorem od_183_46 : decode (ov_byt 183) 46 = .ok (.iload 5, 2) := by decide +kernel
theorem od_183_78 : decode (ov_byt 183) 78 = .ok (.iconst 0, 1) := by decide +kernel
theorem od_183_79 : decode (ov_byt 183) 79 = .ok (.iadd, 1) := by decide +kernel
theorem od_183_80 : decode (ov_byt 183) 80 = .ok (.istore_n 3, 1) := by decide +kernel
theorem od_183_81 : decode (ov_byt 183) 81 = .ok (.iinc 4 1, 3) := by decide +kernel
theorem od_183_84 : decode (ov_byt 183) 84 = .ok (.goto (-79), 3) := by decide +kernel
theorem od_183_51 : decode (ov_byt 183) 51 = .ok (.aload_n 0, 1) := by decide +kernel
theorem og_183_52 : ov_GF 183 52 8 8 := ⟨16, true, 879, by decide +kernel, by decide +kernel⟩
theorem od_183_55 : decode (ov_byt 183) 55 = .ok (.iload 4, 2) := by decide +kernel
theorem od_183_57 : decode (ov_byt 183) 57 = .ok (.iaload, 1) := by decide +kernel
theorem od_183_58 : decode (ov_byt 183) 58 = .ok (.aload_n 0, 1) := by decide +kernel
theorem og_183_59 : ov_GF 183 59 8 9 := ⟨19, true, 880, by decide +kernel, by decide +kernel⟩
theorem od_183_62 : decode (ov_byt 183) 62 = .ok (.iload 4, 2) := by decide +kernel
theorem od_183_64 : decode (ov_byt 183) 64 = .ok (.iaload, 1) := by decide +kernel
theorem od_183_65 : decode (ov_byt 183) 65 = .ok (.iconst 3, 1) := by decide +kernel
theorem od_183_73 : decode (ov_byt 183) 73 = .ok (.iconst 0, 1) := by decide +kernel
theorem od_183_74 : decode (ov_byt 183) 74 = .ok (.iadd, 1) := by decide +kernel
theorem od_183_75 : decode (ov_byt 183) 75 = .ok (.goto 4, 3) := by decide +kernel
theorem od_183_69 : decode (ov_byt 183) 69 = .ok (.iconst 2, 1) := by decide +kernel
theorem od_183_70 : decode (ov_byt 183) 70 = .ok (.goto 4, 3) := by decide +kernel
theorem od_183_66 : decode (ov_byt 183) 66 = .ok (.if_icmp .ne 7, 3) := by decide +kernel
theorem od_183_48 : decode (ov_byt 183) 48 = .ok (.ifCond .eq 30, 3) := by decide +kernel
theorem od_183_25 : decode (ov_byt 183) 25 = .ok (.aload_n 1, 1) := by decide +kernel
theorem od_183_26 : decode (ov_byt 183) 26 = .ok (.iconst 0, 1) := by decide +kernel
theorem od_183_27 : decode (ov_byt 183) 27 = .ok (.iload 4, 2) := by decide +kernel
theorem od_183_29 : decode (ov_byt 183) 29 = .ok (.iadd, 1) := by decide +kernel
theorem od_183_30 : decode (ov_byt 183) 30 = .ok (.iaload, 1) := by decide +kernel
theorem od_183_31 : decode (ov_byt 183) 31 = .ok (.bipush 6, 2) := by decide +kernel
theorem od_183_33 : decode (ov_byt 183) 33 = .ok (.irem, 1) := by decide +kernel
theorem od_183_34 : decode (ov_byt 183) 34 = .ok (.iload_n 2, 1) := by decide +kernel
theorem od_183_38 : decode (ov_byt 183) 38 = .ok (.iconst 1, 1) := by decide +kernel
theorem od_183_39 : decode (ov_byt 183) 39 = .ok (.goto 4, 3) := by decide +kernel
theorem od_183_35 : decode (ov_byt 183) 35 = .ok (.if_icmp .ne 7, 3) := by decide +kernel
theorem od_183_22 : decode (ov_byt 183) 22 = .ok (.if_icmp .eq 20, 3) := by decide +kernel
theorem od_183_11 : decode (ov_byt 183) 11 = .ok (.if_icmp .ge 76, 3) := by decide +kernel
theorem od_183_87 : decode (ov_byt 183) 87 = .ok (.iload_n 3, 1) := by decide +kernel
theorem od_183_88 : decode (ov_byt 183) 88 = .ok (.ireturn, 1) := by decide +kernel
theorem od_187_0 : decode (ov_byt 187) 0 = .ok (.aload_n 0, 1) := by decide +kernel
theorem og_187_1 : ov_GF 187 1 8 27 := ⟨164, false, 898, by decide +kernel, by decide +kernel⟩
theorem od_187_4 : decode (ov_byt 187) 4 = .ok (.bipush 14, 2) := by decide +kernel
theorem od_187_49 : decode (ov_byt 187) 49 = .ok (.iconst 0, 1) := by decide +kernel
theorem od_187_50 : decode (ov_byt 187) 50 = .ok (.istore_n 1, 1) := by decide +kernel
theorem od_187_51 : decode (ov_byt 187) 51 = .ok (.iload_n 1, 1) := by decide +kernel
theorem od_187_52 : decode (ov_byt 187) 52 = .ok (.bipush 12, 2) := by decide +kernel
theorem od_187_57 : decode (ov_byt 187) 57 = .ok (.aload_n 0, 1) := by decide +kernel
theorem og_187_58 : ov_GF 187 58 8 26 := ⟨55, true, 897, by decide +kernel, by decide +kernel⟩
theorem od_187_61 : decode (ov_byt 187) 61 = .ok (.bipush 12, 2) := by decide +kernel
theorem od_187_63 : decode (ov_byt 187) 63 = .ok (.aload_n 0, 1) := by decide +kernel
theorem og_187_64 : ov_GF 187 64 8 27 := ⟨164, false, 898, by decide +kernel, by decide +kernel⟩
theorem od_187_67 : decode (ov_byt 187) 67 = .ok (.imul, 1) := by decide +kernel
theorem od_187_68 : decode (ov_byt 187) 68 = .ok (.iload_n 1, 1) := by decide +kernel
theorem od_187_69 : decode (ov_byt 187) 69 = .ok (.iadd, 1) := by decide +kernel
theorem od_187_70 : decode (ov_byt 187) 70 = .ok (.aload_n 0, 1) := by decide +kernel
theorem og_187_71 : ov_GF 187 71 8 23 := ⟨46, true, 894, by decide +kernel, by decide +kernel⟩
theorem od_187_74 : decode (ov_byt 187) 74 = .ok (.iload_n 1, 1) := by decide +kernel
theorem od_187_75 : decode (ov_byt 187) 75 = .ok (.iaload, 1) := by decide +kernel
theorem od_187_76 : decode (ov_byt 187) 76 = .ok (.iastore, 1) := by decide +kernel
theorem od_187_77 : decode (ov_byt 187) 77 = .ok (.iinc 1 1, 3) := by decide +kernel
theorem od_187_80 : decode (ov_byt 187) 80 = .ok (.goto (-29), 3) := by decide +kernel
theorem od_187_54 : decode (ov_byt 187) 54 = .ok (.if_icmp .ge 29, 3) := by decide +kernel
theorem od_187_83 : decode (ov_byt 187) 83 = .ok (.aload_n 0, 1) := by decide +kernel
theorem od_187_84 : decode (ov_byt 187) 84 = .ok (.dup, 1) := by decide +kernel
theorem og_187_85 : ov_GF 187 85 8 27 := ⟨164, false, 898, by decide +kernel, by decide +kernel⟩
theorem od_187_88 : decode (ov_byt 187) 88 = .ok (.iconst 1, 1) := by decide +kernel
theorem od_187_89 : decode (ov_byt 187) 89 = .ok (.iadd, 1) := by decide +kernel
theorem op_187_90 : ov_PF 187 90 8 27 := ⟨164, 898, by decide +kernel, by decide +kernel⟩
theorem od_187_93 : decode (ov_byt 187) 93 = .ok (.aload_n 0, 1) := by decide +kernel
theorem og_187_94 : ov_GF 187 94 8 23 := ⟨46, true, 894, by decide +kernel, by decide +kernel⟩
theorem od_187_97 : decode (ov_byt 187) 97 = .ok (.bipush 11, 2) := by decide +kernel
theorem od_187_99 : decode (ov_byt 187) 99 = .ok (.dup2, 1) := by decide +kernel
theorem od_187_100 : decode (ov_byt 187) 100 = .ok (.iaload, 1) := by decide +kernel
theorem od_187_101 : decode (ov_byt 187) 101 = .ok (.iconst 1, 1) := by decide +kernel
theorem od_187_102 : decode (ov_byt 187) 102 = .ok (.iadd, 1) := by decide +kernel
theorem od_187_103 : decode (ov_byt 187) 103 = .ok (.iastore, 1) := by decide +kernel
theorem od_187_104 : decode (ov_byt 187) 104 = .ok (.return_, 1) := by decide +kernel
theorem od_187_9 : decode (ov_byt 187) 9 = .ok (.iconst 0, 1) := by decide +kernel
theorem od_187_10 : decode (ov_byt 187) 10 = .ok (.istore_n 1, 1) := by decide +kernel
theorem od_187_11 : decode (ov_byt 187) 11 = .ok (.iload_n 1, 1) := by decide +kernel
theorem od_187_12 : decode (ov_byt 187) 12 = .ok (.sipush 156, 3) := by decide +kernel
theorem od_187_18 : decode (ov_byt 187) 18 = .ok (.aload_n 0, 1) := by decide +kernel
theorem og_187_19 : ov_GF 187 19 8 26 := ⟨55, true, 897, by decide +kernel, by decide +kernel⟩
theorem od_187_22 : decode (ov_byt 187) 22 = .ok (.iload_n 1, 1) := by decide +kernel
theorem od_187_23 : decode (ov_byt 187) 23 = .ok (.aload_n 0, 1) := by decide +kernel
theorem og_187_24 : ov_GF 187 24 8 26 := ⟨55, true, 897, by decide +kernel, by decide +kernel⟩
theorem od_187_27 : decode (ov_byt 187) 27 = .ok (.iload_n 1, 1) := by decide +kernel
theorem od_187_28 : decode (ov_byt 187) 28 = .ok (.bipush 12, 2) := by decide +kernel
theorem od_187_30 : decode (ov_byt 187) 30 = .ok (.iadd, 1) := by decide +kernel
theorem od_187_31 : decode (ov_byt 187) 31 = .ok (.iaload, 1) := by decide +kernel
theorem od_187_32 : decode (ov_byt 187) 32 = .ok (.iastore, 1) := by decide +kernel
theorem od_187_33 : decode (ov_byt 187) 33 = .ok (.iinc 1 1, 3) := by decide +kernel
theorem od_187_36 : decode (ov_byt 187) 36 = .ok (.goto (-25), 3) := by decide +kernel
theorem od_187_15 : decode (ov_byt 187) 15 = .ok (.if_icmp .ge 24, 3) := by decide +kernel
theorem od_187_39 : decode (ov_byt 187) 39 = .ok (.aload_n 0, 1) := by decide +kernel
theorem od_187_40 : decode (ov_byt 187) 40 = .ok (.dup, 1) := by decide +kernel
theorem og_187_41 : ov_GF 187 41 8 27 := ⟨164, false, 898, by decide +kernel, by decide +kernel⟩
theorem od_187_44 : decode (ov_byt 187) 44 = .ok (.iconst 1, 1) := by decide +kernel
theorem od_187_45 : decode (ov_byt 187) 45 = .ok (.isub, 1) := by decide +kernel
theorem op_187_46 : ov_PF 187 46 8 27 := ⟨164, 898, by decide +kernel, by decide +kernel⟩
theorem od_187_6 : decode (ov_byt 187) 6 = .ok (.if_icmp .ne 43, 3) := by decide +kernel
theorem od_191_0 : decode (ov_byt 191) 0 = .ok (.iconst 0, 1) := by decide +kernel
theorem od_191_1 : decode (ov_byt 191) 1 = .ok (.istore_n 1, 1) := by decide +kernel
theorem od_191_2 : decode (ov_byt 191) 2 = .ok (.iconst 0, 1) := by decide +kernel
theorem od_191_3 : decode (ov_byt 191) 3 = .ok (.istore_n 2, 1) := by decide +kernel
theorem od_191_4 : decode (ov_byt 191) 4 = .ok (.iload_n 2, 1) := by decide +kernel
theorem od_191_5 : decode (ov_byt 191) 5 = .ok (.bipush 18, 2) := by decide +kernel
theorem od_191_10 : decode (ov_byt 191) 10 = .ok (.iload_n 1, 1) := by decide +kernel
theorem od_191_11 : decode (ov_byt 191) 11 = .ok (.iload_n 0, 1) := by decide +kernel
theorem od_191_12 : decode (ov_byt 191) 12 = .ok (.iload_n 2, 1) := by decide +kernel
theorem od_191_13 : decode (ov_byt 191) 13 = .ok (.ishr, 1) := by decide +kernel
theorem od_191_14 : decode (ov_byt 191) 14 = .ok (.iconst 1, 1) := by decide +kernel
theorem od_191_15 : decode (ov_byt 191) 15 = .ok (.iand, 1) := by decide +kernel
theorem od_191_16 : decode (ov_byt 191) 16 = .ok (.iadd, 1) := by decide +kernel
theorem od_191_17 : decode (ov_byt 191) 17 = .ok (.istore_n 1, 1) := by decide +kernel
theorem od_191_18 : decode (ov_byt 191) 18 = .ok (.iinc 2 1, 3) := by decide +kernel
theorem od_191_21 : decode (ov_byt 191) 21 = .ok (.goto (-17), 3) := by decide +kernel
theorem od_191_7 : decode (ov_byt 191) 7 = .ok (.if_icmp .ge 17, 3) := by decide +kernel
theorem od_191_24 : decode (ov_byt 191) 24 = .ok (.iload_n 1, 1) := by decide +kernel
theorem od_191_25 : decode (ov_byt 191) 25 = .ok (.ireturn, 1) := by decide +kernel
theorem od_194_0 : decode (ov_byt 194) 0 = .ok (.iconst 0, 1) := by decide +kernel
theorem od_194_1 : decode (ov_byt 194) 1 = .ok (.istore_n 2, 1) := by decide +kernel
theorem od_194_2 : decode (ov_byt 194) 2 = .ok (.iconst 0, 1) := by decide +kernel
theorem od_194_3 : decode (ov_byt 194) 3 = .ok (.istore_n 3, 1) := by decide +kernel
theorem od_194_4 : decode (ov_byt 194) 4 = .ok (.iload_n 3, 1) := by decide +kernel
theorem od_194_5 : decode (ov_byt 194) 5 = .ok (.aload_n 0, 1) := by decide +kernel
theorem og_194_6 : ov_GF 194 6 8 4 := ⟨94, false, 875, by decide +kernel, by decide +kernel⟩
theorem od_194_12 : decode (ov_byt 194) 12 = .ok (.iload_n 2, 1) := by decide +kernel
theorem od_194_26 : decode (ov_byt 194) 26 = .ok (.iconst 1, 1) := by decide +kernel
theorem od_194_27 : decode (ov_byt 194) 27 = .ok (.goto 4, 3) := by decide +kernel
theorem od_194_31 : decode (ov_byt 194) 31 = .ok (.istore_n 2, 1) := by decide +kernel
theorem od_194_32 : decode (ov_byt 194) 32 = .ok (.iinc 3 1, 3) := by decide +kernel
theorem od_194_35 : decode (ov_byt 194) 35 = .ok (.goto (-31), 3) := by decide +kernel
theorem od_194_16 : decode (ov_byt 194) 16 = .ok (.aload_n 0, 1) := by decide +kernel
theorem og_194_17 : ov_GF 194 17 8 5 := ⟨13, true, 876, by decide +kernel, by decide +kernel⟩
theorem od_194_20 : decode (ov_byt 194) 20 = .ok (.iload_n 3, 1) := by decide +kernel
theorem od_194_21 : decode (ov_byt 194) 21 = .ok (.iaload, 1) := by decide +kernel
theorem od_194_22 : decode (ov_byt 194) 22 = .ok (.iload_n 1, 1) := by decide +kernel
theorem od_194_30 : decode (ov_byt 194) 30 = .ok (.iconst 0, 1) := by decide +kernel
theorem od_194_23 : decode (ov_byt 194) 23 = .ok (.if_icmp .ne 7, 3) := by decide +kernel
theorem od_194_13 : decode (ov_byt 194) 13 = .ok (.ifCond .ne 13, 3) := by decide +kernel
theorem od_194_9 : decode (ov_byt 194) 9 = .ok (.if_icmp .ge 29, 3) := by decide +kernel
theorem od_194_38 : decode (ov_byt 194) 38 = .ok (.iload_n 2, 1) := by decide +kernel
theorem od_194_39 : decode (ov_byt 194) 39 = .ok (.ireturn, 1) := by decide +kernel
theorem od_195_0 : decode (ov_byt 195) 0 = .ok (.aload_n 0, 1) := by decide +kernel
theorem od_195_1 : decode (ov_byt 195) 1 = .ok (.iconst 0, 1) := by decide +kernel
theorem op_195_2 : ov_PF 195 2 8 0 := ⟨83, 871, by decide +kernel, by decide +kernel⟩
theorem od_195_5 : decode (ov_byt 195) 5 = .ok (.aload_n 0, 1) := by decide +kernel
theorem og_195_6 : ov_GF 195 6 8 27 := ⟨164, false, 898, by decide +kernel, by decide +kernel⟩
theorem od_195_15 : decode (ov_byt 195) 15 = .ok (.aload_n 0, 1) := by decide +kernel
theorem od_195_16 : decode (ov_byt 195) 16 = .ok (.dup, 1) := by decide +kernel
theorem og_195_17 : ov_GF 195 17 8 27 := ⟨164, false, 898, by decide +kernel, by decide +kernel⟩
theorem od_195_20 : decode (ov_byt 195) 20 = .ok (.iconst 1, 1) := by decide +kernel
theorem od_195_21 : decode (ov_byt 195) 21 = .ok (.isub, 1) := by decide +kernel
theorem op_195_22 : ov_PF 195 22 8 27 := ⟨164, 898, by decide +kernel, by decide +kernel⟩
theorem od_195_25 : decode (ov_byt 195) 25 = .ok (.iconst 0, 1) := by decide +kernel
theorem od_195_26 : decode (ov_byt 195) 26 = .ok (.istore_n 1, 1) := by decide +kernel
theorem od_195_27 : decode (ov_byt 195) 27 = .ok (.iload_n 1, 1) := by decide +kernel
theorem od_195_28 : decode (ov_byt 195) 28 = .ok (.bipush 12, 2) := by decide +kernel
theorem od_195_33 : decode (ov_byt 195) 33 = .ok (.aload_n 0, 1) := by decide +kernel
theorem og_195_34 : ov_GF 195 34 8 23 := ⟨46, true, 894, by decide +kernel, by decide +kernel⟩
theorem od_195_37 : decode (ov_byt 195) 37 = .ok (.iload_n 1, 1) := by decide +kernel
theorem od_195_38 : decode (ov_byt 195) 38 = .ok (.aload_n 0, 1) := by decide +kernel
theorem og_195_39 : ov_GF 195 39 8 26 := ⟨55, true, 897, by decide +kernel, by decide +kernel⟩
theorem od_195_42 : decode (ov_byt 195) 42 = .ok (.bipush 12, 2) := by decide +kernel
theorem od_195_44 : decode (ov_byt 195) 44 = .ok (.aload_n 0, 1) := by decide +kernel
theorem og_195_45 : ov_GF 195 45 8 27 := ⟨164, false, 898, by decide +kernel, by decide +kernel⟩
theorem od_195_48 : decode (ov_byt 195) 48 = .ok (.imul, 1) := by decide +kernel
theorem od_195_49 : decode (ov_byt 195) 49 = .ok (.iload_n 1, 1) := by decide +kernel
theorem od_195_50 : decode (ov_byt 195) 50 = .ok (.iadd, 1) := by decide +kernel
theorem od_195_51 : decode (ov_byt 195) 51 = .ok (.iaload, 1) := by decide +kernel
theorem od_195_52 : decode (ov_byt 195) 52 = .ok (.iastore, 1) := by decide +kernel
theorem od_195_53 : decode (ov_byt 195) 53 = .ok (.iinc 1 1, 3) := by decide +kernel
theorem od_195_56 : decode (ov_byt 195) 56 = .ok (.goto (-29), 3) := by decide +kernel
theorem od_195_30 : decode (ov_byt 195) 30 = .ok (.if_icmp .ge 29, 3) := by decide +kernel
theorem od_195_59 : decode (ov_byt 195) 59 = .ok (.aload_n 0, 1) := by decide +kernel
theorem og_195_60 : ov_GF 195 60 8 27 := ⟨164, false, 898, by decide +kernel, by decide +kernel⟩
theorem od_195_63 : decode (ov_byt 195) 63 = .ok (.ireturn, 1) := by decide +kernel
theorem od_195_12 : decode (ov_byt 195) 12 = .ok (.bipush (-3), 2) := by decide +kernel
theorem od_195_14 : decode (ov_byt 195) 14 = .ok (.ireturn, 1) := by decide +kernel
theorem od_195_9 : decode (ov_byt 195) 9 = .ok (.ifCond .ne 6, 3) := by decide +kernel
theorem od_205_0 : decode (ov_byt 205) 0 = .ok (.iload_n 1, 1) := by decide +kernel
theorem od_205_1 : decode (ov_byt 205) 1 = .ok (.iconst 2, 1) := by decide +kernel
theorem od_205_2 : decode (ov_byt 205) 2 = .ok (.isub, 1) := by decide +kernel
theorem od_205_3 : decode (ov_byt 205) 3 = .ok (.istore_n 2, 1) := by decide +kernel
theorem od_205_4 : decode (ov_byt 205) 4 = .ok (.iload_n 2, 1) := by decide +kernel
theorem od_205_8 : decode (ov_byt 205) 8 = .ok (.aload_n 0, 1) := by decide +kernel
theorem og_205_9 : ov_GF 205 9 8 38 := ⟨74, true, 908, by decide +kernel, by decide +kernel⟩
theorem od_205_12 : decode (ov_byt 205) 12 = .ok (.iload_n 2, 1) := by decide +kernel
theorem od_205_13 : decode (ov_byt 205) 13 = .ok (.iaload, 1) := by decide +kernel
theorem od_205_14 : decode (ov_byt 205) 14 = .ok (.aload_n 0, 1) := by decide +kernel
theorem og_205_15 : ov_GF 205 15 8 38 := ⟨74, true, 908, by decide +kernel, by decide +kernel⟩
theorem od_205_18 : decode (ov_byt 205) 18 = .ok (.iload_n 2, 1) := by decide +kernel
theorem od_205_19 : decode (ov_byt 205) 19 = .ok (.iconst 1, 1) := by decide +kernel
theorem od_205_20 : decode (ov_byt 205) 20 = .ok (.iadd, 1) := by decide +kernel
theorem od_205_21 : decode (ov_byt 205) 21 = .ok (.iaload, 1) := by decide +kernel
theorem od_205_25 : decode (ov_byt 205) 25 = .ok (.iinc 2 (-1), 3) := by decide +kernel
theorem od_205_28 : decode (ov_byt 205) 28 = .ok (.goto (-24), 3) := by decide +kernel
theorem od_205_22 : decode (ov_byt 205) 22 = .ok (.if_icmp .le 9, 3) := by decide +kernel
theorem od_205_5 : decode (ov_byt 205) 5 = .ok (.ifCond .lt 26, 3) := by decide +kernel
theorem od_205_31 : decode (ov_byt 205) 31 = .ok (.iload_n 2, 1) := by decide +kernel
theorem od_205_37 : decode (ov_byt 205) 37 = .ok (.iload_n 1, 1) := by decide +kernel
theorem od_205_38 : decode (ov_byt 205) 38 = .ok (.iconst 1, 1) := by decide +kernel
theorem od_205_39 : decode (ov_byt 205) 39 = .ok (.isub, 1) := by decide +kernel
theorem od_205_40 : decode (ov_byt 205) 40 = .ok (.istore_n 3, 1) := by decide +kernel
theorem od_205_41 : decode (ov_byt 205) 41 = .ok (.aload_n 0, 1) := by decide +kernel
theorem og_205_42 : ov_GF 205 42 8 38 := ⟨74, true, 908, by decide +kernel, by decide +kernel⟩
theorem od_205_45 : decode (ov_byt 205) 45 = .ok (.iload_n 3, 1) := by decide +kernel
theorem od_205_46 : decode (ov_byt 205) 46 = .ok (.iaload, 1) := by decide +kernel
theorem od_205_47 : decode (ov_byt 205) 47 = .ok (.aload_n 0, 1) := by decide +kernel
theorem og_205_48 : ov_GF 205 48 8 38 := ⟨74, true, 908, by decide +kernel, by decide +kernel⟩
theorem od_205_51 : decode (ov_byt 205) 51 = .ok (.iload_n 2, 1) := by decide +kernel
theorem od_205_52 : decode (ov_byt 205) 52 = .ok (.iaload, 1) := by decide +kernel
theorem od_205_56 : decode (ov_byt 205) 56 = .ok (.iinc 3 (-1), 3) := by decide +kernel
theorem od_205_59 : decode (ov_byt 205) 59 = .ok (.goto (-18), 3) := by decide +kernel
theorem od_205_53 : decode (ov_byt 205) 53 = .ok (.if_icmp .ge 9, 3) := by decide +kernel
theorem od_205_62 : decode (ov_byt 205) 62 = .ok (.aload_n 0, 1) := by decide +kernel
theorem og_205_63 : ov_GF 205 63 8 38 := ⟨74, true, 908, by decide +kernel, by decide +kernel⟩
theorem od_205_66 : decode (ov_byt 205) 66 = .ok (.iload_n 2, 1) := by decide +kernel
theorem od_205_67 : decode (ov_byt 205) 67 = .ok (.iaload, 1) := by decide +kernel
theorem od_205_68 : decode (ov_byt 205) 68 = .ok (.istore 4, 2) := by decide +kernel
theorem od_205_70 : decode (ov_byt 205) 70 = .ok (.aload_n 0, 1) := by decide +kernel
theorem og_205_71 : ov_GF 205 71 8 38 := ⟨74, true, 908, by decide +kernel, by decide +kernel⟩
theorem od_205_74 : decode (ov_byt 205) 74 = .ok (.iload_n 2, 1) := by decide +kernel
theorem od_205_75 : decode (ov_byt 205) 75 = .ok (.aload_n 0, 1) := by decide +kernel
theorem og_205_76 : ov_GF 205 76 8 38 := ⟨74, true, 908, by decide +kernel, by decide +kernel⟩
theorem od_205_79 : decode (ov_byt 205) 79 = .ok (.iload_n 3, 1) := by decide +kernel
theorem od_205_80 : decode (ov_byt 205) 80 = .ok (.iaload, 1) := by decide +kernel
theorem od_205_81 : decode (ov_byt 205) 81 = .ok (.iastore, 1) := by decide +kernel
theorem od_205_82 : decode (ov_byt 205) 82 = .ok (.aload_n 0, 1) := by decide +kernel
theorem og_205_83 : ov_GF 205 83 8 38 := ⟨74, true, 908, by decide +kernel, by decide +kernel⟩
theorem od_205_86 : decode (ov_byt 205) 86 = .ok (.iload_n 3, 1) := by decide +kernel
theorem od_205_87 : decode (ov_byt 205) 87 = .ok (.iload 4, 2) := by decide +kernel
theorem od_205_89 : decode (ov_byt 205) 89 = .ok (.iastore, 1) := by decide +kernel
theorem od_205_90 : decode (ov_byt 205) 90 = .ok (.iload_n 2, 1) := by decide +kernel
theorem od_205_91 : decode (ov_byt 205) 91 = .ok (.iconst 1, 1) := by decide +kernel
theorem od_205_92 : decode (ov_byt 205) 92 = .ok (.iadd, 1) := by decide +kernel
theorem od_205_93 : decode (ov_byt 205) 93 = .ok (.istore 5, 2) := by decide +kernel
theorem od_205_95 : decode (ov_byt 205) 95 = .ok (.iload_n 1, 1) := by decide +kernel
theorem od_205_96 : decode (ov_byt 205) 96 = .ok (.iconst 1, 1) := by decide +kernel
theorem od_205_97 : decode (ov_byt 205) 97 = .ok (.isub, 1) := by decide +kernel
theorem od_205_98 : decode (ov_byt 205) 98 = .ok (.istore 6, 2) := by decide +kernel
theorem od_205_100 : decode (ov_byt 205) 100 = .ok (.iload 5, 2) := by decide +kernel
theorem od_205_102 : decode (ov_byt 205) 102 = .ok (.iload 6, 2) := by decide +kernel
theorem od_205_107 : decode (ov_byt 205) 107 = .ok (.aload_n 0, 1) := by decide +kernel
theorem og_205_108 : ov_GF 205 108 8 38 := ⟨74, true, 908, by decide +kernel, by decide +kernel⟩
theorem od_205_111 : decode (ov_byt 205) 111 = .ok (.iload 5, 2) := by decide +kernel
theorem od_205_113 : decode (ov_byt 205) 113 = .ok (.iaload, 1) := by decide +kernel
theorem od_205_114 : decode (ov_byt 205) 114 = .ok (.istore 4, 2) := by decide +kernel
theorem od_205_116 : decode (ov_byt 205) 116 = .ok (.aload_n 0, 1) := by decide +kernel
theorem og_205_117 : ov_GF 205 117 8 38 := ⟨74, true, 908, by decide +kernel, by decide +kernel⟩
theorem od_205_120 : decode (ov_byt 205) 120 = .ok (.iload 5, 2) := by decide +kernel
theorem od_205_122 : decode (ov_byt 205) 122 = .ok (.aload_n 0, 1) := by decide +kernel
theorem og_205_123 : ov_GF 205 123 8 38 := ⟨74, true, 908, by decide +kernel, by decide +kernel⟩
theorem od_205_126 : decode (ov_byt 205) 126 = .ok (.iload 6, 2) := by decide +kernel
theorem od_205_128 : decode (ov_byt 205) 128 = .ok (.iaload, 1) := by decide +kernel
theorem od_205_129 : decode (ov_byt 205) 129 = .ok (.iastore, 1) := by decide +kernel
theorem od_205_130 : decode (ov_byt 205) 130 = .ok (.aload_n 0, 1) := by decide +kernel
theorem og_205_131 : ov_GF 205 131 8 38 := ⟨74, true, 908, by decide +kernel, by decide +kernel⟩
theorem od_205_134 : decode (ov_byt 205) 134 = .ok (.iload 6, 2) := by decide +kernel
theorem od_205_136 : decode (ov_byt 205) 136 = .ok (.iload 4, 2) := by decide +kernel
theorem od_205_138 : decode (ov_byt 205) 138 = .ok (.iastore, 1) := by decide +kernel
theorem od_205_139 : decode (ov_byt 205) 139 = .ok (.iinc 5 1, 3) := by decide +kernel
theorem od_205_142 : decode (ov_byt 205) 142 = .ok (.iinc 6 (-1), 3) := by decide +kernel
theorem od_205_145 : decode (ov_byt 205) 145 = .ok (.goto (-45), 3) := by decide +kernel
theorem od_205_104 : decode (ov_byt 205) 104 = .ok (.if_icmp .ge 44, 3) := by decide +kernel
theorem od_205_148 : decode (ov_byt 205) 148 = .ok (.iconst 1, 1) := by decide +kernel
theorem od_205_149 : decode (ov_byt 205) 149 = .ok (.ireturn, 1) := by decide +kernel
theorem od_205_35 : decode (ov_byt 205) 35 = .ok (.iconst 0, 1) := by decide +kernel
theorem od_205_36 : decode (ov_byt 205) 36 = .ok (.ireturn, 1) := by decide +kernel
theorem od_205_32 : decode (ov_byt 205) 32 = .ok (.ifCond .ge 5, 3) := by decide +kernel
theorem od_209_0 : decode (ov_byt 209) 0 = .ok (.lconst 1, 1) := by decide +kernel
theorem od_209_1 : decode (ov_byt 209) 1 = .ok (.lstore_n 3, 1) := by decide +kernel
theorem od_209_2 : decode (ov_byt 209) 2 = .ok (.iconst 0, 1) := by decide +kernel
theorem od_209_3 : decode (ov_byt 209) 3 = .ok (.istore 5, 2) := by decide +kernel
theorem od_209_5 : decode (ov_byt 209) 5 = .ok (.iload 5, 2) := by decide +kernel
theorem od_209_7 : decode (ov_byt 209) 7 = .ok (.iload_n 2, 1) := by decide +kernel
theorem od_209_11 : decode (ov_byt 209) 11 = .ok (.lload_n 3, 1) := by decide +kernel
theorem od_209_12 : decode (ov_byt 209) 12 = .ok (.lload_n 0, 1) := by decide +kernel
theorem od_209_13 : decode (ov_byt 209) 13 = .ok (.lmul, 1) := by decide +kernel
theorem od_209_14 : decode (ov_byt 209) 14 = .ok (.lstore_n 3, 1) := by decide +kernel
theorem od_209_15 : decode (ov_byt 209) 15 = .ok (.iinc 5 1, 3) := by decide +kernel
theorem od_209_18 : decode (ov_byt 209) 18 = .ok (.goto (-13), 3) := by decide +kernel
theorem od_209_8 : decode (ov_byt 209) 8 = .ok (.if_icmp .ge 13, 3) := by decide +kernel
theorem od_209_21 : decode (ov_byt 209) 21 = .ok (.lload_n 3, 1) := by decide +kernel
theorem od_209_22 : decode (ov_byt 209) 22 = .ok (.lreturn, 1) := by decide +kernel
theorem od_212_0 : decode (ov_byt 212) 0 = .ok (.iconst 1, 1) := by decide +kernel
theorem od_212_1 : decode (ov_byt 212) 1 = .ok (.istore_n 1, 1) := by decide +kernel
theorem od_212_2 : decode (ov_byt 212) 2 = .ok (.iconst 2, 1) := by decide +kernel
theorem od_212_3 : decode (ov_byt 212) 3 = .ok (.istore_n 2, 1) := by decide +kernel
theorem od_212_4 : decode (ov_byt 212) 4 = .ok (.iload_n 2, 1) := by decide +kernel
theorem od_212_5 : decode (ov_byt 212) 5 = .ok (.iload_n 0, 1) := by decide +kernel
theorem od_212_9 : decode (ov_byt 212) 9 = .ok (.iload_n 1, 1) := by decide +kernel
theorem od_212_10 : decode (ov_byt 212) 10 = .ok (.iload_n 2, 1) := by decide +kernel
theorem od_212_11 : decode (ov_byt 212) 11 = .ok (.imul, 1) := by decide +kernel
theorem od_212_12 : decode (ov_byt 212) 12 = .ok (.istore_n 1, 1) := by decide +kernel
theorem od_212_13 : decode (ov_byt 212) 13 = .ok (.iinc 2 1, 3) := by decide +kernel
theorem od_212_16 : decode (ov_byt 212) 16 = .ok (.goto (-12), 3) := by decide +kernel
theorem od_212_6 : decode (ov_byt 212) 6 = .ok (.if_icmp .gt 13, 3) := by decide +kernel
theorem od_212_19 : decode (ov_byt 212) 19 = .ok (.iload_n 1, 1) := by decide +kernel
theorem od_212_20 : decode (ov_byt 212) 20 = .ok (.ireturn, 1) := by decide +kernel
theorem od_214_0 : decode (ov_byt 214) 0 = .ok (.iload_n 0, 1) := by decide +kernel
theorem od_214_9 : decode (ov_byt 214) 9 = .ok (.iload_n 0, 1) := by decide +kernel
theorem od_214_10 : decode (ov_byt 214) 10 = .ok (.istore_n 2, 1) := by decide +kernel
theorem od_214_11 : decode (ov_byt 214) 11 = .ok (.iload_n 1, 1) := by decide +kernel
theorem od_214_12 : decode (ov_byt 214) 12 = .ok (.istore_n 3, 1) := by decide +kernel
theorem od_214_13 : decode (ov_byt 214) 13 = .ok (.iload_n 3, 1) := by decide +kernel
theorem od_214_17 : decode (ov_byt 214) 17 = .ok (.iload_n 2, 1) := by decide +kernel
theorem od_214_18 : decode (ov_byt 214) 18 = .ok (.iload_n 3, 1) := by decide +kernel
theorem od_214_19 : decode (ov_byt 214) 19 = .ok (.irem, 1) := by decide +kernel
theorem od_214_20 : decode (ov_byt 214) 20 = .ok (.istore 4, 2) := by decide +kernel
theorem od_214_22 : decode (ov_byt 214) 22 = .ok (.iload_n 3, 1) := by decide +kernel
theorem od_214_23 : decode (ov_byt 214) 23 = .ok (.istore_n 2, 1) := by decide +kernel
theorem od_214_24 : decode (ov_byt 214) 24 = .ok (.iload 4, 2) := by decide +kernel
theorem od_214_26 : decode (ov_byt 214) 26 = .ok (.istore_n 3, 1) := by decide +kernel
theorem od_214_27 : decode (ov_byt 214) 27 = .ok (.goto (-14), 3) := by decide +kernel
theorem od_214_14 : decode (ov_byt 214) 14 = .ok (.ifCond .eq 16, 3) := by decide +kernel
theorem od_214_30 : decode (ov_byt 214) 30 = .ok (.iload_n 2, 1) := by decide +kernel
theorem od_214_31 : decode (ov_byt 214) 31 = .ok (.ireturn, 1) := by decide +kernel
theorem od_214_4 : decode (ov_byt 214) 4 = .ok (.iload_n 0, 1) := by decide +kernel
theorem od_214_5 : decode (ov_byt 214) 5 = .ok (.ineg, 1) := by decide +kernel
theorem od_214_6 : decode (ov_byt 214) 6 = .ok (.goto 4, 3) := by decide +kernel
theorem od_214_1 : decode (ov_byt 214) 1 = .ok (.ifCond .ge 8, 3) := by decide +kernel
theorem od_216_0 : decode (ov_byt 216) 0 = .ok (.aload_n 0, 1) := by decide +kernel
theorem od_216_1 : decode (ov_byt 216) 1 = .ok (.iconst 0, 1) := by decide +kernel
theorem op_216_2 : ov_PF 216 2 8 0 := ⟨83, 871, by decide +kernel, by decide +kernel⟩
theorem od_216_5 : decode (ov_byt 216) 5 = .ok (.aload_n 0, 1) := by decide +kernel
