theorem od_7_0 : decode (ov_byt 7) 0 = .ok (.iload_n 1, 1) := by decide +kernel
theorem od_7_16 : decode (ov_byt 7) 16 = .ok (.iconst 0, 1) := by decide +kernel
theorem od_7_17 : decode (ov_byt 7) 17 = .ok (.ireturn, 1) := by decide +kernel
theorem od_7_4 : decode (ov_byt 7) 4 = .ok (.iload_n 1, 1) := by decide +kernel
theorem od_7_5 : decode (ov_byt 7) 5 = .ok (.aload_n 0, 1) := by decide +kernel
theorem og_7_6 : ov_GF 7 6 2 1 := ⟨51, false, 103, by decide +kernel, by decide +kernel⟩
theorem od_7_12 : decode (ov_byt 7) 12 = .ok (.iconst 1, 1) := by decide +kernel
theorem od_7_13 : decode (ov_byt 7) 13 = .ok (.goto 4, 3) := by decide +kernel
theorem od_7_9 : decode (ov_byt 7) 9 = .ok (.if_icmp .ge 7, 3) := by decide +kernel
theorem od_7_1 : decode (ov_byt 7) 1 = .ok (.ifCond .lt 15, 3) := by decide +kernel
theorem od_13_0 : decode (ov_byt 13) 0 = .ok (.aload_n 0, 1) := by decide +kernel
theorem og_13_1 : ov_GF 13 1 1 1 := ⟨15, false, 86, by decide +kernel, by decide +kernel⟩
theorem od_13_4 : decode (ov_byt 13) 4 = .ok (.bipush 60, 2) := by decide +kernel
theorem od_13_11 : decode (ov_byt 13) 11 = .ok (.aload_n 0, 1) := by decide +kernel
theorem og_13_12 : ov_GF 13 12 1 0 := ⟨9, true, 85, by decide +kernel, by decide +kernel⟩
theorem od_13_15 : decode (ov_byt 13) 15 = .ok (.aload_n 0, 1) := by decide +kernel
theorem og_13_16 : ov_GF 13 16 1 1 := ⟨15, false, 86, by decide +kernel, by decide +kernel⟩
theorem od_13_19 : decode (ov_byt 13) 19 = .ok (.iload_n 1, 1) := by decide +kernel
theorem od_13_20 : decode (ov_byt 13) 20 = .ok (.iastore, 1) := by decide +kernel
theorem od_13_21 : decode (ov_byt 13) 21 = .ok (.aload_n 0, 1) := by decide +kernel
theorem od_13_22 : decode (ov_byt 13) 22 = .ok (.dup, 1) := by decide +kernel
theorem og_13_23 : ov_GF 13 23 1 1 := ⟨15, false, 86, by decide +kernel, by decide +kernel⟩
theorem od_13_26 : decode (ov_byt 13) 26 = .ok (.iconst 1, 1) := by decide +kernel
theorem od_13_27 : decode (ov_byt 13) 27 = .ok (.iadd, 1) := by decide +kernel
theorem op_13_28 : ov_PF 13 28 1 1 := ⟨15, 86, by decide +kernel, by decide +kernel⟩
theorem od_13_31 : decode (ov_byt 13) 31 = .ok (.iconst 1, 1) := by decide +kernel
theorem od_13_32 : decode (ov_byt 13) 32 = .ok (.ireturn, 1) := by decide +kernel
theorem od_13_9 : decode (ov_byt 13) 9 = .ok (.iconst 0, 1) := by decide +kernel
theorem od_13_10 : decode (ov_byt 13) 10 = .ok (.ireturn, 1) := by decide +kernel
theorem od_13_6 : decode (ov_byt 13) 6 = .ok (.if_icmp .lt 5, 3) := by decide +kernel
theorem od_14_0 : decode (ov_byt 14) 0 = .ok (.aload_n 0, 1) := by decide +kernel
theorem og_14_1 : ov_GF 14 1 1 1 := ⟨15, false, 86, by decide +kernel, by decide +kernel⟩
theorem od_14_4 : decode (ov_byt 14) 4 = .ok (.ireturn, 1) := by decide +kernel
theorem od_16_0 : decode (ov_byt 16) 0 = .ok (.aload_n 0, 1) := by decide +kernel
theorem od_16_1 : decode (ov_byt 16) 1 = .ok (.iconst 0, 1) := by decide +kernel
theorem op_16_2 : ov_PF 16 2 1 1 := ⟨15, 86, by decide +kernel, by decide +kernel⟩
theorem od_16_5 : decode (ov_byt 16) 5 = .ok (.return_, 1) := by decide +kernel
theorem od_19_0 : decode (ov_byt 19) 0 = .ok (.aload_n 0, 1) := by decide +kernel
theorem od_19_1 : decode (ov_byt 19) 1 = .ok (.iconst 0, 1) := by decide +kernel
theorem op_19_2 : ov_PF 19 2 2 0 := ⟨47, 99, by decide +kernel, by decide +kernel⟩
theorem od_19_5 : decode (ov_byt 19) 5 = .ok (.aload_n 0, 1) := by decide +kernel
theorem od_19_6 : decode (ov_byt 19) 6 = .ok (.iconst 0, 1) := by decide +kernel
theorem op_19_7 : ov_PF 19 7 2 1 := ⟨51, 103, by decide +kernel, by decide +kernel⟩
theorem od_19_10 : decode (ov_byt 19) 10 = .ok (.aload_n 0, 1) := by decide +kernel
theorem od_19_11 : decode (ov_byt 19) 11 = .ok (.iconst 0, 1) := by decide +kernel
theorem op_19_12 : ov_PF 19 12 2 2 := ⟨54, 105, by decide +kernel, by decide +kernel⟩
theorem od_19_15 : decode (ov_byt 19) 15 = .ok (.aload_n 0, 1) := by decide +kernel
theorem od_19_16 : decode (ov_byt 19) 16 = .ok (.iconst 0, 1) := by decide +kernel
theorem op_19_17 : ov_PF 19 17 2 3 := ⟨57, 109, by decide +kernel, by decide +kernel⟩
theorem od_19_20 : decode (ov_byt 19) 20 = .ok (.aload_n 0, 1) := by decide +kernel
theorem od_19_21 : decode (ov_byt 19) 21 = .ok (.iconst 0, 1) := by decide +kernel
theorem op_19_22 : ov_PF 19 22 2 10 := ⟨60, 118, by decide +kernel, by decide +kernel⟩
theorem od_19_25 : decode (ov_byt 19) 25 = .ok (.aload_n 0, 1) := by decide +kernel
theorem od_19_26 : decode (ov_byt 19) 26 = .ok (.iconst 0, 1) := by decide +kernel
theorem op_19_27 : ov_PF 19 27 2 11 := ⟨63, 119, by decide +kernel, by decide +kernel⟩
theorem od_19_30 : decode (ov_byt 19) 30 = .ok (.return_, 1) := by decide +kernel
theorem od_20_0 : decode (ov_byt 20) 0 = .ok (.iload_n 1, 1) := by decide +kernel
theorem od_20_21 : decode (ov_byt 20) 21 = .ok (.iconst (-1), 1) := by decide +kernel
theorem od_20_22 : decode (ov_byt 20) 22 = .ok (.ireturn, 1) := by decide +kernel
theorem od_20_4 : decode (ov_byt 20) 4 = .ok (.iload_n 1, 1) := by decide +kernel
theorem od_20_5 : decode (ov_byt 20) 5 = .ok (.aload_n 0, 1) := by decide +kernel
theorem og_20_6 : ov_GF 20 6 1 1 := ⟨15, false, 86, by decide +kernel, by decide +kernel⟩
theorem od_20_12 : decode (ov_byt 20) 12 = .ok (.aload_n 0, 1) := by decide +kernel
theorem og_20_13 : ov_GF 20 13 1 0 := ⟨9, true, 85, by decide +kernel, by decide +kernel⟩
theorem od_20_16 : decode (ov_byt 20) 16 = .ok (.iload_n 1, 1) := by decide +kernel
theorem od_20_17 : decode (ov_byt 20) 17 = .ok (.iaload, 1) := by decide +kernel
theorem od_20_18 : decode (ov_byt 20) 18 = .ok (.goto 4, 3) := by decide +kernel
theorem od_20_9 : decode (ov_byt 20) 9 = .ok (.if_icmp .ge 12, 3) := by decide +kernel
theorem od_20_1 : decode (ov_byt 20) 1 = .ok (.ifCond .lt 20, 3) := by decide +kernel
theorem od_23_0 : decode (ov_byt 23) 0 = .ok (.iload_n 1, 1) := by decide +kernel
theorem od_23_22 : decode (ov_byt 23) 22 = .ok (.iconst 0, 1) := by decide +kernel
theorem od_23_23 : decode (ov_byt 23) 23 = .ok (.ireturn, 1) := by decide +kernel
theorem od_23_4 : decode (ov_byt 23) 4 = .ok (.iload_n 1, 1) := by decide +kernel
theorem od_23_5 : decode (ov_byt 23) 5 = .ok (.bipush 31, 2) := by decide +kernel
theorem od_23_10 : decode (ov_byt 23) 10 = .ok (.iload_n 0, 1) := by decide +kernel
theorem od_23_11 : decode (ov_byt 23) 11 = .ok (.iload_n 1, 1) := by decide +kernel
theorem od_23_12 : decode (ov_byt 23) 12 = .ok (.ishr, 1) := by decide +kernel
theorem od_23_13 : decode (ov_byt 23) 13 = .ok (.iconst 1, 1) := by decide +kernel
theorem od_23_14 : decode (ov_byt 23) 14 = .ok (.iand, 1) := by decide +kernel
theorem od_23_18 : decode (ov_byt 23) 18 = .ok (.iconst 1, 1) := by decide +kernel
theorem od_23_19 : decode (ov_byt 23) 19 = .ok (.goto 4, 3) := by decide +kernel
theorem od_23_15 : decode (ov_byt 23) 15 = .ok (.ifCond .eq 7, 3) := by decide +kernel
theorem od_23_7 : decode (ov_byt 23) 7 = .ok (.if_icmp .ge 15, 3) := by decide +kernel
theorem od_23_1 : decode (ov_byt 23) 1 = .ok (.ifCond .lt 21, 3) := by decide +kernel
theorem od_24_0 : decode (ov_byt 24) 0 = .ok (.iload_n 0, 1) := by decide +kernel
theorem od_24_16 : decode (ov_byt 24) 16 = .ok (.iconst 0, 1) := by decide +kernel
theorem od_24_17 : decode (ov_byt 24) 17 = .ok (.ireturn, 1) := by decide +kernel
theorem od_24_4 : decode (ov_byt 24) 4 = .ok (.iload_n 0, 1) := by decide +kernel
theorem od_24_5 : decode (ov_byt 24) 5 = .ok (.bipush 18, 2) := by decide +kernel
theorem od_24_10 : decode (ov_byt 24) 10 = .ok (.iconst 1, 1) := by decide +kernel
theorem od_24_11 : decode (ov_byt 24) 11 = .ok (.iload_n 0, 1) := by decide +kernel
theorem od_24_12 : decode (ov_byt 24) 12 = .ok (.ishl, 1) := by decide +kernel
theorem od_24_13 : decode (ov_byt 24) 13 = .ok (.goto 4, 3) := by decide +kernel
theorem od_24_7 : decode (ov_byt 24) 7 = .ok (.if_icmp .ge 9, 3) := by decide +kernel
theorem od_24_1 : decode (ov_byt 24) 1 = .ok (.ifCond .lt 15, 3) := by decide +kernel
theorem od_27_0 : decode (ov_byt 27) 0 = .ok (.iload_n 1, 1) := by decide +kernel
theorem od_27_18 : decode (ov_byt 27) 18 = .ok (.iload_n 0, 1) := by decide +kernel
theorem od_27_19 : decode (ov_byt 27) 19 = .ok (.ireturn, 1) := by decide +kernel
theorem od_27_4 : decode (ov_byt 27) 4 = .ok (.iload_n 1, 1) := by decide +kernel
theorem od_27_5 : decode (ov_byt 27) 5 = .ok (.bipush 31, 2) := by decide +kernel
theorem od_27_10 : decode (ov_byt 27) 10 = .ok (.iload_n 0, 1) := by decide +kernel
theorem od_27_11 : decode (ov_byt 27) 11 = .ok (.iconst 1, 1) := by decide +kernel
theorem od_27_12 : decode (ov_byt 27) 12 = .ok (.iload_n 1, 1) := by decide +kernel
theorem od_27_13 : decode (ov_byt 27) 13 = .ok (.ishl, 1) := by decide +kernel
theorem od_27_14 : decode (ov_byt 27) 14 = .ok (.ior, 1) := by decide +kernel
theorem od_27_15 : decode (ov_byt 27) 15 = .ok (.goto 4, 3) := by decide +kernel
theorem od_27_7 : decode (ov_byt 27) 7 = .ok (.if_icmp .ge 11, 3) := by decide +kernel
theorem od_27_1 : decode (ov_byt 27) 1 = .ok (.ifCond .lt 17, 3) := by decide +kernel
theorem od_29_0 : decode (ov_byt 29) 0 = .ok (.iload_n 1, 1) := by decide +kernel
theorem od_29_16 : decode (ov_byt 29) 16 = .ok (.iconst 0, 1) := by decide +kernel
theorem od_29_17 : decode (ov_byt 29) 17 = .ok (.ireturn, 1) := by decide +kernel
theorem od_29_4 : decode (ov_byt 29) 4 = .ok (.iload_n 1, 1) := by decide +kernel
theorem od_29_5 : decode (ov_byt 29) 5 = .ok (.aload_n 0, 1) := by decide +kernel
theorem og_29_6 : ov_GF 29 6 2 2 := ⟨54, false, 105, by decide +kernel, by decide +kernel⟩
theorem od_29_12 : decode (ov_byt 29) 12 = .ok (.iconst 1, 1) := by decide +kernel
theorem od_29_13 : decode (ov_byt 29) 13 = .ok (.goto 4, 3) := by decide +kernel
theorem od_29_9 : decode (ov_byt 29) 9 = .ok (.if_icmp .ge 7, 3) := by decide +kernel
theorem od_29_1 : decode (ov_byt 29) 1 = .ok (.ifCond .lt 15, 3) := by decide +kernel
theorem od_31_0 : decode (ov_byt 31) 0 = .ok (.aload_n 0, 1) := by decide +kernel
theorem od_31_1 : decode (ov_byt 31) 1 = .ok (.iconst 0, 1) := by decide +kernel
theorem op_31_2 : ov_PF 31 2 4 3 := ⟨21, 188, by decide +kernel, by decide +kernel⟩
theorem od_31_5 : decode (ov_byt 31) 5 = .ok (.return_, 1) := by decide +kernel
theorem od_39_0 : decode (ov_byt 39) 0 = .ok (.aload_n 0, 1) := by decide +kernel
theorem og_39_1 : ov_GF 39 1 2 10 := ⟨60, false, 118, by decide +kernel, by decide +kernel⟩
theorem od_39_4 : decode (ov_byt 39) 4 = .ok (.ireturn, 1) := by decide +kernel
theorem od_41_0 : decode (ov_byt 41) 0 = .ok (.aload_n 0, 1) := by decide +kernel
theorem og_41_1 : ov_GF 41 1 3 3 := ⟨31, false, 166, by decide +kernel, by decide +kernel⟩
theorem od_41_4 : decode (ov_byt 41) 4 = .ok (.ireturn, 1) := by decide +kernel
theorem od_45_0 : decode (ov_byt 45) 0 = .ok (.iload_n 1, 1) := by decide +kernel
theorem od_45_16 : decode (ov_byt 45) 16 = .ok (.iconst 0, 1) := by decide +kernel
theorem od_45_17 : decode (ov_byt 45) 17 = .ok (.ireturn, 1) := by decide +kernel
theorem od_45_4 : decode (ov_byt 45) 4 = .ok (.iload_n 1, 1) := by decide +kernel
theorem od_45_5 : decode (ov_byt 45) 5 = .ok (.aload_n 0, 1) := by decide +kernel
theorem og_45_6 : ov_GF 45 6 2 3 := ⟨57, false, 109, by decide +kernel, by decide +kernel⟩
theorem od_45_12 : decode (ov_byt 45) 12 = .ok (.iconst 1, 1) := by decide +kernel
theorem od_45_13 : decode (ov_byt 45) 13 = .ok (.goto 4, 3) := by decide +kernel
theorem od_45_9 : decode (ov_byt 45) 9 = .ok (.if_icmp .ge 7, 3) := by decide +kernel
theorem od_45_1 : decode (ov_byt 45) 1 = .ok (.ifCond .lt 15, 3) := by decide +kernel
theorem od_49_0 : decode (ov_byt 49) 0 = .ok (.iload_n 0, 1) := by decide +kernel
theorem od_49_14 : decode (ov_byt 49) 14 = .ok (.iconst 0, 1) := by decide +kernel
theorem od_49_15 : decode (ov_byt 49) 15 = .ok (.ireturn, 1) := by decide +kernel
theorem od_49_4 : decode (ov_byt 49) 4 = .ok (.iload_n 0, 1) := by decide +kernel
theorem od_49_5 : decode (ov_byt 49) 5 = .ok (.bipush 18, 2) := by decide +kernel
theorem od_49_10 : decode (ov_byt 49) 10 = .ok (.iconst 1, 1) := by decide +kernel
theorem od_49_11 : decode (ov_byt 49) 11 = .ok (.goto 4, 3) := by decide +kernel
theorem od_49_7 : decode (ov_byt 49) 7 = .ok (.if_icmp .ge 7, 3) := by decide +kernel
theorem od_49_1 : decode (ov_byt 49) 1 = .ok (.ifCond .lt 13, 3) := by decide +kernel
theorem od_50_0 : decode (ov_byt 50) 0 = .ok (.iload_n 0, 1) := by decide +kernel
theorem od_50_9 : decode (ov_byt 50) 9 = .ok (.iload_n 0, 1) := by decide +kernel
theorem od_50_10 : decode (ov_byt 50) 10 = .ok (.ireturn, 1) := by decide +kernel
theorem od_50_4 : decode (ov_byt 50) 4 = .ok (.iload_n 0, 1) := by decide +kernel
theorem od_50_5 : decode (ov_byt 50) 5 = .ok (.ineg, 1) := by decide +kernel
theorem od_50_6 : decode (ov_byt 50) 6 = .ok (.goto 4, 3) := by decide +kernel
theorem od_50_1 : decode (ov_byt 50) 1 = .ok (.ifCond .ge 8, 3) := by decide +kernel
theorem od_51_0 : decode (ov_byt 51) 0 = .ok (.iload_n 0, 1) := by decide +kernel
theorem od_51_1 : decode (ov_byt 51) 1 = .ok (.iload_n 1, 1) := by decide +kernel
theorem od_51_9 : decode (ov_byt 51) 9 = .ok (.iload_n 0, 1) := by decide +kernel
theorem od_51_10 : decode (ov_byt 51) 10 = .ok (.iload_n 1, 1) := by decide +kernel
theorem od_51_18 : decode (ov_byt 51) 18 = .ok (.iconst 1, 1) := by decide +kernel
theorem od_51_19 : decode (ov_byt 51) 19 = .ok (.ireturn, 1) := by decide +kernel
theorem od_51_14 : decode (ov_byt 51) 14 = .ok (.iconst 0, 1) := by decide +kernel
theorem od_51_15 : decode (ov_byt 51) 15 = .ok (.goto 4, 3) := by decide +kernel
theorem od_51_11 : decode (ov_byt 51) 11 = .ok (.if_icmp .ne 7, 3) := by decide +kernel
theorem od_51_5 : decode (ov_byt 51) 5 = .ok (.iconst (-1), 1) := by decide +kernel
theorem od_51_6 : decode (ov_byt 51) 6 = .ok (.goto 13, 3) := by decide +kernel
theorem od_51_2 : decode (ov_byt 51) 2 = .ok (.if_icmp .ge 7, 3) := by decide +kernel
theorem od_52_0 : decode (ov_byt 52) 0 = .ok (.iload_n 0, 1) := by decide +kernel
theorem od_52_1 : decode (ov_byt 52) 1 = .ok (.iload_n 1, 1) := by decide +kernel
theorem od_52_9 : decode (ov_byt 52) 9 = .ok (.iload_n 1, 1) := by decide +kernel
theorem od_52_10 : decode (ov_byt 52) 10 = .ok (.ireturn, 1) := by decide +kernel
theorem od_52_5 : decode (ov_byt 52) 5 = .ok (.iload_n 0, 1) := by decide +kernel
theorem od_52_6 : decode (ov_byt 52) 6 = .ok (.goto 4, 3) := by decide +kernel
theorem od_52_2 : decode (ov_byt 52) 2 = .ok (.if_icmp .lt 7, 3) := by decide +kernel
theorem od_54_0 : decode (ov_byt 54) 0 = .ok (.aload_n 0, 1) := by decide +kernel
theorem og_54_1 : ov_GF 54 1 3 4 := ⟨35, false, 167, by decide +kernel, by decide +kernel⟩
theorem od_54_4 : decode (ov_byt 54) 4 = .ok (.ireturn, 1) := by decide +kernel
theorem od_55_0 : decode (ov_byt 55) 0 = .ok (.aload_n 0, 1) := by decide +kernel
theorem og_55_1 : ov_GF 55 1 4 3 := ⟨21, false, 188, by decide +kernel, by decide +kernel⟩
theorem od_55_4 : decode (ov_byt 55) 4 = .ok (.ireturn, 1) := by decide +kernel
theorem od_56_0 : decode (ov_byt 56) 0 = .ok (.aload_n 0, 1) := by decide +kernel
theorem og_56_1 : ov_GF 56 1 5 2 := ⟨18, false, 206, by decide +kernel, by decide +kernel⟩
theorem od_56_4 : decode (ov_byt 56) 4 = .ok (.ireturn, 1) := by decide +kernel
theorem od_58_0 : decode (ov_byt 58) 0 = .ok (.iload_n 1, 1) := by decide +kernel
theorem od_58_16 : decode (ov_byt 58) 16 = .ok (.iconst 0, 1) := by decide +kernel
theorem od_58_17 : decode (ov_byt 58) 17 = .ok (.ireturn, 1) := by decide +kernel
theorem od_58_4 : decode (ov_byt 58) 4 = .ok (.iload_n 1, 1) := by decide +kernel
theorem od_58_5 : decode (ov_byt 58) 5 = .ok (.aload_n 0, 1) := by decide +kernel
theorem og_58_6 : ov_GF 58 6 2 0 := ⟨47, false, 99, by decide +kernel, by decide +kernel⟩
theorem od_58_12 : decode (ov_byt 58) 12 = .ok (.iconst 1, 1) := by decide +kernel
theorem od_58_13 : decode (ov_byt 58) 13 = .ok (.goto 4, 3) := by decide +kernel
theorem od_58_9 : decode (ov_byt 58) 9 = .ok (.if_icmp .ge 7, 3) := by decide +kernel
theorem od_58_1 : decode (ov_byt 58) 1 = .ok (.ifCond .lt 15, 3) := by decide +kernel
theorem od_68_0 : decode (ov_byt 68) 0 = .ok (.iload_n 0, 1) := by decide +kernel
theorem od_68_1 : decode (ov_byt 68) 1 = .ok (.sipush (-4162), 3) := by decide +kernel
theorem od_68_4 : decode (ov_byt 68) 4 = .ok (.iand, 1) := by decide +kernel
theorem od_68_5 : decode (ov_byt 68) 5 = .ok (.iconst 1, 1) := by decide +kernel
theorem od_68_6 : decode (ov_byt 68) 6 = .ok (.ishr, 1) := by decide +kernel
theorem od_68_7 : decode (ov_byt 68) 7 = .ok (.iload_n 0, 1) := by decide +kernel
theorem ok_68_8 : ∃ w, ov_find ov_kt (23 * 32 + ov_oc 68) = some ((-133153 : Int32), w) := ⟨534, by decide +kernel⟩
theorem od_68_8 : decode (ov_byt 68) 8 = .ok (.ldc 23, 2) := by decide +kernel
theorem od_68_10 : decode (ov_byt 68) 10 = .ok (.iand, 1) := by decide +kernel
theorem od_68_11 : decode (ov_byt 68) 11 = .ok (.iconst 1, 1) := by decide +kernel
theorem od_68_12 : decode (ov_byt 68) 12 = .ok (.ishl, 1) := by decide +kernel
theorem od_68_13 : decode (ov_byt 68) 13 = .ok (.ior, 1) := by decide +kernel
theorem od_68_14 : decode (ov_byt 68) 14 = .ok (.istore_n 2, 1) := by decide +kernel
theorem od_68_15 : decode (ov_byt 68) 15 = .ok (.iload_n 0, 1) := by decide +kernel
theorem od_68_16 : decode (ov_byt 68) 16 = .ok (.bipush 6, 2) := by decide +kernel
theorem od_68_18 : decode (ov_byt 68) 18 = .ok (.ishr, 1) := by decide +kernel
theorem od_68_19 : decode (ov_byt 68) 19 = .ok (.iload_n 0, 1) := by decide +kernel
theorem od_68_20 : decode (ov_byt 68) 20 = .ok (.bipush 6, 2) := by decide +kernel
theorem od_68_22 : decode (ov_byt 68) 22 = .ok (.ishl, 1) := by decide +kernel
theorem od_68_23 : decode (ov_byt 68) 23 = .ok (.ior, 1) := by decide +kernel
theorem od_68_24 : decode (ov_byt 68) 24 = .ok (.istore_n 3, 1) := by decide +kernel
theorem od_68_25 : decode (ov_byt 68) 25 = .ok (.iload_n 2, 1) := by decide +kernel
theorem od_68_26 : decode (ov_byt 68) 26 = .ok (.iload_n 3, 1) := by decide +kernel
theorem od_68_27 : decode (ov_byt 68) 27 = .ok (.ior, 1) := by decide +kernel
theorem od_68_28 : decode (ov_byt 68) 28 = .ok (.iload_n 1, 1) := by decide +kernel
theorem od_68_29 : decode (ov_byt 68) 29 = .ok (.iand, 1) := by decide +kernel
theorem od_68_30 : decode (ov_byt 68) 30 = .ok (.iload_n 0, 1) := by decide +kernel
theorem od_68_31 : decode (ov_byt 68) 31 = .ok (.iconst (-1), 1) := by decide +kernel
theorem od_68_32 : decode (ov_byt 68) 32 = .ok (.ixor, 1) := by decide +kernel
theorem od_68_33 : decode (ov_byt 68) 33 = .ok (.iand, 1) := by decide +kernel
theorem od_68_34 : decode (ov_byt 68) 34 = .ok (.ireturn, 1) := by decide +kernel
theorem od_69_0 : decode (ov_byt 69) 0 = .ok (.iload_n 0, 1) := by decide +kernel
theorem od_69_1 : decode (ov_byt 69) 1 = .ok (.iload_n 0, 1) := by decide +kernel
theorem od_69_2 : decode (ov_byt 69) 2 = .ok (.iconst 1, 1) := by decide +kernel
theorem od_69_3 : decode (ov_byt 69) 3 = .ok (.iushr, 1) := by decide +kernel
theorem ok_69_4 : ∃ w, ov_find ov_kt (265 * 32 + ov_oc 69) = some ((1431655765 : Int32), w) := ⟨538, by decide +kernel⟩
theorem od_69_4 : decode (ov_byt 69) 4 = .ok (.ldc_w 265, 3) := by decide +kernel
theorem od_69_7 : decode (ov_byt 69) 7 = .ok (.iand, 1) := by decide +kernel
theorem od_69_8 : decode (ov_byt 69) 8 = .ok (.isub, 1) := by decide +kernel
theorem od_69_9 : decode (ov_byt 69) 9 = .ok (.istore_n 0, 1) := by decide +kernel
theorem od_69_10 : decode (ov_byt 69) 10 = .ok (.iload_n 0, 1) := by decide +kernel
theorem ok_69_11 : ∃ w, ov_find ov_kt (266 * 32 + ov_oc 69) = some ((858993459 : Int32), w) := ⟨539, by decide +kernel⟩
theorem od_69_11 : decode (ov_byt 69) 11 = .ok (.ldc_w 266, 3) := by decide +kernel
theorem od_69_14 : decode (ov_byt 69) 14 = .ok (.iand, 1) := by decide +kernel
theorem od_69_15 : decode (ov_byt 69) 15 = .ok (.iload_n 0, 1) := by decide +kernel
theorem od_69_16 : decode (ov_byt 69) 16 = .ok (.iconst 2, 1) := by decide +kernel
theorem od_69_17 : decode (ov_byt 69) 17 = .ok (.iushr, 1) := by decide +kernel
theorem ok_69_18 : ∃ w, ov_find ov_kt (266 * 32 + ov_oc 69) = some ((858993459 : Int32), w) := ⟨539, by decide +kernel⟩
theorem od_69_18 : decode (ov_byt 69) 18 = .ok (.ldc_w 266, 3) := by decide +kernel
theorem od_69_21 : decode (ov_byt 69) 21 = .ok (.iand, 1) := by decide +kernel
theorem od_69_22 : decode (ov_byt 69) 22 = .ok (.iadd, 1) := by decide +kernel
theorem od_69_23 : decode (ov_byt 69) 23 = .ok (.istore_n 0, 1) := by decide +kernel
theorem od_69_24 : decode (ov_byt 69) 24 = .ok (.iload_n 0, 1) := by decide +kernel
theorem od_69_25 : decode (ov_byt 69) 25 = .ok (.iload_n 0, 1) := by decide +kernel
theorem od_69_26 : decode (ov_byt 69) 26 = .ok (.iconst 4, 1) := by decide +kernel
theorem od_69_27 : decode (ov_byt 69) 27 = .ok (.iushr, 1) := by decide +kernel
theorem od_69_28 : decode (ov_byt 69) 28 = .ok (.iadd, 1) := by decide +kernel
theorem ok_69_29 : ∃ w, ov_find ov_kt (267 * 32 + ov_oc 69) = some ((252645135 : Int32), w) := ⟨540, by decide +kernel⟩
theorem od_69_29 : decode (ov_byt 69) 29 = .ok (.ldc_w 267, 3) := by decide +kernel
theorem od_69_32 : decode (ov_byt 69) 32 = .ok (.iand, 1) := by decide +kernel
theorem od_69_33 : decode (ov_byt 69) 33 = .ok (.istore_n 0, 1) := by decide +kernel
theorem od_69_34 : decode (ov_byt 69) 34 = .ok (.iload_n 0, 1) := by decide +kernel
theorem od_69_35 : decode (ov_byt 69) 35 = .ok (.iload_n 0, 1) := by decide +kernel
theorem od_69_36 : decode (ov_byt 69) 36 = .ok (.bipush 8, 2) := by decide +kernel
theorem od_69_38 : decode (ov_byt 69) 38 = .ok (.iushr, 1) := by decide +kernel
theorem od_69_39 : decode (ov_byt 69) 39 = .ok (.iadd, 1) := by decide +kernel
theorem od_69_40 : decode (ov_byt 69) 40 = .ok (.istore_n 0, 1) := by decide +kernel
theorem od_69_41 : decode (ov_byt 69) 41 = .ok (.iload_n 0, 1) := by decide +kernel
theorem od_69_42 : decode (ov_byt 69) 42 = .ok (.iload_n 0, 1) := by decide +kernel
theorem od_69_43 : decode (ov_byt 69) 43 = .ok (.bipush 16, 2) := by decide +kernel
theorem od_69_45 : decode (ov_byt 69) 45 = .ok (.iushr, 1) := by decide +kernel
theorem od_69_46 : decode (ov_byt 69) 46 = .ok (.iadd, 1) := by decide +kernel
theorem od_69_47 : decode (ov_byt 69) 47 = .ok (.istore_n 0, 1) := by decide +kernel
theorem od_69_48 : decode (ov_byt 69) 48 = .ok (.iload_n 0, 1) := by decide +kernel
theorem od_69_49 : decode (ov_byt 69) 49 = .ok (.bipush 63, 2) := by decide +kernel
theorem od_69_51 : decode (ov_byt 69) 51 = .ok (.iand, 1) := by decide +kernel
theorem od_69_52 : decode (ov_byt 69) 52 = .ok (.ireturn, 1) := by decide +kernel
theorem od_76_0 : decode (ov_byt 76) 0 = .ok (.aload_n 0, 1) := by decide +kernel
theorem od_76_1 : decode (ov_byt 76) 1 = .ok (.bipush 13, 2) := by decide +kernel
theorem op_76_3 : ov_PF 76 3 4 3 := ⟨21, 188, by decide +kernel, by decide +kernel⟩
theorem od_76_6 : decode (ov_byt 76) 6 = .ok (.aload_n 0, 1) := by decide +kernel
theorem og_76_7 : ov_GF 76 7 4 0 := ⟨9, true, 185, by decide +kernel, by decide +kernel⟩
theorem od_76_10 : decode (ov_byt 76) 10 = .ok (.iconst 1, 1) := by decide +kernel
theorem od_76_11 : decode (ov_byt 76) 11 = .ok (.aload_n 0, 1) := by decide +kernel
theorem og_76_12 : ov_GF 76 12 4 0 := ⟨9, true, 185, by decide +kernel, by decide +kernel⟩
theorem od_76_15 : decode (ov_byt 76) 15 = .ok (.iconst 0, 1) := by decide +kernel
theorem od_76_16 : decode (ov_byt 76) 16 = .ok (.aload_n 0, 1) := by decide +kernel
theorem og_76_17 : ov_GF 76 17 4 3 := ⟨21, false, 188, by decide +kernel, by decide +kernel⟩
theorem oy_76_20 : ov_CY 76 20 := ⟨28, 575, by decide +kernel, by decide +kernel, by decide +kernel⟩
theorem od_76_23 : decode (ov_byt 76) 23 = .ok (.aload_n 0, 1) := by decide +kernel
theorem og_76_24 : ov_GF 76 24 4 1 := ⟨15, true, 186, by decide +kernel, by decide +kernel⟩
theorem od_76_27 : decode (ov_byt 76) 27 = .ok (.iconst 1, 1) := by decide +kernel
theorem od_76_28 : decode (ov_byt 76) 28 = .ok (.aload_n 0, 1) := by decide +kernel
theorem og_76_29 : ov_GF 76 29 4 1 := ⟨15, true, 186, by decide +kernel, by decide +kernel⟩
theorem od_76_32 : decode (ov_byt 76) 32 = .ok (.iconst 0, 1) := by decide +kernel
theorem od_76_33 : decode (ov_byt 76) 33 = .ok (.aload_n 0, 1) := by decide +kernel
theorem og_76_34 : ov_GF 76 34 4 3 := ⟨21, false, 188, by decide +kernel, by decide +kernel⟩
theorem oy_76_37 : ov_CY 76 37 := ⟨28, 575, by decide +kernel, by decide +kernel, by decide +kernel⟩
theorem od_76_40 : decode (ov_byt 76) 40 = .ok (.aload_n 0, 1) := by decide +kernel
theorem og_76_41 : ov_GF 76 41 4 2 := ⟨18, true, 187, by decide +kernel, by decide +kernel⟩
theorem od_76_44 : decode (ov_byt 76) 44 = .ok (.iconst 1, 1) := by decide +kernel
theorem od_76_45 : decode (ov_byt 76) 45 = .ok (.aload_n 0, 1) := by decide +kernel
theorem og_76_46 : ov_GF 76 46 4 2 := ⟨18, true, 187, by decide +kernel, by decide +kernel⟩
theorem od_76_49 : decode (ov_byt 76) 49 = .ok (.iconst 0, 1) := by decide +kernel
theorem od_76_50 : decode (ov_byt 76) 50 = .ok (.aload_n 0, 1) := by decide +kernel
theorem og_76_51 : ov_GF 76 51 4 3 := ⟨21, false, 188, by decide +kernel, by decide +kernel⟩
theorem oy_76_54 : ov_CY 76 54 := ⟨28, 575, by decide +kernel, by decide +kernel, by decide +kernel⟩
theorem od_76_57 : decode (ov_byt 76) 57 = .ok (.return_, 1) := by decide +kernel
theorem od_86_0 : decode (ov_byt 86) 0 = .ok (.aload_n 0, 1) := by decide +kernel
theorem og_86_1 : ov_GF 86 1 4 3 := ⟨21, false, 188, by decide +kernel, by decide +kernel⟩
theorem od_86_21 : decode (ov_byt 86) 21 = .ok (.bipush (-9), 2) := by decide +kernel
theorem od_86_23 : decode (ov_byt 86) 23 = .ok (.ireturn, 1) := by decide +kernel
theorem od_86_7 : decode (ov_byt 86) 7 = .ok (.aload_n 0, 1) := by decide +kernel
theorem og_86_8 : ov_GF 86 8 4 0 := ⟨9, true, 185, by decide +kernel, by decide +kernel⟩
theorem od_86_11 : decode (ov_byt 86) 11 = .ok (.aload_n 0, 1) := by decide +kernel
theorem og_86_12 : ov_GF 86 12 4 3 := ⟨21, false, 188, by decide +kernel, by decide +kernel⟩
theorem od_86_15 : decode (ov_byt 86) 15 = .ok (.iconst 1, 1) := by decide +kernel
theorem od_86_16 : decode (ov_byt 86) 16 = .ok (.isub, 1) := by decide +kernel
theorem od_86_17 : decode (ov_byt 86) 17 = .ok (.iaload, 1) := by decide +kernel
theorem od_86_18 : decode (ov_byt 86) 18 = .ok (.goto 5, 3) := by decide +kernel
theorem od_86_4 : decode (ov_byt 86) 4 = .ok (.ifCond .le 17, 3) := by decide +kernel
theorem od_87_0 : decode (ov_byt 87) 0 = .ok (.aload_n 0, 1) := by decide +kernel
theorem og_87_1 : ov_GF 87 1 4 3 := ⟨21, false, 188, by decide +kernel, by decide +kernel⟩
theorem od_87_21 : decode (ov_byt 87) 21 = .ok (.bipush (-9), 2) := by decide +kernel
theorem od_87_23 : decode (ov_byt 87) 23 = .ok (.ireturn, 1) := by decide +kernel
theorem od_87_7 : decode (ov_byt 87) 7 = .ok (.aload_n 0, 1) := by decide +kernel
theorem og_87_8 : ov_GF 87 8 4 1 := ⟨15, true, 186, by decide +kernel, by decide +kernel⟩
theorem od_87_11 : decode (ov_byt 87) 11 = .ok (.aload_n 0, 1) := by decide +kernel
theorem og_87_12 : ov_GF 87 12 4 3 := ⟨21, false, 188, by decide +kernel, by decide +kernel⟩
theorem od_87_15 : decode (ov_byt 87) 15 = .ok (.iconst 1, 1) := by decide +kernel
theorem od_87_16 : decode (ov_byt 87) 16 = .ok (.isub, 1) := by decide +kernel
theorem od_87_17 : decode (ov_byt 87) 17 = .ok (.iaload, 1) := by decide +kernel
theorem od_87_18 : decode (ov_byt 87) 18 = .ok (.goto 5, 3) := by decide +kernel
theorem od_87_4 : decode (ov_byt 87) 4 = .ok (.ifCond .le 17, 3) := by decide +kernel
theorem od_88_0 : decode (ov_byt 88) 0 = .ok (.aload_n 0, 1) := by decide +kernel
theorem og_88_1 : ov_GF 88 1 4 3 := ⟨21, false, 188, by decide +kernel, by decide +kernel⟩
theorem od_88_21 : decode (ov_byt 88) 21 = .ok (.bipush (-9), 2) := by decide +kernel
theorem od_88_23 : decode (ov_byt 88) 23 = .ok (.ireturn, 1) := by decide +kernel
theorem od_88_7 : decode (ov_byt 88) 7 = .ok (.aload_n 0, 1) := by decide +kernel
theorem og_88_8 : ov_GF 88 8 4 2 := ⟨18, true, 187, by decide +kernel, by decide +kernel⟩
theorem od_88_11 : decode (ov_byt 88) 11 = .ok (.aload_n 0, 1) := by decide +kernel
theorem og_88_12 : ov_GF 88 12 4 3 := ⟨21, false, 188, by decide +kernel, by decide +kernel⟩
theorem od_88_15 : decode (ov_byt 88) 15 = .ok (.iconst 1, 1) := by decide +kernel
theorem od_88_16 : decode (ov_byt 88) 16 = .ok (.isub, 1) := by decide +kernel
theorem od_88_17 : decode (ov_byt 88) 17 = .ok (.iaload, 1) := by decide +kernel
theorem od_88_18 : decode (ov_byt 88) 18 = .ok (.goto 5, 3) := by decide +kernel
theorem od_88_4 : decode (ov_byt 88) 4 = .ok (.ifCond .le 17, 3) := by decide +kernel
theorem od_91_0 : decode (ov_byt 91) 0 = .ok (.iload_n 1, 1) := by decide +kernel
theorem od_91_20 : decode (ov_byt 91) 20 = .ok (.iload_n 0, 1) := by decide +kernel
theorem od_91_21 : decode (ov_byt 91) 21 = .ok (.ireturn, 1) := by decide +kernel
theorem od_91_4 : decode (ov_byt 91) 4 = .ok (.iload_n 1, 1) := by decide +kernel
theorem od_91_5 : decode (ov_byt 91) 5 = .ok (.bipush 31, 2) := by decide +kernel
theorem od_91_10 : decode (ov_byt 91) 10 = .ok (.iload_n 0, 1) := by decide +kernel
theorem od_91_11 : decode (ov_byt 91) 11 = .ok (.iconst 1, 1) := by decide +kernel
theorem od_91_12 : decode (ov_byt 91) 12 = .ok (.iload_n 1, 1) := by decide +kernel
theorem od_91_13 : decode (ov_byt 91) 13 = .ok (.ishl, 1) := by decide +kernel
theorem od_91_14 : decode (ov_byt 91) 14 = .ok (.iconst (-1), 1) := by decide +kernel
theorem od_91_15 : decode (ov_byt 91) 15 = .ok (.ixor, 1) := by decide +kernel
theorem od_91_16 : decode (ov_byt 91) 16 = .ok (.iand, 1) := by decide +kernel
theorem od_91_17 : decode (ov_byt 91) 17 = .ok (.goto 4, 3) := by decide +kernel
theorem od_91_7 : decode (ov_byt 91) 7 = .ok (.if_icmp .ge 13, 3) := by decide +kernel
theorem od_91_1 : decode (ov_byt 91) 1 = .ok (.ifCond .lt 19, 3) := by decide +kernel
theorem od_92_0 : decode (ov_byt 92) 0 = .ok (.aload_n 0, 1) := by decide +kernel
theorem od_92_1 : decode (ov_byt 92) 1 = .ok (.iconst 0, 1) := by decide +kernel
theorem od_92_2 : decode (ov_byt 92) 2 = .ok (.aload_n 0, 1) := by decide +kernel
theorem og_92_3 : ov_GF 92 3 4 3 := ⟨21, false, 188, by decide +kernel, by decide +kernel⟩
theorem od_92_6 : decode (ov_byt 92) 6 = .ok (.iconst 1, 1) := by decide +kernel
theorem od_92_7 : decode (ov_byt 92) 7 = .ok (.isub, 1) := by decide +kernel
theorem ox_92_8 : ov_XL 92 8 1 := ⟨34, 647, by decide +kernel, by decide +kernel⟩
theorem op_92_11 : ov_PF 92 11 4 3 := ⟨21, 188, by decide +kernel, by decide +kernel⟩
theorem od_92_14 : decode (ov_byt 92) 14 = .ok (.return_, 1) := by decide +kernel
theorem od_97_0 : decode (ov_byt 97) 0 = .ok (.aload_n 1, 1) := by decide +kernel
theorem og_97_1 : ov_GF 97 1 3 1 := ⟨9, true, 164, by decide +kernel, by decide +kernel⟩
theorem od_97_4 : decode (ov_byt 97) 4 = .ok (.iconst 0, 1) := by decide +kernel
theorem od_97_5 : decode (ov_byt 97) 5 = .ok (.aload_n 0, 1) := by decide +kernel
theorem og_97_6 : ov_GF 97 6 3 1 := ⟨9, true, 164, by decide +kernel, by decide +kernel⟩
theorem od_97_9 : decode (ov_byt 97) 9 = .ok (.iconst 0, 1) := by decide +kernel
theorem od_97_10 : decode (ov_byt 97) 10 = .ok (.bipush 6, 2) := by decide +kernel
theorem oy_97_12 : ov_CY 97 12 := ⟨38, 668, by decide +kernel, by decide +kernel, by decide +kernel⟩
theorem od_97_15 : decode (ov_byt 97) 15 = .ok (.aload_n 1, 1) := by decide +kernel
theorem og_97_16 : ov_GF 97 16 3 2 := ⟨15, true, 165, by decide +kernel, by decide +kernel⟩
theorem od_97_19 : decode (ov_byt 97) 19 = .ok (.iconst 0, 1) := by decide +kernel
theorem od_97_20 : decode (ov_byt 97) 20 = .ok (.aload_n 0, 1) := by decide +kernel
theorem og_97_21 : ov_GF 97 21 3 2 := ⟨15, true, 165, by decide +kernel, by decide +kernel⟩
theorem od_97_24 : decode (ov_byt 97) 24 = .ok (.iconst 0, 1) := by decide +kernel
theorem od_97_25 : decode (ov_byt 97) 25 = .ok (.iconst 4, 1) := by decide +kernel
theorem oy_97_26 : ov_CY 97 26 := ⟨38, 668, by decide +kernel, by decide +kernel, by decide +kernel⟩
theorem od_97_29 : decode (ov_byt 97) 29 = .ok (.aload_n 0, 1) := by decide +kernel
theorem od_97_30 : decode (ov_byt 97) 30 = .ok (.aload_n 1, 1) := by decide +kernel
theorem og_97_31 : ov_GF 97 31 3 3 := ⟨31, false, 166, by decide +kernel, by decide +kernel⟩
theorem op_97_34 : ov_PF 97 34 3 3 := ⟨31, 166, by decide +kernel, by decide +kernel⟩
theorem od_97_37 : decode (ov_byt 97) 37 = .ok (.aload_n 0, 1) := by decide +kernel
theorem od_97_38 : decode (ov_byt 97) 38 = .ok (.aload_n 1, 1) := by decide +kernel
theorem og_97_39 : ov_GF 97 39 3 4 := ⟨35, false, 167, by decide +kernel, by decide +kernel⟩
theorem op_97_42 : ov_PF 97 42 3 4 := ⟨35, 167, by decide +kernel, by decide +kernel⟩
theorem od_97_45 : decode (ov_byt 97) 45 = .ok (.return_, 1) := by decide +kernel
theorem od_108_0 : decode (ov_byt 108) 0 = .ok (.aload_n 0, 1) := by decide +kernel
theorem og_108_1 : ov_GF 108 1 6 3 := ⟨23, false, 223, by decide +kernel, by decide +kernel⟩
theorem od_108_4 : decode (ov_byt 108) 4 = .ok (.ireturn, 1) := by decide +kernel
theorem od_109_0 : decode (ov_byt 109) 0 = .ok (.aload_n 0, 1) := by decide +kernel
theorem og_109_1 : ov_GF 109 1 6 2 := ⟨19, false, 222, by decide +kernel, by decide +kernel⟩
theorem od_109_4 : decode (ov_byt 109) 4 = .ok (.ireturn, 1) := by decide +kernel
theorem od_115_0 : decode (ov_byt 115) 0 = .ok (.lconst 1, 1) := by decide +kernel
theorem od_115_1 : decode (ov_byt 115) 1 = .ok (.lstore_n 2, 1) := by decide +kernel
theorem od_115_2 : decode (ov_byt 115) 2 = .ok (.iconst 0, 1) := by decide +kernel
theorem od_115_3 : decode (ov_byt 115) 3 = .ok (.istore 4, 2) := by decide +kernel
theorem od_115_5 : decode (ov_byt 115) 5 = .ok (.iload 4, 2) := by decide +kernel
theorem od_115_7 : decode (ov_byt 115) 7 = .ok (.iload_n 1, 1) := by decide +kernel
theorem od_115_11 : decode (ov_byt 115) 11 = .ok (.lload_n 2, 1) := by decide +kernel
theorem od_115_12 : decode (ov_byt 115) 12 = .ok (.iload_n 0, 1) := by decide +kernel
theorem od_115_13 : decode (ov_byt 115) 13 = .ok (.i2l, 1) := by decide +kernel
theorem od_115_14 : decode (ov_byt 115) 14 = .ok (.lmul, 1) := by decide +kernel
theorem od_115_15 : decode (ov_byt 115) 15 = .ok (.lstore_n 2, 1) := by decide +kernel
theorem od_115_16 : decode (ov_byt 115) 16 = .ok (.iinc 4 1, 3) := by decide +kernel
theorem od_115_19 : decode (ov_byt 115) 19 = .ok (.goto (-14), 3) := by decide +kernel
theorem od_115_8 : decode (ov_byt 115) 8 = .ok (.if_icmp .ge 14, 3) := by decide +kernel
theorem od_115_22 : decode (ov_byt 115) 22 = .ok (.lload_n 2, 1) := by decide +kernel
theorem od_115_23 : decode (ov_byt 115) 23 = .ok (.lreturn, 1) := by decide +kernel
theorem od_116_0 : decode (ov_byt 116) 0 = .ok (.lload_n 0, 1) := by decide +kernel
theorem od_116_1 : decode (ov_byt 116) 1 = .ok (.lstore_n 3, 1) := by decide +kernel
theorem od_116_2 : decode (ov_byt 116) 2 = .ok (.iconst 0, 1) := by decide +kernel
theorem od_116_3 : decode (ov_byt 116) 3 = .ok (.istore 5, 2) := by decide +kernel
theorem od_116_5 : decode (ov_byt 116) 5 = .ok (.iload 5, 2) := by decide +kernel
theorem od_116_7 : decode (ov_byt 116) 7 = .ok (.iload_n 2, 1) := by decide +kernel
theorem od_116_11 : decode (ov_byt 116) 11 = .ok (.lload_n 3, 1) := by decide +kernel
theorem ok_116_12 : ∃ w, ov_find ov_k2t (294 * 32 + ov_oc 116) = some ((1000 : Int64), w) := ⟨756, by decide +kernel⟩
theorem od_116_12 : decode (ov_byt 116) 12 = .ok (.ldc2_w 294, 3) := by decide +kernel
theorem od_116_15 : decode (ov_byt 116) 15 = .ok (.ldiv, 1) := by decide +kernel
theorem od_116_16 : decode (ov_byt 116) 16 = .ok (.lstore_n 3, 1) := by decide +kernel
theorem od_116_17 : decode (ov_byt 116) 17 = .ok (.iinc 5 1, 3) := by decide +kernel
theorem od_116_20 : decode (ov_byt 116) 20 = .ok (.goto (-15), 3) := by decide +kernel
theorem od_116_8 : decode (ov_byt 116) 8 = .ok (.if_icmp .ge 15, 3) := by decide +kernel
theorem od_116_23 : decode (ov_byt 116) 23 = .ok (.lload_n 3, 1) := by decide +kernel
theorem ok_116_24 : ∃ w, ov_find ov_k2t (294 * 32 + ov_oc 116) = some ((1000 : Int64), w) := ⟨756, by decide +kernel⟩
theorem od_116_24 : decode (ov_byt 116) 24 = .ok (.ldc2_w 294, 3) := by decide +kernel
theorem od_116_27 : decode (ov_byt 116) 27 = .ok (.lrem, 1) := by decide +kernel
theorem od_116_28 : decode (ov_byt 116) 28 = .ok (.l2i, 1) := by decide +kernel
theorem od_116_29 : decode (ov_byt 116) 29 = .ok (.ireturn, 1) := by decide +kernel
theorem od_120_0 : decode (ov_byt 120) 0 = .ok (.lload_n 0, 1) := by decide +kernel
theorem od_120_1 : decode (ov_byt 120) 1 = .ok (.lconst 0, 1) := by decide +kernel
theorem od_120_2 : decode (ov_byt 120) 2 = .ok (.lcmp, 1) := by decide +kernel
theorem od_120_11 : decode (ov_byt 120) 11 = .ok (.lload_n 0, 1) := by decide +kernel
theorem od_120_12 : decode (ov_byt 120) 12 = .ok (.lreturn, 1) := by decide +kernel
theorem od_120_6 : decode (ov_byt 120) 6 = .ok (.lload_n 0, 1) := by decide +kernel
theorem od_120_7 : decode (ov_byt 120) 7 = .ok (.lneg, 1) := by decide +kernel
theorem od_120_8 : decode (ov_byt 120) 8 = .ok (.goto 4, 3) := by decide +kernel
theorem od_120_3 : decode (ov_byt 120) 3 = .ok (.ifCond .ge 8, 3) := by decide +kernel
theorem od_121_0 : decode (ov_byt 121) 0 = .ok (.lload_n 0, 1) := by decide +kernel
theorem od_121_1 : decode (ov_byt 121) 1 = .ok (.lstore 4, 2) := by decide +kernel
theorem od_121_3 : decode (ov_byt 121) 3 = .ok (.lload_n 2, 1) := by decide +kernel
theorem od_121_4 : decode (ov_byt 121) 4 = .ok (.lstore 6, 2) := by decide +kernel
theorem od_121_6 : decode (ov_byt 121) 6 = .ok (.iconst 0, 1) := by decide +kernel
theorem od_121_7 : decode (ov_byt 121) 7 = .ok (.istore 8, 2) := by decide +kernel
theorem od_121_9 : decode (ov_byt 121) 9 = .ok (.iload 8, 2) := by decide +kernel
theorem od_121_11 : decode (ov_byt 121) 11 = .ok (.sipush 1000, 3) := by decide +kernel
theorem od_121_17 : decode (ov_byt 121) 17 = .ok (.lload 6, 2) := by decide +kernel
theorem od_121_19 : decode (ov_byt 121) 19 = .ok (.lconst 0, 1) := by decide +kernel
theorem od_121_20 : decode (ov_byt 121) 20 = .ok (.lcmp, 1) := by decide +kernel
theorem od_121_24 : decode (ov_byt 121) 24 = .ok (.lload 4, 2) := by decide +kernel
theorem od_121_26 : decode (ov_byt 121) 26 = .ok (.lload 6, 2) := by decide +kernel
theorem od_121_28 : decode (ov_byt 121) 28 = .ok (.lrem, 1) := by decide +kernel
theorem od_121_29 : decode (ov_byt 121) 29 = .ok (.lstore 9, 2) := by decide +kernel
theorem od_121_31 : decode (ov_byt 121) 31 = .ok (.lload 6, 2) := by decide +kernel
theorem od_121_33 : decode (ov_byt 121) 33 = .ok (.lstore 4, 2) := by decide +kernel
theorem od_121_35 : decode (ov_byt 121) 35 = .ok (.lload 9, 2) := by decide +kernel
theorem od_121_37 : decode (ov_byt 121) 37 = .ok (.lstore 6, 2) := by decide +kernel
theorem od_121_39 : decode (ov_byt 121) 39 = .ok (.iinc 8 1, 3) := by decide +kernel
theorem od_121_42 : decode (ov_byt 121) 42 = .ok (.goto (-33), 3) := by decide +kernel
theorem od_121_21 : decode (ov_byt 121) 21 = .ok (.ifCond .eq 24, 3) := by decide +kernel
theorem od_121_14 : decode (ov_byt 121) 14 = .ok (.if_icmp .ge 31, 3) := by decide +kernel
theorem od_121_45 : decode (ov_byt 121) 45 = .ok (.lload 4, 2) := by decide +kernel
theorem od_121_47 : decode (ov_byt 121) 47 = .ok (.lreturn, 1) := by decide +kernel
theorem od_122_0 : decode (ov_byt 122) 0 = .ok (.lconst 1, 1) := by decide +kernel
theorem od_122_1 : decode (ov_byt 122) 1 = .ok (.lstore_n 1, 1) := by decide +kernel
theorem od_122_2 : decode (ov_byt 122) 2 = .ok (.iconst 2, 1) := by decide +kernel
theorem od_122_3 : decode (ov_byt 122) 3 = .ok (.istore_n 3, 1) := by decide +kernel
theorem od_122_4 : decode (ov_byt 122) 4 = .ok (.iload_n 3, 1) := by decide +kernel
theorem od_122_5 : decode (ov_byt 122) 5 = .ok (.iload_n 0, 1) := by decide +kernel
theorem od_122_9 : decode (ov_byt 122) 9 = .ok (.lload_n 1, 1) := by decide +kernel
theorem od_122_10 : decode (ov_byt 122) 10 = .ok (.iload_n 3, 1) := by decide +kernel
theorem od_122_11 : decode (ov_byt 122) 11 = .ok (.i2l, 1) := by decide +kernel
theorem od_122_12 : decode (ov_byt 122) 12 = .ok (.lmul, 1) := by decide +kernel
theorem od_122_13 : decode (ov_byt 122) 13 = .ok (.lstore_n 1, 1) := by decide +kernel
theorem od_122_14 : decode (ov_byt 122) 14 = .ok (.iinc 3 1, 3) := by decide +kernel
theorem od_122_17 : decode (ov_byt 122) 17 = .ok (.goto (-13), 3) := by decide +kernel
theorem od_122_6 : decode (ov_byt 122) 6 = .ok (.if_icmp .gt 14, 3) := by decide +kernel
theorem od_122_20 : decode (ov_byt 122) 20 = .ok (.lload_n 1, 1) := by decide +kernel
theorem od_122_21 : decode (ov_byt 122) 21 = .ok (.lreturn, 1) := by decide +kernel
theorem od_124_0 : decode (ov_byt 124) 0 = .ok (.aload_n 0, 1) := by decide +kernel
theorem og_124_1 : ov_GF 124 1 5 2 := ⟨18, false, 206, by decide +kernel, by decide +kernel⟩
theorem od_124_4 : decode (ov_byt 124) 4 = .ok (.bipush 6, 2) := by decide +kernel
theorem od_124_11 : decode (ov_byt 124) 11 = .ok (.aload_n 0, 1) := by decide +kernel
theorem og_124_12 : ov_GF 124 12 5 0 := ⟨9, true, 204, by decide +kernel, by decide +kernel⟩
theorem od_124_15 : decode (ov_byt 124) 15 = .ok (.aload_n 0, 1) := by decide +kernel
theorem og_124_16 : ov_GF 124 16 5 2 := ⟨18, false, 206, by decide +kernel, by decide +kernel⟩
theorem od_124_19 : decode (ov_byt 124) 19 = .ok (.iload_n 1, 1) := by decide +kernel
theorem od_124_20 : decode (ov_byt 124) 20 = .ok (.iastore, 1) := by decide +kernel
theorem od_124_21 : decode (ov_byt 124) 21 = .ok (.aload_n 0, 1) := by decide +kernel
theorem og_124_22 : ov_GF 124 22 5 1 := ⟨15, true, 205, by decide +kernel, by decide +kernel⟩
theorem od_124_25 : decode (ov_byt 124) 25 = .ok (.aload_n 0, 1) := by decide +kernel
theorem og_124_26 : ov_GF 124 26 5 2 := ⟨18, false, 206, by decide +kernel, by decide +kernel⟩
theorem od_124_29 : decode (ov_byt 124) 29 = .ok (.iload_n 2, 1) := by decide +kernel
theorem od_124_30 : decode (ov_byt 124) 30 = .ok (.iastore, 1) := by decide +kernel
theorem od_124_31 : decode (ov_byt 124) 31 = .ok (.aload_n 0, 1) := by decide +kernel
theorem od_124_32 : decode (ov_byt 124) 32 = .ok (.dup, 1) := by decide +kernel
theorem og_124_33 : ov_GF 124 33 5 2 := ⟨18, false, 206, by decide +kernel, by decide +kernel⟩
theorem od_124_36 : decode (ov_byt 124) 36 = .ok (.iconst 1, 1) := by decide +kernel
theorem od_124_37 : decode (ov_byt 124) 37 = .ok (.iadd, 1) := by decide +kernel
theorem op_124_38 : ov_PF 124 38 5 2 := ⟨18, 206, by decide +kernel, by decide +kernel⟩
theorem od_124_41 : decode (ov_byt 124) 41 = .ok (.iconst 1, 1) := by decide +kernel
theorem od_124_42 : decode (ov_byt 124) 42 = .ok (.ireturn, 1) := by decide +kernel
theorem od_124_9 : decode (ov_byt 124) 9 = .ok (.iconst 0, 1) := by decide +kernel
theorem od_124_10 : decode (ov_byt 124) 10 = .ok (.ireturn, 1) := by decide +kernel
theorem od_124_6 : decode (ov_byt 124) 6 = .ok (.if_icmp .lt 5, 3) := by decide +kernel
theorem od_126_0 : decode (ov_byt 126) 0 = .ok (.aload_n 0, 1) := by decide +kernel
theorem od_126_1 : decode (ov_byt 126) 1 = .ok (.iconst 0, 1) := by decide +kernel
theorem op_126_2 : ov_PF 126 2 5 2 := ⟨18, 206, by decide +kernel, by decide +kernel⟩
theorem od_126_5 : decode (ov_byt 126) 5 = .ok (.return_, 1) := by decide +kernel
theorem od_132_0 : decode (ov_byt 132) 0 = .ok (.iload_n 0, 1) := by decide +kernel
theorem od_132_1 : decode (ov_byt 132) 1 = .ok (.bipush (-9), 2) := by decide +kernel
theorem od_132_8 : decode (ov_byt 132) 8 = .ok (.iload_n 1, 1) := by decide +kernel
theorem od_132_19 : decode (ov_byt 132) 19 = .ok (.iconst 1, 1) := by decide +kernel
theorem od_132_20 : decode (ov_byt 132) 20 = .ok (.ireturn, 1) := by decide +kernel
theorem od_132_12 : decode (ov_byt 132) 12 = .ok (.bipush 9, 2) := by decide +kernel
theorem od_132_14 : decode (ov_byt 132) 14 = .ok (.iload_n 0, 1) := by decide +kernel
theorem od_132_15 : decode (ov_byt 132) 15 = .ok (.isub, 1) := by decide +kernel
theorem od_132_16 : decode (ov_byt 132) 16 = .ok (.goto 4, 3) := by decide +kernel
theorem od_132_9 : decode (ov_byt 132) 9 = .ok (.ifCond .eq 10, 3) := by decide +kernel
theorem od_132_6 : decode (ov_byt 132) 6 = .ok (.iconst 0, 1) := by decide +kernel
theorem od_132_7 : decode (ov_byt 132) 7 = .ok (.ireturn, 1) := by decide +kernel
theorem od_132_3 : decode (ov_byt 132) 3 = .ok (.if_icmp .ne 5, 3) := by decide +kernel
theorem od_133_0 : decode (ov_byt 133) 0 = .ok (.iconst 3, 1) := by decide +kernel
theorem od_133_1 : decode (ov_byt 133) 1 = .ok (.iload_n 1, 1) := by decide +kernel
theorem od_133_2 : decode (ov_byt 133) 2 = .ok (.imul, 1) := by decide +kernel
theorem od_133_3 : decode (ov_byt 133) 3 = .ok (.iload_n 2, 1) := by decide +kernel
theorem od_133_4 : decode (ov_byt 133) 4 = .ok (.iadd, 1) := by decide +kernel
theorem od_133_5 : decode (ov_byt 133) 5 = .ok (.istore_n 3, 1) := by decide +kernel
theorem od_133_6 : decode (ov_byt 133) 6 = .ok (.iconst 0, 1) := by decide +kernel
theorem od_133_7 : decode (ov_byt 133) 7 = .ok (.istore 4, 2) := by decide +kernel
theorem od_133_9 : decode (ov_byt 133) 9 = .ok (.iload 4, 2) := by decide +kernel
theorem od_133_11 : decode (ov_byt 133) 11 = .ok (.aload_n 0, 1) := by decide +kernel
theorem og_133_12 : ov_GF 133 12 7 0 := ⟨18, true, 239, by decide +kernel, by decide +kernel⟩
theorem og_133_15 : ov_GF 133 15 2 0 := ⟨36, false, 100, by decide +kernel, by decide +kernel⟩
theorem od_133_21 : decode (ov_byt 133) 21 = .ok (.aload_n 0, 1) := by decide +kernel
theorem og_133_22 : ov_GF 133 22 7 3 := ⟨9, true, 242, by decide +kernel, by decide +kernel⟩
theorem od_133_25 : decode (ov_byt 133) 25 = .ok (.iconst 3, 1) := by decide +kernel
theorem od_133_26 : decode (ov_byt 133) 26 = .ok (.iload 4, 2) := by decide +kernel
theorem od_133_28 : decode (ov_byt 133) 28 = .ok (.imul, 1) := by decide +kernel
theorem od_133_29 : decode (ov_byt 133) 29 = .ok (.iload_n 2, 1) := by decide +kernel
theorem od_133_30 : decode (ov_byt 133) 30 = .ok (.iadd, 1) := by decide +kernel
theorem od_133_31 : decode (ov_byt 133) 31 = .ok (.iaload, 1) := by decide +kernel
theorem od_133_32 : decode (ov_byt 133) 32 = .ok (.aload_n 0, 1) := by decide +kernel
theorem og_133_33 : ov_GF 133 33 7 3 := ⟨9, true, 242, by decide +kernel, by decide +kernel⟩
theorem od_133_36 : decode (ov_byt 133) 36 = .ok (.iload_n 3, 1) := by decide +kernel
theorem od_133_37 : decode (ov_byt 133) 37 = .ok (.iaload, 1) := by decide +kernel
theorem od_133_45 : decode (ov_byt 133) 45 = .ok (.iconst 0, 1) := by decide +kernel
theorem od_133_46 : decode (ov_byt 133) 46 = .ok (.istore 5, 2) := by decide +kernel
theorem od_133_48 : decode (ov_byt 133) 48 = .ok (.aload_n 0, 1) := by decide +kernel
theorem og_133_49 : ov_GF 133 49 7 4 := ⟨15, true, 243, by decide +kernel, by decide +kernel⟩
theorem od_133_52 : decode (ov_byt 133) 52 = .ok (.iconst 3, 1) := by decide +kernel
theorem od_133_53 : decode (ov_byt 133) 53 = .ok (.iload_n 1, 1) := by decide +kernel
theorem od_133_54 : decode (ov_byt 133) 54 = .ok (.imul, 1) := by decide +kernel
theorem od_133_55 : decode (ov_byt 133) 55 = .ok (.iload 4, 2) := by decide +kernel
theorem od_133_57 : decode (ov_byt 133) 57 = .ok (.iadd, 1) := by decide +kernel
theorem od_133_58 : decode (ov_byt 133) 58 = .ok (.iaload, 1) := by decide +kernel
theorem od_133_59 : decode (ov_byt 133) 59 = .ok (.aload_n 0, 1) := by decide +kernel
theorem og_133_60 : ov_GF 133 60 7 4 := ⟨15, true, 243, by decide +kernel, by decide +kernel⟩
theorem od_133_63 : decode (ov_byt 133) 63 = .ok (.iload_n 3, 1) := by decide +kernel
theorem od_133_64 : decode (ov_byt 133) 64 = .ok (.iaload, 1) := by decide +kernel
theorem od_133_72 : decode (ov_byt 133) 72 = .ok (.iconst 0, 1) := by decide +kernel
theorem od_133_73 : decode (ov_byt 133) 73 = .ok (.istore 6, 2) := by decide +kernel
theorem od_133_75 : decode (ov_byt 133) 75 = .ok (.iload 5, 2) := by decide +kernel
theorem od_133_85 : decode (ov_byt 133) 85 = .ok (.iconst 0, 1) := by decide +kernel
theorem od_133_86 : decode (ov_byt 133) 86 = .ok (.ireturn, 1) := by decide +kernel
theorem od_133_80 : decode (ov_byt 133) 80 = .ok (.iload 6, 2) := by decide +kernel
theorem od_133_87 : decode (ov_byt 133) 87 = .ok (.iinc 4 1, 3) := by decide +kernel
theorem od_133_90 : decode (ov_byt 133) 90 = .ok (.goto (-81), 3) := by decide +kernel
theorem od_133_82 : decode (ov_byt 133) 82 = .ok (.ifCond .eq 5, 3) := by decide +kernel
theorem od_133_77 : decode (ov_byt 133) 77 = .ok (.ifCond .ne 8, 3) := by decide +kernel
theorem od_133_68 : decode (ov_byt 133) 68 = .ok (.iconst 1, 1) := by decide +kernel
theorem od_133_69 : decode (ov_byt 133) 69 = .ok (.goto 4, 3) := by decide +kernel
theorem od_133_65 : decode (ov_byt 133) 65 = .ok (.if_icmp .le 7, 3) := by decide +kernel
theorem od_133_41 : decode (ov_byt 133) 41 = .ok (.iconst 1, 1) := by decide +kernel
theorem od_133_42 : decode (ov_byt 133) 42 = .ok (.goto 4, 3) := by decide +kernel
theorem od_133_38 : decode (ov_byt 133) 38 = .ok (.if_icmp .le 7, 3) := by decide +kernel
theorem od_133_18 : decode (ov_byt 133) 18 = .ok (.if_icmp .ge 75, 3) := by decide +kernel
theorem od_133_93 : decode (ov_byt 133) 93 = .ok (.iconst 1, 1) := by decide +kernel
theorem od_133_94 : decode (ov_byt 133) 94 = .ok (.ireturn, 1) := by decide +kernel
theorem od_134_0 : decode (ov_byt 134) 0 = .ok (.aload_n 0, 1) := by decide +kernel
theorem og_134_1 : ov_GF 134 1 7 5 := ⟨29, false, 244, by decide +kernel, by decide +kernel⟩
theorem od_134_4 : decode (ov_byt 134) 4 = .ok (.ireturn, 1) := by decide +kernel
theorem od_135_0 : decode (ov_byt 135) 0 = .ok (.aload_n 0, 1) := by decide +kernel
theorem og_135_1 : ov_GF 135 1 7 6 := ⟨33, false, 245, by decide +kernel, by decide +kernel⟩
theorem od_135_4 : decode (ov_byt 135) 4 = .ok (.ireturn, 1) := by decide +kernel
theorem od_137_0 : decode (ov_byt 137) 0 = .ok (.lconst 1, 1) := by decide +kernel
theorem od_137_1 : decode (ov_byt 137) 1 = .ok (.lstore_n 2, 1) := by decide +kernel
theorem od_137_2 : decode (ov_byt 137) 2 = .ok (.iconst 0, 1) := by decide +kernel
theorem od_137_3 : decode (ov_byt 137) 3 = .ok (.istore 4, 2) := by decide +kernel
theorem od_137_5 : decode (ov_byt 137) 5 = .ok (.iload 4, 2) := by decide +kernel
theorem od_137_7 : decode (ov_byt 137) 7 = .ok (.iload_n 1, 1) := by decide +kernel
theorem od_137_11 : decode (ov_byt 137) 11 = .ok (.lload_n 2, 1) := by decide +kernel
theorem od_137_12 : decode (ov_byt 137) 12 = .ok (.iload_n 0, 1) := by decide +kernel
theorem od_137_13 : decode (ov_byt 137) 13 = .ok (.iload 4, 2) := by decide +kernel
theorem od_137_15 : decode (ov_byt 137) 15 = .ok (.isub, 1) := by decide +kernel
theorem od_137_16 : decode (ov_byt 137) 16 = .ok (.i2l, 1) := by decide +kernel
theorem od_137_17 : decode (ov_byt 137) 17 = .ok (.lmul, 1) := by decide +kernel
theorem od_137_18 : decode (ov_byt 137) 18 = .ok (.iload 4, 2) := by decide +kernel
theorem od_137_20 : decode (ov_byt 137) 20 = .ok (.iconst 1, 1) := by decide +kernel
