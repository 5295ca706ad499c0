theorem og_129_53 : ov_GF 129 53 0 3 := ⟨31, true, 265, by decide +kernel, by decide +kernel⟩
theorem od_129_56 : decode (ov_byt 129) 56 = .ok (.iload_n 2, 1) := by decide +kernel
theorem oc_129_57 : ov_CL 129 57 1 34 := ⟨229, (652, 389, 390), (by show decode (ov_byt 129) 57 = Except.ok (Instr.invokevirtual 229, 3); decide +kernel), by decide +kernel⟩
theorem od_129_66 : decode (ov_byt 129) 66 = .ok (.aload_n 0, 1) := by decide +kernel
theorem og_129_67 : ov_GF 129 67 0 8 := ⟨66, true, 270, by decide +kernel, by decide +kernel⟩
theorem od_129_70 : decode (ov_byt 129) 70 = .ok (.iload_n 1, 1) := by decide +kernel
theorem od_129_71 : decode (ov_byt 129) 71 = .ok (.iload_n 2, 1) := by decide +kernel
theorem oc_129_72 : ov_CL 129 72 1 130 := ⟨317, (812, 813, 814), (by show decode (ov_byt 129) 72 = Except.ok (Instr.invokevirtual 317, 3); decide +kernel), by decide +kernel⟩
theorem od_129_75 : decode (ov_byt 129) 75 = .ok (.iload_n 3, 1) := by decide +kernel
theorem od_129_89 : decode (ov_byt 129) 89 = .ok (.aload_n 0, 1) := by decide +kernel
theorem og_129_90 : ov_GF 129 90 0 8 := ⟨66, true, 270, by decide +kernel, by decide +kernel⟩
theorem oc_129_93 : ov_CL 129 93 1 135 := ⟨322, (835, 836, 837), (by show decode (ov_byt 129) 93 = Except.ok (Instr.invokevirtual 322, 3); decide +kernel), by decide +kernel⟩
theorem od_129_96 : decode (ov_byt 129) 96 = .ok (.ireturn, 1) := by decide +kernel
theorem od_129_79 : decode (ov_byt 129) 79 = .ok (.aload_n 0, 1) := by decide +kernel
theorem og_129_80 : ov_GF 129 80 0 8 := ⟨66, true, 270, by decide +kernel, by decide +kernel⟩
theorem oc_129_83 : ov_CL 129 83 1 134 := ⟨319, (831, 832, 833), (by show decode (ov_byt 129) 83 = Except.ok (Instr.invokevirtual 319, 3); decide +kernel), by decide +kernel⟩
theorem od_129_86 : decode (ov_byt 129) 86 = .ok (.goto 10, 3) := by decide +kernel
theorem od_129_76 : decode (ov_byt 129) 76 = .ok (.ifCond .ne 13, 3) := by decide +kernel
theorem od_129_60 : decode (ov_byt 129) 60 = .ok (.ifCond .eq 6, 3) := by decide +kernel
theorem od_129_49 : decode (ov_byt 129) 49 = .ok (.ifCond .ne 14, 3) := by decide +kernel
theorem od_129_35 : decode (ov_byt 129) 35 = .ok (.if_icmp .le 6, 3) := by decide +kernel
theorem od_129_30 : decode (ov_byt 129) 30 = .ok (.ifCond .lt 8, 3) := by decide +kernel
theorem od_129_26 : decode (ov_byt 129) 26 = .ok (.if_icmp .eq 12, 3) := by decide +kernel
theorem od_129_19 : decode (ov_byt 129) 19 = .ok (.ifCond .ne 5, 3) := by decide +kernel
theorem od_129_8 : decode (ov_byt 129) 8 = .ok (.ifCond .eq 14, 3) := by decide +kernel
theorem od_202_0 : decode (ov_byt 202) 0 = .ok (.aload_n 0, 1) := by decide +kernel
theorem od_202_1 : decode (ov_byt 202) 1 = .ok (.iconst 0, 1) := by decide +kernel
theorem op_202_2 : ov_PF 202 2 8 0 := ⟨83, 871, by decide +kernel, by decide +kernel⟩
theorem od_202_5 : decode (ov_byt 202) 5 = .ok (.aload_n 0, 1) := by decide +kernel
theorem oc_202_6 : ov_CL 202 6 1 203 := ⟨283, (1238, 1240, 49), (by show decode (ov_byt 202) 6 = Except.ok (Instr.invokevirtual 283, 3); decide +kernel), by decide +kernel⟩
theorem od_202_9 : decode (ov_byt 202) 9 = .ok (.iload_n 1, 1) := by decide +kernel
theorem od_202_20 : decode (ov_byt 202) 20 = .ok (.aload_n 0, 1) := by decide +kernel
theorem og_202_21 : ov_GF 202 21 8 37 := ⟨264, false, 907, by decide +kernel, by decide +kernel⟩
theorem od_202_24 : decode (ov_byt 202) 24 = .ok (.ireturn, 1) := by decide +kernel
theorem od_202_13 : decode (ov_byt 202) 13 = .ok (.aload_n 0, 1) := by decide +kernel
theorem og_202_14 : ov_GF 202 14 8 36 := ⟨261, false, 906, by decide +kernel, by decide +kernel⟩
theorem od_202_17 : decode (ov_byt 202) 17 = .ok (.goto 7, 3) := by decide +kernel
theorem od_202_10 : decode (ov_byt 202) 10 = .ok (.ifCond .eq 10, 3) := by decide +kernel
