section
-- ===== PART A: goes FIRST, ahead of the names: the tables' words, and 'selects' of the private methods out of them =====
/-- a private method of a class that the tables say can be made, by its rows of tables_1 -/
def lw_okq (q : MethodName × Nat) : Prop := (q.1.cls ≠ "java/lang/invoke/MethodHandle" ∧ q.1.cls ≠ "java/lang/invoke/VarHandle") ∧ Cond.instantiable q.1.cls q.2 ∈ tables_1 ∧ Cond.privateMethod q.1 ∈ tables_1 ∧ Cond.instanceMethod q.1 ∈ tables_1
theorem lw_p0 : lw_okq (⟨"OnlyEntrances$Play", "forget", "()V"⟩, 12) := ⟨⟨by decide +kernel, by decide +kernel⟩, List.mem_of_getElem? (i := 39) (by decide +kernel), List.mem_of_getElem? (i := 273) (by decide +kernel), List.mem_of_getElem? (i := 274) (by decide +kernel)⟩
theorem lw_p1 : lw_okq (⟨"OnlyEntrances$Play", "takeThing", "(III)I"⟩, 12) := ⟨⟨by decide +kernel, by decide +kernel⟩, List.mem_of_getElem? (i := 39) (by decide +kernel), List.mem_of_getElem? (i := 282) (by decide +kernel), List.mem_of_getElem? (i := 283) (by decide +kernel)⟩
theorem lw_p2 : lw_okq (⟨"OnlyEntrances$Play", "takeDoor", "(I)I"⟩, 12) := ⟨⟨by decide +kernel, by decide +kernel⟩, List.mem_of_getElem? (i := 39) (by decide +kernel), List.mem_of_getElem? (i := 286) (by decide +kernel), List.mem_of_getElem? (i := 287) (by decide +kernel)⟩
theorem lw_p3 : lw_okq (⟨"OnlyEntrances$Play", "takeStool", "(I)I"⟩, 12) := ⟨⟨by decide +kernel, by decide +kernel⟩, List.mem_of_getElem? (i := 39) (by decide +kernel), List.mem_of_getElem? (i := 297) (by decide +kernel), List.mem_of_getElem? (i := 298) (by decide +kernel)⟩
theorem lw_p4 : lw_okq (⟨"OnlyEntrances$Play", "takePart", "(II)I"⟩, 12) := ⟨⟨by decide +kernel, by decide +kernel⟩, List.mem_of_getElem? (i := 39) (by decide +kernel), List.mem_of_getElem? (i := 302) (by decide +kernel), List.mem_of_getElem? (i := 303) (by decide +kernel)⟩
theorem lw_p5 : lw_okq (⟨"OnlyEntrances$Play", "takeLine", "(II)I"⟩, 12) := ⟨⟨by decide +kernel, by decide +kernel⟩, List.mem_of_getElem? (i := 39) (by decide +kernel), List.mem_of_getElem? (i := 309) (by decide +kernel), List.mem_of_getElem? (i := 310) (by decide +kernel)⟩
theorem lw_p6 : lw_okq (⟨"OnlyEntrances$Stage", "shownCells", "()I"⟩, 5) := ⟨⟨by decide +kernel, by decide +kernel⟩, List.mem_of_getElem? (i := 91) (by decide +kernel), List.mem_of_getElem? (i := 348) (by decide +kernel), List.mem_of_getElem? (i := 349) (by decide +kernel)⟩
theorem lw_p7 : lw_okq (⟨"OnlyEntrances$Stage", "bodyCells", "(I)I"⟩, 5) := ⟨⟨by decide +kernel, by decide +kernel⟩, List.mem_of_getElem? (i := 91) (by decide +kernel), List.mem_of_getElem? (i := 352) (by decide +kernel), List.mem_of_getElem? (i := 353) (by decide +kernel)⟩
theorem lw_p8 : lw_okq (⟨"OnlyEntrances$Stage", "cellsOf", "(I)I"⟩, 5) := ⟨⟨by decide +kernel, by decide +kernel⟩, List.mem_of_getElem? (i := 91) (by decide +kernel), List.mem_of_getElem? (i := 360) (by decide +kernel), List.mem_of_getElem? (i := 361) (by decide +kernel)⟩
theorem lw_p9 : lw_okq (⟨"OnlyEntrances$Stage", "haveSight", "(III)Z"⟩, 5) := ⟨⟨by decide +kernel, by decide +kernel⟩, List.mem_of_getElem? (i := 91) (by decide +kernel), List.mem_of_getElem? (i := 391) (by decide +kernel), List.mem_of_getElem? (i := 392) (by decide +kernel)⟩
theorem lw_p10 : lw_okq (⟨"OnlyEntrances$Acts", "dropFirst", "()V"⟩, 4) := ⟨⟨by decide +kernel, by decide +kernel⟩, List.mem_of_getElem? (i := 125) (by decide +kernel), List.mem_of_getElem? (i := 517) (by decide +kernel), List.mem_of_getElem? (i := 518) (by decide +kernel)⟩
theorem lw_p11 : lw_okq (⟨"OnlyEntrances", "bestCell", "(I)I"⟩, 12) := ⟨⟨by decide +kernel, by decide +kernel⟩, List.mem_of_getElem? (i := 17) (by decide +kernel), List.mem_of_getElem? (i := 606) (by decide +kernel), List.mem_of_getElem? (i := 607) (by decide +kernel)⟩
theorem lw_p12 : lw_okq (⟨"OnlyEntrances", "heardFrom", "(II)I"⟩, 12) := ⟨⟨by decide +kernel, by decide +kernel⟩, List.mem_of_getElem? (i := 17) (by decide +kernel), List.mem_of_getElem? (i := 616) (by decide +kernel), List.mem_of_getElem? (i := 617) (by decide +kernel)⟩
theorem lw_p13 : lw_okq (⟨"OnlyEntrances$Orders", "weigh", "(I)V"⟩, 4) := ⟨⟨by decide +kernel, by decide +kernel⟩, List.mem_of_getElem? (i := 160) (by decide +kernel), List.mem_of_getElem? (i := 652) (by decide +kernel), List.mem_of_getElem? (i := 653) (by decide +kernel)⟩
theorem lw_p14 : lw_okq (⟨"OnlyEntrances$Rests", "perform", "(IIII)V"⟩, 7) := ⟨⟨by decide +kernel, by decide +kernel⟩, List.mem_of_getElem? (i := 179) (by decide +kernel), List.mem_of_getElem? (i := 762) (by decide +kernel), List.mem_of_getElem? (i := 763) (by decide +kernel)⟩
theorem lw_p15 : lw_okq (⟨"OnlyEntrances$Rests", "isRest", "(II)Z"⟩, 7) := ⟨⟨by decide +kernel, by decide +kernel⟩, List.mem_of_getElem? (i := 179) (by decide +kernel), List.mem_of_getElem? (i := 773) (by decide +kernel), List.mem_of_getElem? (i := 774) (by decide +kernel)⟩
def lw_privs_1 : List (MethodName × Nat) := [(⟨"OnlyEntrances$Play", "forget", "()V"⟩, 12), (⟨"OnlyEntrances$Play", "takeThing", "(III)I"⟩, 12), (⟨"OnlyEntrances$Play", "takeDoor", "(I)I"⟩, 12), (⟨"OnlyEntrances$Play", "takeStool", "(I)I"⟩, 12), (⟨"OnlyEntrances$Play", "takePart", "(II)I"⟩, 12), (⟨"OnlyEntrances$Play", "takeLine", "(II)I"⟩, 12), (⟨"OnlyEntrances$Stage", "shownCells", "()I"⟩, 5), (⟨"OnlyEntrances$Stage", "bodyCells", "(I)I"⟩, 5), (⟨"OnlyEntrances$Stage", "cellsOf", "(I)I"⟩, 5), (⟨"OnlyEntrances$Stage", "haveSight", "(III)Z"⟩, 5), (⟨"OnlyEntrances$Acts", "dropFirst", "()V"⟩, 4), (⟨"OnlyEntrances", "bestCell", "(I)I"⟩, 12), (⟨"OnlyEntrances", "heardFrom", "(II)I"⟩, 12), (⟨"OnlyEntrances$Orders", "weigh", "(I)V"⟩, 4), (⟨"OnlyEntrances$Rests", "perform", "(IIII)V"⟩, 7), (⟨"OnlyEntrances$Rests", "isRest", "(II)Z"⟩, 7)]
theorem lw_r1 : ∀ q ∈ lw_privs_1, lw_okq q := List.forall_mem_cons.mpr ⟨lw_p0, List.forall_mem_cons.mpr ⟨lw_p1, List.forall_mem_cons.mpr ⟨lw_p2, List.forall_mem_cons.mpr ⟨lw_p3, List.forall_mem_cons.mpr ⟨lw_p4, List.forall_mem_cons.mpr ⟨lw_p5, List.forall_mem_cons.mpr ⟨lw_p6, List.forall_mem_cons.mpr ⟨lw_p7, List.forall_mem_cons.mpr ⟨lw_p8, List.forall_mem_cons.mpr ⟨lw_p9, List.forall_mem_cons.mpr ⟨lw_p10, List.forall_mem_cons.mpr ⟨lw_p11, List.forall_mem_cons.mpr ⟨lw_p12, List.forall_mem_cons.mpr ⟨lw_p13, List.forall_mem_cons.mpr ⟨lw_p14, List.forall_mem_cons.mpr ⟨lw_p15, fun _ h => absurd h List.not_mem_nil⟩⟩⟩⟩⟩⟩⟩⟩⟩⟩⟩⟩⟩⟩⟩⟩
theorem lw_p16 : lw_okq (⟨"OnlyEntrancesModel", "readPlay", "()I"⟩, 43) := ⟨⟨by decide +kernel, by decide +kernel⟩, List.mem_of_getElem? (i := 811) (by decide +kernel), List.mem_of_getElem? (i := 963) (by decide +kernel), List.mem_of_getElem? (i := 964) (by decide +kernel)⟩
theorem lw_p17 : lw_okq (⟨"OnlyEntrancesModel", "readThing", "()Z"⟩, 43) := ⟨⟨by decide +kernel, by decide +kernel⟩, List.mem_of_getElem? (i := 811) (by decide +kernel), List.mem_of_getElem? (i := 967) (by decide +kernel), List.mem_of_getElem? (i := 968) (by decide +kernel)⟩
theorem lw_p18 : lw_okq (⟨"OnlyEntrancesModel", "readTaken", "()I"⟩, 43) := ⟨⟨by decide +kernel, by decide +kernel⟩, List.mem_of_getElem? (i := 811) (by decide +kernel), List.mem_of_getElem? (i := 971) (by decide +kernel), List.mem_of_getElem? (i := 972) (by decide +kernel)⟩
theorem lw_p19 : lw_okq (⟨"OnlyEntrancesModel", "readDoorPart", "()Z"⟩, 43) := ⟨⟨by decide +kernel, by decide +kernel⟩, List.mem_of_getElem? (i := 811) (by decide +kernel), List.mem_of_getElem? (i := 975) (by decide +kernel), List.mem_of_getElem? (i := 976) (by decide +kernel)⟩
theorem lw_p20 : lw_okq (⟨"OnlyEntrancesModel", "readCell", "(I)I"⟩, 43) := ⟨⟨by decide +kernel, by decide +kernel⟩, List.mem_of_getElem? (i := 811) (by decide +kernel), List.mem_of_getElem? (i := 979) (by decide +kernel), List.mem_of_getElem? (i := 980) (by decide +kernel)⟩
theorem lw_p21 : lw_okq (⟨"OnlyEntrancesModel", "readStoolPart", "()Z"⟩, 43) := ⟨⟨by decide +kernel, by decide +kernel⟩, List.mem_of_getElem? (i := 811) (by decide +kernel), List.mem_of_getElem? (i := 987) (by decide +kernel), List.mem_of_getElem? (i := 988) (by decide +kernel)⟩
theorem lw_p22 : lw_okq (⟨"OnlyEntrancesModel", "readPartPart", "()Z"⟩, 43) := ⟨⟨by decide +kernel, by decide +kernel⟩, List.mem_of_getElem? (i := 811) (by decide +kernel), List.mem_of_getElem? (i := 991) (by decide +kernel), List.mem_of_getElem? (i := 992) (by decide +kernel)⟩
theorem lw_p23 : lw_okq (⟨"OnlyEntrancesModel", "figure", "(II)I"⟩, 43) := ⟨⟨by decide +kernel, by decide +kernel⟩, List.mem_of_getElem? (i := 811) (by decide +kernel), List.mem_of_getElem? (i := 995) (by decide +kernel), List.mem_of_getElem? (i := 996) (by decide +kernel)⟩
theorem lw_p24 : lw_okq (⟨"OnlyEntrancesModel", "readLinePart", "()Z"⟩, 43) := ⟨⟨by decide +kernel, by decide +kernel⟩, List.mem_of_getElem? (i := 811) (by decide +kernel), List.mem_of_getElem? (i := 999) (by decide +kernel), List.mem_of_getElem? (i := 1000) (by decide +kernel)⟩
theorem lw_p25 : lw_okq (⟨"OnlyEntrancesModel", "on", "([I)I"⟩, 43) := ⟨⟨by decide +kernel, by decide +kernel⟩, List.mem_of_getElem? (i := 811) (by decide +kernel), List.mem_of_getElem? (i := 1014) (by decide +kernel), List.mem_of_getElem? (i := 1015) (by decide +kernel)⟩
theorem lw_p26 : lw_okq (⟨"OnlyEntrancesModel", "seen", "([I)I"⟩, 43) := ⟨⟨by decide +kernel, by decide +kernel⟩, List.mem_of_getElem? (i := 811) (by decide +kernel), List.mem_of_getElem? (i := 1018) (by decide +kernel), List.mem_of_getElem? (i := 1019) (by decide +kernel)⟩
theorem lw_p27 : lw_okq (⟨"OnlyEntrancesModel", "isSeen", "([II)Z"⟩, 43) := ⟨⟨by decide +kernel, by decide +kernel⟩, List.mem_of_getElem? (i := 811) (by decide +kernel), List.mem_of_getElem? (i := 1022) (by decide +kernel), List.mem_of_getElem? (i := 1023) (by decide +kernel)⟩
theorem lw_p28 : lw_okq (⟨"OnlyEntrancesModel", "heard", "([I)I"⟩, 43) := ⟨⟨by decide +kernel, by decide +kernel⟩, List.mem_of_getElem? (i := 811) (by decide +kernel), List.mem_of_getElem? (i := 1026) (by decide +kernel), List.mem_of_getElem? (i := 1027) (by decide +kernel)⟩
theorem lw_p29 : lw_okq (⟨"OnlyEntrancesModel", "isHeard", "([II)Z"⟩, 43) := ⟨⟨by decide +kernel, by decide +kernel⟩, List.mem_of_getElem? (i := 811) (by decide +kernel), List.mem_of_getElem? (i := 1030) (by decide +kernel), List.mem_of_getElem? (i := 1031) (by decide +kernel)⟩
theorem lw_p30 : lw_okq (⟨"OnlyEntrancesModel", "barsOf", "([III)I"⟩, 43) := ⟨⟨by decide +kernel, by decide +kernel⟩, List.mem_of_getElem? (i := 811) (by decide +kernel), List.mem_of_getElem? (i := 1034) (by decide +kernel), List.mem_of_getElem? (i := 1035) (by decide +kernel)⟩
theorem lw_p31 : lw_okq (⟨"OnlyEntrancesModel", "stoolsOn", "([I)I"⟩, 43) := ⟨⟨by decide +kernel, by decide +kernel⟩, List.mem_of_getElem? (i := 811) (by decide +kernel), List.mem_of_getElem? (i := 1044) (by decide +kernel), List.mem_of_getElem? (i := 1045) (by decide +kernel)⟩
def lw_privs_2 : List (MethodName × Nat) := [(⟨"OnlyEntrancesModel", "readPlay", "()I"⟩, 43), (⟨"OnlyEntrancesModel", "readThing", "()Z"⟩, 43), (⟨"OnlyEntrancesModel", "readTaken", "()I"⟩, 43), (⟨"OnlyEntrancesModel", "readDoorPart", "()Z"⟩, 43), (⟨"OnlyEntrancesModel", "readCell", "(I)I"⟩, 43), (⟨"OnlyEntrancesModel", "readStoolPart", "()Z"⟩, 43), (⟨"OnlyEntrancesModel", "readPartPart", "()Z"⟩, 43), (⟨"OnlyEntrancesModel", "figure", "(II)I"⟩, 43), (⟨"OnlyEntrancesModel", "readLinePart", "()Z"⟩, 43), (⟨"OnlyEntrancesModel", "on", "([I)I"⟩, 43), (⟨"OnlyEntrancesModel", "seen", "([I)I"⟩, 43), (⟨"OnlyEntrancesModel", "isSeen", "([II)Z"⟩, 43), (⟨"OnlyEntrancesModel", "heard", "([I)I"⟩, 43), (⟨"OnlyEntrancesModel", "isHeard", "([II)Z"⟩, 43), (⟨"OnlyEntrancesModel", "barsOf", "([III)I"⟩, 43), (⟨"OnlyEntrancesModel", "stoolsOn", "([I)I"⟩, 43)]
theorem lw_r2 : ∀ q ∈ lw_privs_2, lw_okq q := List.forall_mem_cons.mpr ⟨lw_p16, List.forall_mem_cons.mpr ⟨lw_p17, List.forall_mem_cons.mpr ⟨lw_p18, List.forall_mem_cons.mpr ⟨lw_p19, List.forall_mem_cons.mpr ⟨lw_p20, List.forall_mem_cons.mpr ⟨lw_p21, List.forall_mem_cons.mpr ⟨lw_p22, List.forall_mem_cons.mpr ⟨lw_p23, List.forall_mem_cons.mpr ⟨lw_p24, List.forall_mem_cons.mpr ⟨lw_p25, List.forall_mem_cons.mpr ⟨lw_p26, List.forall_mem_cons.mpr ⟨lw_p27, List.forall_mem_cons.mpr ⟨lw_p28, List.forall_mem_cons.mpr ⟨lw_p29, List.forall_mem_cons.mpr ⟨lw_p30, List.forall_mem_cons.mpr ⟨lw_p31, fun _ h => absurd h List.not_mem_nil⟩⟩⟩⟩⟩⟩⟩⟩⟩⟩⟩⟩⟩⟩⟩⟩
theorem lw_p32 : lw_okq (⟨"OnlyEntrancesModel", "standOn", "([II)I"⟩, 43) := ⟨⟨by decide +kernel, by decide +kernel⟩, List.mem_of_getElem? (i := 811) (by decide +kernel), List.mem_of_getElem? (i := 1048) (by decide +kernel), List.mem_of_getElem? (i := 1049) (by decide +kernel)⟩
theorem lw_p33 : lw_okq (⟨"OnlyEntrancesModel", "taken", "([I)I"⟩, 43) := ⟨⟨by decide +kernel, by decide +kernel⟩, List.mem_of_getElem? (i := 811) (by decide +kernel), List.mem_of_getElem? (i := 1053) (by decide +kernel), List.mem_of_getElem? (i := 1054) (by decide +kernel)⟩
theorem lw_p34 : lw_okq (⟨"OnlyEntrancesModel", "noDoor", "(I)Z"⟩, 43) := ⟨⟨by decide +kernel, by decide +kernel⟩, List.mem_of_getElem? (i := 811) (by decide +kernel), List.mem_of_getElem? (i := 1061) (by decide +kernel), List.mem_of_getElem? (i := 1062) (by decide +kernel)⟩
theorem lw_p35 : lw_okq (⟨"OnlyEntrancesModel", "noPart", "(I)Z"⟩, 43) := ⟨⟨by decide +kernel, by decide +kernel⟩, List.mem_of_getElem? (i := 811) (by decide +kernel), List.mem_of_getElem? (i := 1073) (by decide +kernel), List.mem_of_getElem? (i := 1074) (by decide +kernel)⟩
theorem lw_p36 : lw_okq (⟨"OnlyEntrancesModel", "sights", "(I)I"⟩, 43) := ⟨⟨by decide +kernel, by decide +kernel⟩, List.mem_of_getElem? (i := 811) (by decide +kernel), List.mem_of_getElem? (i := 1077) (by decide +kernel), List.mem_of_getElem? (i := 1078) (by decide +kernel)⟩
theorem lw_p37 : lw_okq (⟨"OnlyEntrancesModel", "reached", "(I)I"⟩, 43) := ⟨⟨by decide +kernel, by decide +kernel⟩, List.mem_of_getElem? (i := 811) (by decide +kernel), List.mem_of_getElem? (i := 1081) (by decide +kernel), List.mem_of_getElem? (i := 1082) (by decide +kernel)⟩
theorem lw_p38 : lw_okq (⟨"OnlyEntrancesModel", "layWays", "([II)V"⟩, 43) := ⟨⟨by decide +kernel, by decide +kernel⟩, List.mem_of_getElem? (i := 811) (by decide +kernel), List.mem_of_getElem? (i := 1085) (by decide +kernel), List.mem_of_getElem? (i := 1086) (by decide +kernel)⟩
theorem lw_p39 : lw_okq (⟨"OnlyEntrancesModel", "layFar", "(II)V"⟩, 43) := ⟨⟨by decide +kernel, by decide +kernel⟩, List.mem_of_getElem? (i := 811) (by decide +kernel), List.mem_of_getElem? (i := 1089) (by decide +kernel), List.mem_of_getElem? (i := 1090) (by decide +kernel)⟩
theorem lw_p40 : lw_okq (⟨"OnlyEntrancesModel", "loadOf", "([II)I"⟩, 43) := ⟨⟨by decide +kernel, by decide +kernel⟩, List.mem_of_getElem? (i := 811) (by decide +kernel), List.mem_of_getElem? (i := 1105) (by decide +kernel), List.mem_of_getElem? (i := 1106) (by decide +kernel)⟩
theorem lw_p41 : lw_okq (⟨"OnlyEntrancesModel", "canEnter", "([III)Z"⟩, 43) := ⟨⟨by decide +kernel, by decide +kernel⟩, List.mem_of_getElem? (i := 811) (by decide +kernel), List.mem_of_getElem? (i := 1113) (by decide +kernel), List.mem_of_getElem? (i := 1114) (by decide +kernel)⟩
theorem lw_p42 : lw_okq (⟨"OnlyEntrancesModel", "isFree", "([II)Z"⟩, 43) := ⟨⟨by decide +kernel, by decide +kernel⟩, List.mem_of_getElem? (i := 811) (by decide +kernel), List.mem_of_getElem? (i := 1117) (by decide +kernel), List.mem_of_getElem? (i := 1118) (by decide +kernel)⟩
theorem lw_p43 : lw_okq (⟨"OnlyEntrancesModel", "note", "()V"⟩, 43) := ⟨⟨by decide +kernel, by decide +kernel⟩, List.mem_of_getElem? (i := 811) (by decide +kernel), List.mem_of_getElem? (i := 1121) (by decide +kernel), List.mem_of_getElem? (i := 1122) (by decide +kernel)⟩
theorem lw_p44 : lw_okq (⟨"OnlyEntrancesModel", "walkTo", "([III)I"⟩, 43) := ⟨⟨by decide +kernel, by decide +kernel⟩, List.mem_of_getElem? (i := 811) (by decide +kernel), List.mem_of_getElem? (i := 1130) (by decide +kernel), List.mem_of_getElem? (i := 1131) (by decide +kernel)⟩
theorem lw_p45 : lw_okq (⟨"OnlyEntrancesModel", "isDoor", "(I)Z"⟩, 43) := ⟨⟨by decide +kernel, by decide +kernel⟩, List.mem_of_getElem? (i := 811) (by decide +kernel), List.mem_of_getElem? (i := 1148) (by decide +kernel), List.mem_of_getElem? (i := 1149) (by decide +kernel)⟩
theorem lw_p46 : lw_okq (⟨"OnlyEntrancesModel", "findPlace", "(I)V"⟩, 43) := ⟨⟨by decide +kernel, by decide +kernel⟩, List.mem_of_getElem? (i := 811) (by decide +kernel), List.mem_of_getElem? (i := 1164) (by decide +kernel), List.mem_of_getElem? (i := 1165) (by decide +kernel)⟩
theorem lw_p47 : lw_okq (⟨"OnlyEntrancesModel", "heardOf", "(I)I"⟩, 43) := ⟨⟨by decide +kernel, by decide +kernel⟩, List.mem_of_getElem? (i := 811) (by decide +kernel), List.mem_of_getElem? (i := 1168) (by decide +kernel), List.mem_of_getElem? (i := 1169) (by decide +kernel)⟩
def lw_privs_3 : List (MethodName × Nat) := [(⟨"OnlyEntrancesModel", "standOn", "([II)I"⟩, 43), (⟨"OnlyEntrancesModel", "taken", "([I)I"⟩, 43), (⟨"OnlyEntrancesModel", "noDoor", "(I)Z"⟩, 43), (⟨"OnlyEntrancesModel", "noPart", "(I)Z"⟩, 43), (⟨"OnlyEntrancesModel", "sights", "(I)I"⟩, 43), (⟨"OnlyEntrancesModel", "reached", "(I)I"⟩, 43), (⟨"OnlyEntrancesModel", "layWays", "([II)V"⟩, 43), (⟨"OnlyEntrancesModel", "layFar", "(II)V"⟩, 43), (⟨"OnlyEntrancesModel", "loadOf", "([II)I"⟩, 43), (⟨"OnlyEntrancesModel", "canEnter", "([III)Z"⟩, 43), (⟨"OnlyEntrancesModel", "isFree", "([II)Z"⟩, 43), (⟨"OnlyEntrancesModel", "note", "()V"⟩, 43), (⟨"OnlyEntrancesModel", "walkTo", "([III)I"⟩, 43), (⟨"OnlyEntrancesModel", "isDoor", "(I)Z"⟩, 43), (⟨"OnlyEntrancesModel", "findPlace", "(I)V"⟩, 43), (⟨"OnlyEntrancesModel", "heardOf", "(I)I"⟩, 43)]
theorem lw_r3 : ∀ q ∈ lw_privs_3, lw_okq q := List.forall_mem_cons.mpr ⟨lw_p32, List.forall_mem_cons.mpr ⟨lw_p33, List.forall_mem_cons.mpr ⟨lw_p34, List.forall_mem_cons.mpr ⟨lw_p35, List.forall_mem_cons.mpr ⟨lw_p36, List.forall_mem_cons.mpr ⟨lw_p37, List.forall_mem_cons.mpr ⟨lw_p38, List.forall_mem_cons.mpr ⟨lw_p39, List.forall_mem_cons.mpr ⟨lw_p40, List.forall_mem_cons.mpr ⟨lw_p41, List.forall_mem_cons.mpr ⟨lw_p42, List.forall_mem_cons.mpr ⟨lw_p43, List.forall_mem_cons.mpr ⟨lw_p44, List.forall_mem_cons.mpr ⟨lw_p45, List.forall_mem_cons.mpr ⟨lw_p46, List.forall_mem_cons.mpr ⟨lw_p47, fun _ h => absurd h List.not_mem_nil⟩⟩⟩⟩⟩⟩⟩⟩⟩⟩⟩⟩⟩⟩⟩⟩
theorem lw_p48 : lw_okq (⟨"OnlyEntrancesModel", "come", "(II)I"⟩, 43) := ⟨⟨by decide +kernel, by decide +kernel⟩, List.mem_of_getElem? (i := 811) (by decide +kernel), List.mem_of_getElem? (i := 1176) (by decide +kernel), List.mem_of_getElem? (i := 1177) (by decide +kernel)⟩
theorem lw_p49 : lw_okq (⟨"OnlyEntrancesModel", "findOrder", "()V"⟩, 43) := ⟨⟨by decide +kernel, by decide +kernel⟩, List.mem_of_getElem? (i := 811) (by decide +kernel), List.mem_of_getElem? (i := 1184) (by decide +kernel), List.mem_of_getElem? (i := 1185) (by decide +kernel)⟩
theorem lw_p50 : lw_okq (⟨"OnlyEntrancesModel", "comeAnyhow", "(I)V"⟩, 43) := ⟨⟨by decide +kernel, by decide +kernel⟩, List.mem_of_getElem? (i := 811) (by decide +kernel), List.mem_of_getElem? (i := 1188) (by decide +kernel), List.mem_of_getElem? (i := 1189) (by decide +kernel)⟩
theorem lw_p51 : lw_okq (⟨"OnlyEntrancesModel", "nextOrder", "(I)Z"⟩, 43) := ⟨⟨by decide +kernel, by decide +kernel⟩, List.mem_of_getElem? (i := 811) (by decide +kernel), List.mem_of_getElem? (i := 1192) (by decide +kernel), List.mem_of_getElem? (i := 1193) (by decide +kernel)⟩
theorem lw_p52 : lw_okq (⟨"OnlyEntrancesModel", "does", "(I)Z"⟩, 43) := ⟨⟨by decide +kernel, by decide +kernel⟩, List.mem_of_getElem? (i := 811) (by decide +kernel), List.mem_of_getElem? (i := 1213) (by decide +kernel), List.mem_of_getElem? (i := 1214) (by decide +kernel)⟩
theorem lw_p53 : lw_okq (⟨"OnlyEntrancesModel", "findRests", "(II)V"⟩, 43) := ⟨⟨by decide +kernel, by decide +kernel⟩, List.mem_of_getElem? (i := 811) (by decide +kernel), List.mem_of_getElem? (i := 1247) (by decide +kernel), List.mem_of_getElem? (i := 1248) (by decide +kernel)⟩
theorem lw_p54 : lw_okq (⟨"OnlyEntrancesModel", "gainOf", "(II)I"⟩, 43) := ⟨⟨by decide +kernel, by decide +kernel⟩, List.mem_of_getElem? (i := 811) (by decide +kernel), List.mem_of_getElem? (i := 1251) (by decide +kernel), List.mem_of_getElem? (i := 1252) (by decide +kernel)⟩
def lw_privs_4 : List (MethodName × Nat) := [(⟨"OnlyEntrancesModel", "come", "(II)I"⟩, 43), (⟨"OnlyEntrancesModel", "findOrder", "()V"⟩, 43), (⟨"OnlyEntrancesModel", "comeAnyhow", "(I)V"⟩, 43), (⟨"OnlyEntrancesModel", "nextOrder", "(I)Z"⟩, 43), (⟨"OnlyEntrancesModel", "does", "(I)Z"⟩, 43), (⟨"OnlyEntrancesModel", "findRests", "(II)V"⟩, 43), (⟨"OnlyEntrancesModel", "gainOf", "(II)I"⟩, 43)]
theorem lw_r4 : ∀ q ∈ lw_privs_4, lw_okq q := List.forall_mem_cons.mpr ⟨lw_p48, List.forall_mem_cons.mpr ⟨lw_p49, List.forall_mem_cons.mpr ⟨lw_p50, List.forall_mem_cons.mpr ⟨lw_p51, List.forall_mem_cons.mpr ⟨lw_p52, List.forall_mem_cons.mpr ⟨lw_p53, List.forall_mem_cons.mpr ⟨lw_p54, fun _ h => absurd h List.not_mem_nil⟩⟩⟩⟩⟩⟩⟩
def lw_privs : List (MethodName × Nat) := lw_privs_1 ++ (lw_privs_2 ++ (lw_privs_3 ++ (lw_privs_4)))
def lw_tbl : List Cond := k2_sels lw_privs ++ tables_1
theorem lw_privs_ok : ∀ q ∈ lw_privs, lw_okq q := by
  show ∀ q ∈ lw_privs_1 ++ (lw_privs_2 ++ (lw_privs_3 ++ (lw_privs_4))), lw_okq q
  exact List.forall_mem_append.mpr ⟨lw_r1, List.forall_mem_append.mpr ⟨lw_r2, List.forall_mem_append.mpr ⟨lw_r3, lw_r4⟩⟩⟩
-- ===== end of PART A; the tables as data =====
def ov_cn : List String := ["OnlyEntrancesLaw", "OnlyEntrances", "OnlyEntrances$Script", "OnlyEntrances$Play", "OnlyEntrances$Stage", "OnlyEntrances$Acts", "OnlyEntrances$Trod", "OnlyEntrances$Orders", "OnlyEntrances$Rests", "OnlyEntrancesModel", "OnlyEntrances$Bits", "OnlyEntrances$Cells", "OnlyEntrances$Fractions", "java/lang/Math", "java/lang/Integer", "java/lang/Object", "java/lang/System"]
abbrev ov_cname (k : Nat) : String := ov_cn.getD k ""
def ov_T0 : u_T := fun k => match k with
  | 0 => ("OnlyEntrances", "script", "LOnlyEntrances$Script;", true)
  | 1 => ("OnlyEntrances", "told", "LOnlyEntrances$Play;", true)
  | 2 => ("OnlyEntrances", "draft", "LOnlyEntrances$Play;", true)
  | 3 => ("OnlyEntrances", "stage", "LOnlyEntrances$Stage;", true)
  | 4 => ("OnlyEntrances", "trial", "LOnlyEntrances$Stage;", true)
  | 5 => ("OnlyEntrances", "acts", "LOnlyEntrances$Acts;", true)
  | 6 => ("OnlyEntrances", "trod", "LOnlyEntrances$Trod;", true)
  | 7 => ("OnlyEntrances", "orders", "LOnlyEntrances$Orders;", true)
  | 8 => ("OnlyEntrances", "managers", "LOnlyEntrances$Rests;", true)
  | 9 => ("OnlyEntrances", "slots", "[LOnlyEntrances$Stage;", true)
  | 10 => ("OnlyEntrances", "keptSlots", "I", false)
  | _ => ("OnlyEntrances", "chance", "J", false)
def ov_ty0 : Nat → FieldType := fun k => match k with
  | 0 => (.object "OnlyEntrances$Script")
  | 1 => (.object "OnlyEntrances$Play")
  | 2 => (.object "OnlyEntrances$Play")
  | 3 => (.object "OnlyEntrances$Stage")
  | 4 => (.object "OnlyEntrances$Stage")
  | 5 => (.object "OnlyEntrances$Acts")
  | 6 => (.object "OnlyEntrances$Trod")
  | 7 => (.object "OnlyEntrances$Orders")
  | 8 => (.object "OnlyEntrances$Rests")
  | 9 => (.array (.object "OnlyEntrances$Stage"))
  | 10 => .int
  | _ => .long
theorem ov_nm0 : ∀ a, a < 12 → ∀ b, b < 12 → a ≠ b → (ov_T0 a).2.1 ≠ (ov_T0 b).2.1 := by decide +kernel
theorem ov_tyok0 : ∀ k, k < 12 → parseFieldDescriptor (ov_T0 k).2.2.1 = some (ov_ty0 k) := by decide +kernel
theorem ov_lay0 : u_ws "OnlyEntrances" ov_T0 12 = [274, 276, 278, 280, 282, 284, 286, 288, 290, 292, 294, 296].filterMap (fun i => lw_tbl[i]?) := by decide +kernel
def ov_T1 : u_T := fun k => match k with
  | 0 => ("OnlyEntrances$Script", "bytes", "[I", true)
  | _ => ("OnlyEntrances$Script", "length", "I", false)
def ov_ty1 : Nat → FieldType := fun k => match k with
  | 0 => (.array .int)
  | _ => .int
theorem ov_nm1 : ∀ a, a < 2 → ∀ b, b < 2 → a ≠ b → (ov_T1 a).2.1 ≠ (ov_T1 b).2.1 := by decide +kernel
theorem ov_tyok1 : ∀ k, k < 2 → parseFieldDescriptor (ov_T1 k).2.2.1 = some (ov_ty1 k) := by decide +kernel
theorem ov_lay1 : u_ws "OnlyEntrances$Script" ov_T1 2 = [87, 89].filterMap (fun i => lw_tbl[i]?) := by decide +kernel
def ov_T2 : u_T := fun k => match k with
  | 0 => ("OnlyEntrances$Play", "doorCount", "I", false)
  | 1 => ("OnlyEntrances$Play", "stoolCount", "I", false)
  | 2 => ("OnlyEntrances$Play", "partCount", "I", false)
  | 3 => ("OnlyEntrances$Play", "lineCount", "I", false)
  | 4 => ("OnlyEntrances$Play", "doorCells", "[I", true)
  | 5 => ("OnlyEntrances$Play", "stoolCells", "[I", true)
  | 6 => ("OnlyEntrances$Play", "weights", "[I", true)
  | 7 => ("OnlyEntrances$Play", "kinds", "[I", true)
  | 8 => ("OnlyEntrances$Play", "sayers", "[I", true)
  | 9 => ("OnlyEntrances$Play", "hearers", "[I", true)
  | 10 => ("OnlyEntrances$Play", "ghosts", "I", false)
  | _ => ("OnlyEntrances$Play", "taken", "I", false)
def ov_ty2 : Nat → FieldType := fun k => match k with
  | 0 => .int
  | 1 => .int
  | 2 => .int
  | 3 => .int
  | 4 => (.array .int)
  | 5 => (.array .int)
  | 6 => (.array .int)
  | 7 => (.array .int)
  | 8 => (.array .int)
  | 9 => (.array .int)
  | 10 => .int
  | _ => .int
theorem ov_nm2 : ∀ a, a < 12 → ∀ b, b < 12 → a ≠ b → (ov_T2 a).2.1 ≠ (ov_T2 b).2.1 := by decide +kernel
theorem ov_tyok2 : ∀ k, k < 12 → parseFieldDescriptor (ov_T2 k).2.2.1 = some (ov_ty2 k) := by decide +kernel
theorem ov_lay2 : u_ws "OnlyEntrances$Play" ov_T2 12 = [120, 122, 124, 126, 128, 130, 132, 134, 136, 138, 140, 142].filterMap (fun i => lw_tbl[i]?) := by decide +kernel
def ov_T3 : u_T := fun k => match k with
  | 0 => ("OnlyEntrances$Stage", "play", "LOnlyEntrances$Play;", true)
  | 1 => ("OnlyEntrances$Stage", "cells", "[I", true)
  | 2 => ("OnlyEntrances$Stage", "stools", "[I", true)
  | 3 => ("OnlyEntrances$Stage", "said", "I", false)
  | _ => ("OnlyEntrances$Stage", "minute", "I", false)
def ov_ty3 : Nat → FieldType := fun k => match k with
  | 0 => (.object "OnlyEntrances$Play")
  | 1 => (.array .int)
  | 2 => (.array .int)
  | 3 => .int
  | _ => .int
theorem ov_nm3 : ∀ a, a < 5 → ∀ b, b < 5 → a ≠ b → (ov_T3 a).2.1 ≠ (ov_T3 b).2.1 := by decide +kernel
theorem ov_tyok3 : ∀ k, k < 5 → parseFieldDescriptor (ov_T3 k).2.2.1 = some (ov_ty3 k) := by decide +kernel
theorem ov_lay3 : u_ws "OnlyEntrances$Stage" ov_T3 5 = [168, 170, 172, 174, 176].filterMap (fun i => lw_tbl[i]?) := by decide +kernel
def ov_T4 : u_T := fun k => match k with
  | 0 => ("OnlyEntrances$Acts", "kinds", "[I", true)
  | 1 => ("OnlyEntrances$Acts", "whos", "[I", true)
  | 2 => ("OnlyEntrances$Acts", "froms", "[I", true)
  | _ => ("OnlyEntrances$Acts", "count", "I", false)
def ov_ty4 : Nat → FieldType := fun k => match k with
  | 0 => (.array .int)
  | 1 => (.array .int)
  | 2 => (.array .int)
  | _ => .int
theorem ov_nm4 : ∀ a, a < 4 → ∀ b, b < 4 → a ≠ b → (ov_T4 a).2.1 ≠ (ov_T4 b).2.1 := by decide +kernel
theorem ov_tyok4 : ∀ k, k < 4 → parseFieldDescriptor (ov_T4 k).2.2.1 = some (ov_ty4 k) := by decide +kernel
theorem ov_lay4 : u_ws "OnlyEntrances$Acts" ov_T4 4 = [189, 191, 193, 195].filterMap (fun i => lw_tbl[i]?) := by decide +kernel
def ov_T5 : u_T := fun k => match k with
  | 0 => ("OnlyEntrances$Trod", "cells", "[I", true)
  | 1 => ("OnlyEntrances$Trod", "steps", "[I", true)
  | _ => ("OnlyEntrances$Trod", "count", "I", false)
def ov_ty5 : Nat → FieldType := fun k => match k with
  | 0 => (.array .int)
  | 1 => (.array .int)
  | _ => .int
theorem ov_nm5 : ∀ a, a < 3 → ∀ b, b < 3 → a ≠ b → (ov_T5 a).2.1 ≠ (ov_T5 b).2.1 := by decide +kernel
theorem ov_tyok5 : ∀ k, k < 3 → parseFieldDescriptor (ov_T5 k).2.2.1 = some (ov_ty5 k) := by decide +kernel
theorem ov_lay5 : u_ws "OnlyEntrances$Trod" ov_T5 3 = [207, 209, 211].filterMap (fun i => lw_tbl[i]?) := by decide +kernel
def ov_T6 : u_T := fun k => match k with
  | 0 => ("OnlyEntrances$Orders", "play", "LOnlyEntrances$Play;", true)
  | 1 => ("OnlyEntrances$Orders", "trial", "LOnlyEntrances$Stage;", true)
  | 2 => ("OnlyEntrances$Orders", "most", "I", false)
  | _ => ("OnlyEntrances$Orders", "best", "I", false)
def ov_ty6 : Nat → FieldType := fun k => match k with
  | 0 => (.object "OnlyEntrances$Play")
  | 1 => (.object "OnlyEntrances$Stage")
  | 2 => .int
  | _ => .int
theorem ov_nm6 : ∀ a, a < 4 → ∀ b, b < 4 → a ≠ b → (ov_T6 a).2.1 ≠ (ov_T6 b).2.1 := by decide +kernel
theorem ov_tyok6 : ∀ k, k < 4 → parseFieldDescriptor (ov_T6 k).2.2.1 = some (ov_ty6 k) := by decide +kernel
theorem ov_lay6 : u_ws "OnlyEntrances$Orders" ov_T6 4 = [224, 226, 228, 230].filterMap (fun i => lw_tbl[i]?) := by decide +kernel
def ov_T7 : u_T := fun k => match k with
  | 0 => ("OnlyEntrances$Rests", "play", "LOnlyEntrances$Play;", true)
  | 1 => ("OnlyEntrances$Rests", "stage", "LOnlyEntrances$Stage;", true)
  | 2 => ("OnlyEntrances$Rests", "trial", "LOnlyEntrances$Stage;", true)
  | 3 => ("OnlyEntrances$Rests", "ofOne", "[I", true)
  | 4 => ("OnlyEntrances$Rests", "ofOther", "[I", true)
  | 5 => ("OnlyEntrances$Rests", "count", "I", false)
  | _ => ("OnlyEntrances$Rests", "first", "I", false)
def ov_ty7 : Nat → FieldType := fun k => match k with
  | 0 => (.object "OnlyEntrances$Play")
  | 1 => (.object "OnlyEntrances$Stage")
  | 2 => (.object "OnlyEntrances$Stage")
  | 3 => (.array .int)
  | 4 => (.array .int)
  | 5 => .int
  | _ => .int
theorem ov_nm7 : ∀ a, a < 7 → ∀ b, b < 7 → a ≠ b → (ov_T7 a).2.1 ≠ (ov_T7 b).2.1 := by decide +kernel
theorem ov_tyok7 : ∀ k, k < 7 → parseFieldDescriptor (ov_T7 k).2.2.1 = some (ov_ty7 k) := by decide +kernel
theorem ov_lay7 : u_ws "OnlyEntrances$Rests" ov_T7 7 = [246, 248, 250, 252, 254, 256, 258].filterMap (fun i => lw_tbl[i]?) := by decide +kernel
def ov_T8 : u_T := fun k => match k with
  | 0 => ("OnlyEntrancesModel", "thrown", "I", false)
  | 1 => ("OnlyEntrancesModel", "text", "[I", true)
  | 2 => ("OnlyEntrancesModel", "textSize", "I", false)
  | 3 => ("OnlyEntrancesModel", "place", "I", false)
  | 4 => ("OnlyEntrancesModel", "doors", "I", false)
  | 5 => ("OnlyEntrancesModel", "door", "[I", true)
  | 6 => ("OnlyEntrancesModel", "stools", "I", false)
  | 7 => ("OnlyEntrancesModel", "parts", "I", false)
  | 8 => ("OnlyEntrancesModel", "weight", "[I", true)
  | 9 => ("OnlyEntrancesModel", "kind", "[I", true)
  | 10 => ("OnlyEntrancesModel", "lines", "I", false)
  | 11 => ("OnlyEntrancesModel", "says", "[I", true)
  | 12 => ("OnlyEntrancesModel", "hears", "[I", true)
  | 13 => ("OnlyEntrancesModel", "readDoors", "I", false)
  | 14 => ("OnlyEntrancesModel", "readDoor", "[I", true)
  | 15 => ("OnlyEntrancesModel", "readStools", "I", false)
  | 16 => ("OnlyEntrancesModel", "readStool", "[I", true)
  | 17 => ("OnlyEntrancesModel", "readParts", "I", false)
  | 18 => ("OnlyEntrancesModel", "readWeight", "[I", true)
  | 19 => ("OnlyEntrancesModel", "readKind", "[I", true)
  | 20 => ("OnlyEntrancesModel", "readLines", "I", false)
  | 21 => ("OnlyEntrancesModel", "readSays", "[I", true)
  | 22 => ("OnlyEntrancesModel", "readHears", "[I", true)
  | 23 => ("OnlyEntrancesModel", "page", "[I", true)
  | 24 => ("OnlyEntrancesModel", "trial", "[I", true)
  | 25 => ("OnlyEntrancesModel", "base", "[I", true)
  | 26 => ("OnlyEntrancesModel", "book", "[I", true)
  | 27 => ("OnlyEntrancesModel", "acts", "I", false)
  | 28 => ("OnlyEntrancesModel", "kept", "[I", true)
  | 29 => ("OnlyEntrancesModel", "isKept", "[Z", true)
  | 30 => ("OnlyEntrancesModel", "trod", "I", false)
  | 31 => ("OnlyEntrancesModel", "trodCell", "[I", true)
  | 32 => ("OnlyEntrancesModel", "trodSteps", "[I", true)
  | 33 => ("OnlyEntrancesModel", "seed", "J", false)
  | 34 => ("OnlyEntrancesModel", "far", "[I", true)
  | 35 => ("OnlyEntrancesModel", "steps", "I", false)
  | 36 => ("OnlyEntrancesModel", "bestWhich", "I", false)
  | 37 => ("OnlyEntrancesModel", "bestMany", "I", false)
  | 38 => ("OnlyEntrancesModel", "order", "[I", true)
  | 39 => ("OnlyEntrancesModel", "restMany", "I", false)
  | 40 => ("OnlyEntrancesModel", "restFirst", "I", false)
  | 41 => ("OnlyEntrancesModel", "gains", "[I", true)
  | _ => ("OnlyEntrancesModel", "value", "[I", true)
def ov_ty8 : Nat → FieldType := fun k => match k with
  | 0 => .int
  | 1 => (.array .int)
  | 2 => .int
  | 3 => .int
  | 4 => .int
  | 5 => (.array .int)
  | 6 => .int
  | 7 => .int
  | 8 => (.array .int)
  | 9 => (.array .int)
  | 10 => .int
  | 11 => (.array .int)
  | 12 => (.array .int)
  | 13 => .int
  | 14 => (.array .int)
  | 15 => .int
  | 16 => (.array .int)
  | 17 => .int
  | 18 => (.array .int)
  | 19 => (.array .int)
  | 20 => .int
  | 21 => (.array .int)
  | 22 => (.array .int)
  | 23 => (.array .int)
  | 24 => (.array .int)
  | 25 => (.array .int)
  | 26 => (.array .int)
  | 27 => .int
  | 28 => (.array .int)
  | 29 => (.array .boolean)
  | 30 => .int
  | 31 => (.array .int)
  | 32 => (.array .int)
  | 33 => .long
  | 34 => (.array .int)
  | 35 => .int
  | 36 => .int
  | 37 => .int
  | 38 => (.array .int)
  | 39 => .int
  | 40 => .int
  | 41 => (.array .int)
  | _ => (.array .int)
theorem ov_nm8 : ∀ a, a < 43 → ∀ b, b < 43 → a ≠ b → (ov_T8 a).2.1 ≠ (ov_T8 b).2.1 := by decide +kernel
theorem ov_tyok8 : ∀ k, k < 43 → parseFieldDescriptor (ov_T8 k).2.2.1 = some (ov_ty8 k) := by decide +kernel
theorem ov_lay8 : u_ws "OnlyEntrancesModel" ov_T8 43 = [913, 915, 917, 919, 921, 923, 925, 927, 929, 931, 933, 935, 937, 939, 941, 943, 945, 947, 949, 951, 953, 955, 957, 959, 961, 963, 965, 967, 969, 971, 973, 975, 977, 979, 981, 983, 985, 987, 989, 991, 993, 995, 997].filterMap (fun i => lw_tbl[i]?) := by decide +kernel
def ov_cl : List vw_C := [("OnlyEntrances", ov_T0, 12), ("OnlyEntrances$Script", ov_T1, 2), ("OnlyEntrances$Play", ov_T2, 12), ("OnlyEntrances$Stage", ov_T3, 5), ("OnlyEntrances$Acts", ov_T4, 4), ("OnlyEntrances$Trod", ov_T5, 3), ("OnlyEntrances$Orders", ov_T6, 4), ("OnlyEntrances$Rests", ov_T7, 7), ("OnlyEntrancesModel", ov_T8, 43)]
def ov_ty : Nat → Nat → FieldType := fun c => match c with
  | 0 => ov_ty0
  | 1 => ov_ty1
  | 2 => ov_ty2
  | 3 => ov_ty3
  | 4 => ov_ty4
  | 5 => ov_ty5
  | 6 => ov_ty6
  | 7 => ov_ty7
  | _ => ov_ty8
abbrev ov_M : Type := Nat × String × String × ByteArray × Nat × Option FieldType × Nat × Nat × Nat
def ov_mt0 : List ov_M := [(0, "law", "([I)Z", code, 4, some .boolean, 1, 0, 55),
  (1, "<init>", "()V", prog_1_method_1_code, 2, none, 0, 75, 56),
  (2, "<init>", "()V", prog_9_method_1_code, 1, none, 0, 83, 57),
  (3, "<init>", "()V", prog_7_method_1_code, 1, none, 0, 97, 58),
  (4, "<init>", "(LOnlyEntrances$Play;)V", prog_10_method_1_code, 2, none, 1, 149, 59),
  (4, "setUp", "()V", prog_10_method_2_code, 2, none, 0, 154, 59),
  (3, "toldStoolCell", "(I)I", prog_7_method_14_code, 2, some .int, 1, 158, 58),
  (3, "hasStool", "(I)Z", prog_7_method_10_code, 2, some .boolean, 1, 162, 58),
  (5, "<init>", "()V", prog_2_method_1_code, 1, none, 0, 183, 60),
  (6, "<init>", "()V", prog_11_method_1_code, 1, none, 0, 202, 61),
  (7, "<init>", "(LOnlyEntrances$Play;LOnlyEntrances$Stage;)V", prog_6_method_1_code, 3, none, 2, 218, 62),
  (8, "<init>", "(LOnlyEntrances$Play;LOnlyEntrances$Stage;LOnlyEntrances$Stage;)V", prog_8_method_1_code, 4, none, 3, 237, 63),
  (1, "write", "(I)I", prog_1_method_2_code, 2, some .int, 1, 302, 56),
  (2, "append", "(I)Z", prog_9_method_3_code, 2, some .boolean, 1, 306, 57),
  (2, "size", "()I", prog_9_method_2_code, 1, some .int, 0, 310, 57),
  (1, "wipe", "()I", prog_1_method_3_code, 2, some .int, 0, 314, 56),
  (2, "empty", "()V", prog_9_method_4_code, 1, none, 0, 318, 57),
  (1, "fault", "()I", prog_1_method_4_code, 1, some .int, 0, 322, 56),
  (3, "read", "(LOnlyEntrances$Script;)I", prog_7_method_2_code, 6, some .int, 1, 326, 58),
  (3, "forget", "()V", prog_7_method_3_code, 1, none, 0, 330, 58),
  (2, "byteAt", "(I)I", prog_9_method_5_code, 2, some .int, 1, 334, 57),
  (3, "takeThing", "(III)I", prog_7_method_4_code, 4, some .int, 3, 339, 58),
  (3, "takeDoor", "(I)I", prog_7_method_5_code, 3, some .int, 1, 343, 58),
  (10, "has", "(II)Z", prog_3_method_2_code, 2, some .boolean, 2, 347, 65),
  (11, "bit", "(I)I", prog_4_method_3_code, 1, some .int, 1, 350, 66),
  (3, "takeStool", "(I)I", prog_7_method_6_code, 2, some .int, 1, 354, 58),
  (3, "takePart", "(II)I", prog_7_method_7_code, 3, some .int, 2, 359, 58),
  (10, "with", "(II)I", prog_3_method_3_code, 2, some .int, 2, 362, 65),
  (3, "takeLine", "(II)I", prog_7_method_8_code, 3, some .int, 2, 366, 58),
  (3, "hasPart", "(I)Z", prog_7_method_11_code, 2, some .boolean, 1, 370, 58),
  (1, "play", "()I", prog_1_method_5_code, 1, some .int, 0, 374, 56),
  (5, "forget", "()V", prog_2_method_3_code, 1, none, 0, 379, 60),
  (1, "about", "(I)I", prog_1_method_6_code, 2, some .int, 1, 383, 56),
  (4, "onParts", "()I", prog_10_method_9_code, 3, some .int, 0, 387, 59),
  (4, "isOn", "(I)Z", prog_10_method_7_code, 2, some .boolean, 1, 391, 59),
  (4, "cellOf", "(I)I", prog_10_method_6_code, 2, some .int, 1, 395, 59),
  (4, "seenParts", "()I", prog_10_method_16_code, 4, some .int, 0, 401, 59),
  (4, "shownCells", "()I", prog_10_method_15_code, 2, some .int, 0, 405, 59),
  (4, "bodyCells", "(I)I", prog_10_method_12_code, 2, some .int, 1, 409, 59),
  (3, "ghostParts", "()I", prog_7_method_19_code, 1, some .int, 0, 413, 58)]
def ov_mt1 : List ov_M := [(4, "cellsOf", "(I)I", prog_10_method_11_code, 4, some .int, 1, 417, 59),
  (4, "saidLines", "()I", prog_10_method_4_code, 1, some .int, 0, 424, 59),
  (4, "heardAmong", "(I)I", prog_10_method_19_code, 8, some .int, 1, 428, 59),
  (4, "stoolCells", "()I", prog_10_method_10_code, 3, some .int, 0, 432, 59),
  (3, "sayer", "(I)I", prog_7_method_17_code, 2, some .int, 1, 436, 58),
  (3, "hasLine", "(I)Z", prog_7_method_12_code, 2, some .boolean, 1, 440, 58),
  (3, "hearer", "(I)I", prog_7_method_18_code, 2, some .int, 1, 444, 58),
  (4, "haveSight", "(III)Z", prog_10_method_17_code, 5, some .boolean, 3, 448, 59),
  (11, "between", "(II)I", prog_4_method_9_code, 8, some .int, 2, 451, 66),
  (11, "isCell", "(I)Z", prog_4_method_2_code, 1, some .boolean, 1, 454, 66),
  (13, "abs", "(I)I", prog_15_method_59_code, 1, some .int, 1, 457, 67),
  (14, "compare", "(II)I", prog_14_method_40_code, 2, some .int, 2, 460, 68),
  (13, "max", "(II)I", prog_15_method_65_code, 2, some .int, 2, 463, 67),
  (4, "freeCells", "()I", prog_10_method_13_code, 1, some .int, 0, 468, 59),
  (4, "minuteNow", "()I", prog_10_method_5_code, 1, some .int, 0, 472, 59),
  (5, "size", "()I", prog_2_method_2_code, 1, some .int, 0, 476, 60),
  (6, "size", "()I", prog_11_method_2_code, 1, some .int, 0, 480, 61),
  (1, "door", "(I)I", prog_1_method_7_code, 2, some .int, 1, 484, 56),
  (3, "hasDoor", "(I)Z", prog_7_method_9_code, 2, some .boolean, 1, 488, 58),
  (3, "doorCell", "(I)I", prog_7_method_13_code, 2, some .int, 1, 492, 58),
  (1, "stool", "(I)I", prog_1_method_8_code, 2, some .int, 1, 497, 56),
  (4, "stoolCell", "(I)I", prog_10_method_8_code, 2, some .int, 1, 502, 59),
  (1, "part", "(II)I", prog_1_method_9_code, 3, some .int, 2, 507, 56),
  (3, "weight", "(I)I", prog_7_method_15_code, 2, some .int, 1, 512, 58),
  (3, "kind", "(I)I", prog_7_method_16_code, 2, some .int, 1, 516, 58),
  (4, "inSightOf", "(I)I", prog_10_method_18_code, 5, some .int, 1, 521, 59),
  (4, "pathsOf", "(I)I", prog_10_method_14_code, 2, some .int, 1, 525, 59),
  (11, "reached", "(II)I", prog_4_method_7_code, 4, some .int, 2, 530, 66),
  (11, "nextRing", "(II)I", prog_4_method_6_code, 4, some .int, 2, 533, 66),
  (14, "bitCount", "(I)I", prog_14_method_49_code, 1, some .int, 1, 537, 68),
  (1, "line", "(II)I", prog_1_method_10_code, 3, some .int, 2, 544, 56),
  (1, "load", "(I)I", prog_1_method_11_code, 2, some .int, 1, 552, 56),
  (4, "loadOf", "(I)I", prog_10_method_22_code, 4, some .int, 1, 556, 59),
  (1, "enter", "(II)I", prog_1_method_12_code, 3, some .int, 2, 561, 56),
  (4, "putOn", "(II)Z", prog_10_method_23_code, 4, some .boolean, 2, 565, 59),
  (5, "add", "(III)V", prog_2_method_4_code, 4, none, 3, 570, 60),
  (5, "dropFirst", "()V", prog_2_method_5_code, 1, none, 0, 574, 60),
  (1, "walk", "(II)I", prog_1_method_13_code, 4, some .int, 2, 581, 56),
  (4, "stepOn", "(II)Z", prog_10_method_24_code, 4, some .boolean, 2, 585, 59),
  (11, "next", "(II)I", prog_4_method_5_code, 2, some .int, 2, 588, 66)]
def ov_mt2 : List ov_M := [(1, "say", "(I)I", prog_1_method_14_code, 2, some .int, 1, 596, 56),
  (4, "speak", "(I)Z", prog_10_method_25_code, 2, some .boolean, 1, 600, 59),
  (1, "shift", "(II)I", prog_1_method_15_code, 4, some .int, 2, 605, 56),
  (4, "push", "(II)Z", prog_10_method_26_code, 3, some .boolean, 2, 610, 59),
  (3, "doorwayCells", "()I", prog_7_method_20_code, 3, some .int, 0, 614, 58),
  (1, "undo", "()I", prog_1_method_16_code, 1, some .int, 0, 619, 56),
  (5, "lastKind", "()I", prog_2_method_7_code, 1, some .int, 0, 623, 60),
  (5, "lastWho", "()I", prog_2_method_8_code, 1, some .int, 0, 627, 60),
  (5, "lastFrom", "()I", prog_2_method_9_code, 1, some .int, 0, 631, 60),
  (4, "takeBack", "(III)V", prog_10_method_28_code, 4, none, 3, 635, 59),
  (4, "stand", "(II)V", prog_10_method_29_code, 3, none, 2, 639, 59),
  (10, "without", "(II)I", prog_3_method_4_code, 2, some .int, 2, 642, 65),
  (5, "dropLast", "()V", prog_2_method_6_code, 1, none, 0, 646, 60),
  (1, "way", "(II)I", prog_1_method_17_code, 3, some .int, 2, 651, 56),
  (11, "steps", "(III)I", prog_4_method_8_code, 5, some .int, 3, 655, 66),
  (1, "place", "(II)I", prog_1_method_18_code, 4, some .int, 2, 659, 56),
  (1, "bestCell", "(I)I", prog_1_method_19_code, 10, some .int, 1, 663, 56),
  (4, "copy", "(LOnlyEntrances$Stage;)V", prog_10_method_3_code, 2, none, 1, 667, 59),
  (1, "heardFrom", "(II)I", prog_1_method_20_code, 3, some .int, 2, 673, 56),
  (3, "linesOf", "(I)I", prog_7_method_21_code, 4, some .int, 1, 678, 58),
  (1, "comes", "(II)I", prog_1_method_21_code, 3, some .int, 2, 685, 56),
  (4, "bringOn", "(II)I", prog_10_method_31_code, 10, some .int, 2, 689, 59),
  (11, "least", "(I)I", prog_4_method_4_code, 2, some .int, 1, 692, 66),
  (1, "order", "(Z)I", prog_1_method_22_code, 2, some .int, 1, 697, 56),
  (7, "look", "()V", prog_6_method_4_code, 2, none, 0, 701, 62),
  (7, "goOn", "(LOnlyEntrances$Orders;III)V", prog_6_method_5_code, 6, none, 4, 705, 62),
  (7, "weigh", "(I)V", prog_6_method_6_code, 3, none, 1, 709, 62),
  (4, "leastFreeDoor", "()I", prog_10_method_30_code, 3, some .int, 0, 716, 59),
  (7, "best", "()I", prog_6_method_3_code, 1, some .int, 0, 723, 62),
  (7, "most", "()I", prog_6_method_2_code, 1, some .int, 0, 727, 62),
  (1, "bars", "(I)I", prog_1_method_23_code, 2, some .int, 1, 731, 56),
  (4, "barsBetween", "(II)I", prog_10_method_21_code, 7, some .int, 2, 735, 59),
  (1, "leftOut", "(I)I", prog_1_method_24_code, 7, some .int, 1, 739, 56),
  (4, "countHeard", "(I)I", prog_10_method_20_code, 2, some .int, 1, 744, 59),
  (1, "judge", "(IJ)I", prog_1_method_25_code, 6, some .int, 2, 749, 56),
  (12, "power", "(II)J", prog_5_method_2_code, 5, some .long, 2, 752, 70),
  (1, "figuresAt", "(JI)I", prog_1_method_26_code, 6, some .int, 2, 755, 56),
  (4, "does", "(III)Z", prog_10_method_27_code, 4, some .boolean, 3, 760, 59),
  (1, "share", "(IZ)I", prog_1_method_27_code, 12, some .int, 2, 767, 56),
  (12, "half", "(JJZ)I", prog_5_method_5_code, 7, some .int, 3, 770, 70)]
def ov_mt3 : List ov_M := [(13, "abs", "(J)J", prog_15_method_61_code, 2, some .long, 1, 773, 67),
  (12, "commonDivisor", "(JJ)J", prog_5_method_6_code, 11, some .long, 2, 776, 70),
  (12, "factorial", "(I)J", prog_5_method_3_code, 4, some .long, 1, 779, 70),
  (1, "tread", "(II)I", prog_1_method_28_code, 3, some .int, 2, 784, 56),
  (6, "add", "(II)Z", prog_11_method_4_code, 3, some .boolean, 2, 788, 61),
  (1, "untread", "()I", prog_1_method_29_code, 2, some .int, 0, 792, 56),
  (6, "forget", "()V", prog_11_method_3_code, 1, none, 0, 796, 61),
  (1, "doors", "()I", prog_1_method_30_code, 4, some .int, 0, 800, 56),
  (6, "allFrom", "(II)Z", prog_11_method_5_code, 4, some .boolean, 2, 806, 61),
  (1, "rests", "(III)I", prog_1_method_31_code, 4, some .int, 3, 811, 56),
  (8, "look", "(II)V", prog_8_method_4_code, 6, none, 2, 815, 63),
  (8, "perform", "(IIII)V", prog_8_method_5_code, 9, none, 4, 819, 63),
  (8, "worth", "(IZ)I", prog_8_method_6_code, 2, some .int, 2, 826, 63),
  (8, "isRest", "(II)Z", prog_8_method_7_code, 7, some .boolean, 2, 830, 63),
  (8, "count", "()I", prog_8_method_2_code, 1, some .int, 0, 834, 63),
  (8, "first", "()I", prog_8_method_3_code, 1, some .int, 0, 838, 63),
  (1, "gives", "(IIZ)I", prog_1_method_32_code, 8, some .int, 3, 842, 56),
  (12, "choices", "(II)J", prog_5_method_4_code, 5, some .long, 2, 845, 70),
  (1, "seed", "(J)J", prog_1_method_33_code, 5, some .long, 1, 849, 56),
  (1, "evenings", "(I)I", prog_1_method_34_code, 5, some .int, 1, 853, 56),
  (1, "keep", "(I)I", prog_1_method_35_code, 2, some .int, 1, 860, 56),
  (1, "again", "(I)I", prog_1_method_36_code, 2, some .int, 1, 864, 56),
  (9, "<init>", "()V", prog_13_method_1_code, 2, none, 0, 869, 64),
  (9, "write", "(I)I", prog_13_method_9_code, 2, some .int, 1, 1004, 64),
  (9, "in", "(JJJ)Z", prog_13_method_3_code, 6, some .boolean, 3, 1008, 64),
  (9, "wipe", "()I", prog_13_method_10_code, 2, some .int, 0, 1012, 64),
  (9, "fault", "()I", prog_13_method_20_code, 1, some .int, 0, 1016, 64),
  (9, "readPlay", "()I", prog_13_method_19_code, 1, some .int, 0, 1020, 64),
  (9, "readThing", "()Z", prog_13_method_18_code, 2, some .boolean, 0, 1024, 64),
  (9, "readTaken", "()I", prog_13_method_12_code, 3, some .int, 0, 1028, 64),
  (9, "readDoorPart", "()Z", prog_13_method_14_code, 2, some .boolean, 0, 1032, 64),
  (9, "readCell", "(I)I", prog_13_method_13_code, 3, some .int, 1, 1036, 64),
  (9, "has", "(II)Z", prog_13_method_4_code, 2, some .boolean, 2, 1040, 64),
  (9, "readStoolPart", "()Z", prog_13_method_15_code, 2, some .boolean, 0, 1044, 64),
  (9, "readPartPart", "()Z", prog_13_method_16_code, 3, some .boolean, 0, 1048, 64),
  (9, "figure", "(II)I", prog_13_method_11_code, 3, some .int, 2, 1052, 64),
  (9, "readLinePart", "()Z", prog_13_method_17_code, 3, some .boolean, 0, 1056, 64),
  (9, "play", "()I", prog_13_method_22_code, 2, some .int, 0, 1060, 64),
  (9, "copyRow", "([I[II)V", prog_13_method_21_code, 4, none, 3, 1063, 64),
  (9, "about", "(I)I", prog_13_method_39_code, 2, some .int, 1, 1067, 64)]
def ov_mt4 : List ov_M := [(9, "on", "([I)I", prog_13_method_38_code, 4, some .int, 1, 1071, 64),
  (9, "seen", "([I)I", prog_13_method_33_code, 4, some .int, 1, 1075, 64),
  (9, "isSeen", "([II)Z", prog_13_method_32_code, 7, some .boolean, 2, 1079, 64),
  (9, "heard", "([I)I", prog_13_method_31_code, 4, some .int, 1, 1083, 64),
  (9, "isHeard", "([II)Z", prog_13_method_30_code, 3, some .boolean, 2, 1087, 64),
  (9, "barsOf", "([III)I", prog_13_method_29_code, 5, some .int, 3, 1091, 64),
  (9, "between", "(II)I", prog_13_method_27_code, 7, some .int, 2, 1094, 64),
  (9, "size", "(I)I", prog_13_method_26_code, 1, some .int, 1, 1097, 64),
  (9, "stoolsOn", "([I)I", prog_13_method_23_code, 4, some .int, 1, 1101, 64),
  (9, "standOn", "([II)I", prog_13_method_28_code, 6, some .int, 2, 1105, 64),
  (9, "taken", "([I)I", prog_13_method_24_code, 4, some .int, 1, 1110, 64),
  (9, "door", "(I)I", prog_13_method_40_code, 2, some .int, 1, 1114, 64),
  (9, "noDoor", "(I)Z", prog_13_method_7_code, 2, some .boolean, 1, 1118, 64),
  (9, "stool", "(I)I", prog_13_method_41_code, 2, some .int, 1, 1122, 64),
  (9, "part", "(II)I", prog_13_method_44_code, 3, some .int, 2, 1126, 64),
  (9, "noPart", "(I)Z", prog_13_method_6_code, 2, some .boolean, 1, 1130, 64),
  (9, "sights", "(I)I", prog_13_method_42_code, 4, some .int, 1, 1134, 64),
  (9, "reached", "(I)I", prog_13_method_43_code, 4, some .int, 1, 1138, 64),
  (9, "layWays", "([II)V", prog_13_method_37_code, 3, none, 2, 1142, 64),
  (9, "layFar", "(II)V", prog_13_method_36_code, 7, none, 2, 1146, 64),
  (9, "nextCell", "(II)I", prog_13_method_35_code, 2, some .int, 2, 1149, 64),
  (9, "line", "(II)I", prog_13_method_45_code, 3, some .int, 2, 1153, 64),
  (9, "load", "(I)I", prog_13_method_46_code, 2, some .int, 1, 1157, 64),
  (9, "loadOf", "([II)I", prog_13_method_34_code, 6, some .int, 2, 1162, 64),
  (9, "enter", "(II)I", prog_13_method_49_code, 3, some .int, 2, 1166, 64),
  (9, "canEnter", "([III)Z", prog_13_method_48_code, 4, some .boolean, 3, 1170, 64),
  (9, "isFree", "([II)Z", prog_13_method_25_code, 3, some .boolean, 2, 1174, 64),
  (9, "note", "()V", prog_13_method_47_code, 2, none, 0, 1178, 64),
  (9, "walk", "(II)I", prog_13_method_51_code, 4, some .int, 2, 1182, 64),
  (9, "walkTo", "([III)I", prog_13_method_50_code, 5, some .int, 3, 1187, 64),
  (9, "say", "(I)I", prog_13_method_52_code, 2, some .int, 1, 1191, 64),
  (9, "many", "(I)I", prog_13_method_5_code, 3, some .int, 1, 1194, 64),
  (9, "shift", "(II)I", prog_13_method_54_code, 4, some .int, 2, 1198, 64),
  (9, "noCell", "(I)Z", prog_13_method_8_code, 1, some .boolean, 1, 1201, 64),
  (9, "isDoor", "(I)Z", prog_13_method_53_code, 4, some .boolean, 1, 1205, 64),
  (9, "undo", "()I", prog_13_method_55_code, 2, some .int, 0, 1209, 64),
  (9, "way", "(II)I", prog_13_method_56_code, 3, some .int, 2, 1213, 64),
  (9, "place", "(II)I", prog_13_method_59_code, 3, some .int, 2, 1217, 64),
  (9, "findPlace", "(I)V", prog_13_method_58_code, 5, none, 1, 1221, 64),
  (9, "heardOf", "(I)I", prog_13_method_57_code, 4, some .int, 1, 1225, 64)]
def ov_mt5 : List ov_M := [(9, "comes", "(II)I", prog_13_method_61_code, 3, some .int, 2, 1229, 64),
  (9, "come", "(II)I", prog_13_method_60_code, 6, some .int, 2, 1233, 64),
  (9, "order", "(Z)I", prog_13_method_65_code, 2, some .int, 1, 1237, 64),
  (9, "findOrder", "()V", prog_13_method_64_code, 5, none, 0, 1241, 64),
  (9, "comeAnyhow", "(I)V", prog_13_method_62_code, 4, none, 1, 1245, 64),
  (9, "nextOrder", "(I)Z", prog_13_method_63_code, 7, some .boolean, 1, 1249, 64),
  (9, "bars", "(I)I", prog_13_method_66_code, 2, some .int, 1, 1253, 64),
  (9, "leftOut", "(I)I", prog_13_method_67_code, 5, some .int, 1, 1257, 64),
  (9, "judge", "(IJ)I", prog_13_method_70_code, 5, some .int, 2, 1261, 64),
  (9, "power", "(JI)J", prog_13_method_68_code, 6, some .long, 2, 1266, 64),
  (9, "does", "(I)Z", prog_13_method_69_code, 5, some .boolean, 1, 1270, 64),
  (9, "share", "(IZ)I", prog_13_method_74_code, 6, some .int, 2, 1274, 64),
  (9, "ways", "(I)I", prog_13_method_71_code, 3, some .int, 1, 1277, 64),
  (9, "fraction", "(IIZ)I", prog_13_method_73_code, 4, some .int, 3, 1280, 64),
  (9, "divisor", "(II)I", prog_13_method_72_code, 5, some .int, 2, 1283, 64),
  (9, "tread", "(II)I", prog_13_method_75_code, 3, some .int, 2, 1287, 64),
  (9, "untread", "()I", prog_13_method_76_code, 2, some .int, 0, 1292, 64),
  (9, "doors", "()I", prog_13_method_77_code, 5, some .int, 0, 1296, 64),
  (9, "rests", "(III)I", prog_13_method_80_code, 4, some .int, 3, 1300, 64),
  (9, "findRests", "(II)V", prog_13_method_79_code, 7, none, 2, 1304, 64),
  (9, "gainOf", "(II)I", prog_13_method_78_code, 3, some .int, 2, 1308, 64),
  (9, "gives", "(IIZ)I", prog_13_method_81_code, 8, some .int, 3, 1312, 64),
  (9, "seed", "(J)J", prog_13_method_82_code, 5, some .long, 1, 1318, 64),
  (9, "evenings", "(I)I", prog_13_method_83_code, 5, some .int, 1, 1322, 64),
  (9, "keep", "(I)I", prog_13_method_84_code, 3, some .int, 1, 1330, 64),
  (9, "again", "(I)I", prog_13_method_85_code, 3, some .int, 1, 1334, 64)]
def ov_mt : List ov_M := ov_mt0 ++ (ov_mt1 ++ (ov_mt2 ++ (ov_mt3 ++ (ov_mt4 ++ (ov_mt5)))))
abbrev ov_L : Type := Nat × Nat × Nat × Nat × Nat × Nat
def ov_lt0 : List ov_L := [(288, 2, 1, 73, 74, 0), (299, 0, 23, 590, 346, 0), (353, 2, 2, 81, 82, 0), (384, 2, 142, 867, 868, 0), (416, 1, 12, 299, 300, 301), (428, 0, 121, 774, 775, 0), (544, 1, 143, 1001, 1002, 1003), (555, 0, 49, 452, 453, 0), (576, 1, 15, 311, 312, 313), (577, 2, 3, 95, 96, 0), (704, 1, 145, 1009, 1010, 1011), (708, 1, 5, 151, 152, 153), (710, 0, 94, 807, 654, 0), (736, 1, 17, 319, 320, 321), (779, 0, 24, 464, 349, 0), (804, 1, 6, 155, 156, 157), (805, 1, 76, 571, 573, 10), (832, 1, 146, 1013, 1014, 1015), (839, 1, 33, 702, 385, 386), (864, 1, 30, 371, 372, 373), (897, 2, 4, 147, 148, 0), (907, 0, 68, 531, 532, 0), (960, 1, 157, 1057, 1058, 1059), (963, 1, 19, 327, 329, 0), (992, 1, 32, 380, 381, 382), (1059, 1, 20, 331, 332, 333), (1088, 1, 159, 1064, 1065, 1066), (1120, 1, 57, 481, 482, 483), (1191, 0, 105, 703, 704, 0), (1195, 0, 51, 458, 459, 0), (1216, 1, 171, 1111, 1112, 1113), (1248, 1, 60, 494, 495, 496), (1251, 1, 14, 335, 308, 309), (1281, 2, 8, 181, 182, 0), (1319, 1, 106, 706, 708, 13), (1320, 1, 131, 816, 818, 14), (1344, 1, 173, 1119, 1120, 1121), (1376, 1, 62, 504, 505, 506), (1379, 1, 21, 336, 338, 1), (1412, 1, 29, 396, 368, 369), (1447, 0, 23, 712, 346, 0), (1448, 1, 133, 827, 829, 15), (1504, 1, 174, 1123, 1124, 1125), (1505, 2, 9, 200, 201, 0), (1536, 1, 70, 541, 542, 543), (1540, 1, 35, 392, 393, 394), (1576, 1, 97, 820, 665, 666), (1632, 1, 181, 1150, 1151, 1152)]
def ov_lt1 : List ov_L := [(1636, 1, 7, 503, 160, 161), (1639, 1, 107, 713, 714, 715), (1664, 1, 71, 549, 550, 551), (1729, 2, 10, 216, 217, 0), (1735, 1, 101, 717, 687, 688), (1760, 1, 182, 1154, 1155, 1156), (1768, 1, 101, 821, 687, 688), (1792, 1, 73, 558, 559, 560), (1828, 1, 34, 388, 389, 390), (1863, 0, 91, 718, 641, 0), (1888, 1, 184, 1163, 1164, 1165), (1896, 1, 36, 822, 399, 400), (1920, 1, 77, 578, 579, 580), (1924, 0, 27, 397, 361, 0), (1959, 1, 90, 719, 637, 638), (2016, 1, 188, 1179, 1180, 1181), (2017, 2, 11, 235, 236, 0), (2024, 0, 23, 823, 346, 0), (2048, 1, 80, 593, 594, 595), (2087, 1, 42, 710, 426, 427), (2115, 1, 22, 340, 342, 2), (2116, 0, 24, 419, 349, 0), (2144, 1, 190, 1188, 1189, 1190), (2176, 1, 82, 602, 603, 604), (2184, 0, 132, 824, 825, 0), (2211, 1, 25, 351, 353, 3), (2215, 0, 69, 711, 536, 0), (2272, 1, 192, 1195, 1196, 1197), (2276, 0, 23, 418, 346, 0), (2304, 1, 85, 616, 617, 618), (2307, 1, 26, 356, 358, 4), (2400, 1, 195, 1206, 1207, 1208), (2404, 1, 39, 410, 411, 412), (2432, 1, 93, 648, 649, 650), (2435, 1, 28, 363, 365, 5), (2528, 1, 196, 1210, 1211, 1212), (2532, 1, 40, 414, 416, 8), (2560, 1, 95, 656, 657, 658), (2563, 0, 23, 345, 346, 0), (2625, 1, 13, 303, 304, 305), (2656, 1, 197, 1214, 1215, 1216), (2660, 1, 43, 429, 430, 431), (2688, 1, 100, 682, 683, 684), (2753, 1, 14, 307, 308, 309), (2755, 0, 24, 348, 349, 0), (2756, 1, 64, 526, 514, 515), (2784, 1, 200, 1226, 1227, 1228), (2816, 1, 103, 694, 695, 696)]
def ov_lt2 : List ov_L := [(2852, 1, 53, 527, 466, 467), (2881, 1, 16, 315, 316, 317), (2889, 0, 144, 1006, 1007, 0), (2944, 1, 202, 1234, 1235, 1236), (2947, 0, 27, 360, 361, 0), (2948, 1, 38, 406, 408, 7), (2976, 1, 110, 728, 729, 730), (2977, 1, 18, 323, 324, 325), (3043, 1, 29, 367, 368, 369), (3044, 1, 37, 402, 404, 6), (3072, 1, 206, 1250, 1251, 1252), (3104, 1, 112, 736, 737, 738), (3105, 1, 5, 375, 152, 153), (3140, 0, 48, 449, 450, 0), (3171, 1, 58, 493, 486, 487), (3200, 1, 207, 1254, 1255, 1256), (3201, 1, 31, 376, 377, 378), (3236, 1, 47, 445, 447, 9), (3267, 1, 7, 159, 160, 161), (3296, 1, 114, 746, 747, 748), (3363, 1, 45, 437, 438, 439), (3424, 1, 208, 1258, 1259, 1260), (3456, 1, 118, 764, 765, 766), (3459, 1, 59, 615, 490, 491), (3460, 1, 44, 433, 434, 435), (3555, 1, 44, 679, 434, 435), (3556, 1, 46, 441, 442, 443), (3584, 1, 211, 1271, 1272, 1273), (3616, 1, 123, 781, 782, 783), (3625, 1, 149, 1025, 1027, 18), (3651, 1, 46, 680, 442, 443), (3652, 1, 42, 601, 426, 427), (3681, 1, 33, 384, 385, 386), (3712, 1, 215, 1284, 1285, 1286), (3744, 1, 125, 789, 790, 791), (3748, 0, 69, 745, 536, 0), (3753, 0, 152, 1038, 1039, 0), (3777, 1, 36, 398, 399, 400), (3840, 1, 216, 1289, 1290, 1291), (3872, 1, 127, 797, 798, 799), (3873, 1, 41, 421, 422, 423), (3881, 1, 151, 1033, 1035, 20), (3908, 1, 63, 557, 510, 511), (3968, 1, 217, 1293, 1294, 1295), (3969, 1, 42, 425, 426, 427), (4000, 1, 129, 808, 809, 810), (4004, 1, 59, 566, 490, 491), (4009, 1, 155, 1049, 1051, 23)]
def ov_lt3 : List ov_L := [(4097, 1, 53, 465, 466, 467), (4100, 0, 79, 586, 587, 0), (4128, 1, 218, 1297, 1298, 1299), (4160, 1, 136, 839, 840, 841), (4193, 1, 54, 469, 470, 471), (4196, 1, 66, 592, 523, 524), (4288, 1, 221, 1309, 1310, 1311), (4289, 1, 55, 473, 474, 475), (4292, 1, 84, 611, 612, 613), (4320, 1, 138, 846, 847, 848), (4321, 1, 56, 477, 478, 479), (4329, 1, 150, 1029, 1031, 19), (4353, 1, 58, 485, 486, 487), (4388, 1, 74, 761, 563, 564), (4448, 1, 222, 1315, 1316, 1317), (4449, 1, 59, 489, 490, 491), (4457, 1, 153, 1041, 1043, 21), (4480, 1, 139, 850, 851, 852), (4484, 1, 78, 762, 583, 584), (4545, 1, 7, 498, 160, 161), (4553, 1, 154, 1045, 1047, 22), (4576, 1, 223, 1319, 1320, 1321), (4580, 1, 81, 763, 598, 599), (4608, 1, 140, 857, 858, 859), (4641, 1, 61, 499, 500, 501), (4649, 1, 156, 1053, 1055, 24), (4676, 1, 90, 636, 637, 638), (4704, 1, 224, 1327, 1328, 1329), (4736, 1, 141, 861, 862, 863), (4737, 1, 29, 508, 368, 369), (4745, 1, 148, 1021, 1023, 17), (4804, 0, 91, 640, 641, 0), (4832, 1, 225, 1331, 1332, 1333), (4833, 1, 63, 509, 510, 511), (4841, 1, 147, 1017, 1019, 16), (4929, 1, 64, 513, 514, 515), (4996, 0, 102, 690, 691, 0), (5025, 1, 35, 517, 393, 394), (5092, 0, 68, 693, 532, 0), (5121, 1, 65, 518, 519, 520), (5129, 0, 158, 1061, 1062, 0), (5217, 1, 66, 522, 523, 524), (5313, 0, 67, 528, 529, 0), (5353, 1, 168, 1098, 1100, 31), (5481, 1, 170, 1107, 1109, 33), (5505, 0, 69, 535, 536, 0), (5577, 0, 167, 1095, 1096, 0), (5665, 1, 45, 545, 438, 439)]
def ov_lt4 : List ov_L := [(5673, 0, 166, 1092, 1093, 0), (5761, 1, 44, 546, 434, 435), (5769, 1, 169, 1102, 1104, 32), (5857, 1, 46, 547, 442, 443), (5897, 1, 165, 1088, 1090, 30), (5953, 0, 23, 548, 346, 0), (6025, 1, 164, 1084, 1086, 29), (6145, 1, 72, 553, 554, 555), (6153, 1, 162, 1076, 1078, 27), (6241, 1, 74, 562, 563, 564), (6249, 0, 180, 1147, 1148, 0), (6337, 1, 75, 567, 568, 569), (6377, 1, 179, 1143, 1145, 39), (6465, 1, 78, 582, 583, 584), (6505, 1, 160, 1068, 1070, 25), (6561, 1, 81, 597, 598, 599), (6601, 1, 161, 1072, 1074, 26), (6657, 0, 49, 606, 453, 0), (6697, 1, 163, 1080, 1082, 28), (6753, 1, 83, 607, 608, 609), (6849, 1, 86, 620, 621, 622), (6889, 1, 172, 1115, 1117, 34), (6945, 1, 87, 624, 625, 626), (7017, 1, 178, 1139, 1141, 38), (7041, 1, 88, 628, 629, 630), (7137, 1, 89, 632, 633, 634), (7145, 1, 175, 1127, 1129, 35), (7233, 1, 92, 643, 644, 645), (7241, 1, 176, 1131, 1133, 36), (7329, 1, 34, 652, 389, 390), (7337, 1, 177, 1135, 1137, 37), (7425, 0, 94, 653, 654, 0), (7497, 1, 183, 1159, 1161, 40), (7553, 1, 96, 660, 662, 11), (7593, 1, 186, 1171, 1173, 42), (7649, 1, 98, 670, 672, 12), (7689, 1, 185, 1167, 1169, 41), (7745, 1, 97, 664, 665, 666), (7817, 1, 187, 1175, 1177, 43), (7873, 0, 24, 669, 349, 0), (7969, 0, 68, 681, 532, 0), (7977, 1, 189, 1184, 1186, 44), (8065, 1, 90, 674, 637, 638), (8073, 0, 191, 1192, 1193, 0), (8169, 0, 193, 1199, 1200, 0), (8193, 1, 99, 675, 676, 677), (8265, 1, 194, 1202, 1204, 45), (8289, 1, 101, 686, 687, 688)]
def ov_lt5 : List ov_L := [(8385, 1, 104, 698, 699, 700), (8481, 1, 108, 720, 721, 722), (8553, 1, 199, 1222, 1224, 47), (8577, 1, 109, 724, 725, 726), (8649, 1, 198, 1218, 1220, 46), (8673, 1, 111, 732, 733, 734), (8769, 0, 91, 740, 641, 0), (8777, 1, 201, 1230, 1232, 48), (8865, 1, 113, 741, 742, 743), (8873, 1, 204, 1242, 1244, 50), (8961, 0, 115, 750, 751, 0), (8969, 1, 205, 1246, 1248, 51), (9065, 1, 203, 1238, 1240, 49), (9153, 0, 116, 753, 754, 0), (9281, 1, 117, 757, 758, 759), (9289, 0, 209, 1264, 1265, 0), (9417, 1, 210, 1267, 1269, 52), (9473, 0, 119, 768, 769, 0), (9513, 0, 214, 1281, 1282, 0), (9601, 0, 122, 777, 778, 0), (9609, 0, 212, 1275, 1276, 0), (9705, 0, 213, 1278, 1279, 0), (9729, 0, 27, 780, 361, 0), (9825, 1, 124, 785, 786, 787), (9889, 1, 126, 793, 794, 795), (9897, 1, 220, 1305, 1307, 54), (9953, 1, 43, 802, 430, 431), (10049, 1, 128, 803, 804, 805), (10145, 1, 130, 812, 813, 814), (10185, 1, 219, 1301, 1303, 53), (10209, 1, 134, 831, 832, 833), (10305, 1, 135, 835, 836, 837), (10401, 0, 137, 843, 844, 0)]
def ov_lt : List ov_L := ov_lt0 ++ (ov_lt1 ++ (ov_lt2 ++ (ov_lt3 ++ (ov_lt4 ++ (ov_lt5)))))
def ov_it : List (Nat × Nat) := [(97, 76), (98, 84), (99, 98), (100, 150), (101, 184), (102, 203), (103, 219), (104, 238), (41, 870)]
def ov_ct : List (Nat × Nat) := [(901, 575), (1220, 668)]
def ov_xt : List (Nat × Nat × Nat) := [(1035, 0, 455), (1355, 1, 461), (1093, 1, 647), (236, 2, 771)]
def ov_ft : List (Nat × Nat × Nat × Bool × Nat) := [(290, 1, 0, true, 85), (482, 1, 1, false, 86), (1507, 2, 0, false, 99), (1160, 2, 0, false, 100), (3297, 2, 0, false, 101), (4900, 2, 0, false, 102), (1635, 2, 1, false, 103), (3393, 2, 1, false, 104), (1731, 2, 2, false, 105), (1031, 2, 2, false, 106), (3489, 2, 2, false, 107), (1732, 2, 2, false, 108), (1827, 2, 3, false, 109), (3585, 2, 3, false, 110), (3364, 2, 3, false, 111), (291, 2, 4, true, 112), (483, 2, 5, true, 113), (579, 2, 6, true, 114), (675, 2, 7, true, 115), (771, 2, 8, true, 116), (867, 2, 9, true, 117), (1923, 2, 10, false, 118), (2019, 2, 11, false, 119), (580, 3, 0, true, 163), (292, 3, 1, true, 164), (484, 3, 2, true, 165), (996, 3, 3, false, 166), (1124, 3, 4, false, 167), (293, 4, 0, true, 185), (485, 4, 1, true, 186), (581, 4, 2, true, 187), (677, 4, 3, false, 188), (294, 5, 0, true, 204), (486, 5, 1, true, 205), (582, 5, 2, false, 206), (295, 6, 0, true, 220), (487, 6, 1, true, 221), (615, 6, 2, false, 222), (743, 6, 3, false, 223), (584, 7, 0, true, 239), (712, 7, 1, true, 240), (840, 7, 2, true, 241), (296, 7, 3, true, 242), (488, 7, 4, true, 243), (936, 7, 5, false, 244), (1064, 7, 6, false, 245), (385, 0, 0, true, 262), (609, 0, 1, true, 263), (737, 0, 2, true, 264), (993, 0, 3, true, 265), (1121, 0, 4, true, 266), (1313, 0, 5, true, 267), (1537, 0, 6, true, 268), (1825, 0, 7, true, 269), (2113, 0, 8, true, 270), (2241, 0, 9, true, 271), (2369, 0, 10, false, 272), (2497, 0, 11, false, 273), (2665, 8, 0, false, 871), (233, 8, 1, true, 872), (3241, 8, 2, false, 873), (3337, 8, 3, false, 874), (3017, 8, 4, false, 875), (425, 8, 5, true, 876), (4937, 8, 6, false, 877), (2793, 8, 7, false, 878), (521, 8, 8, true, 879), (617, 8, 9, true, 880), (5033, 8, 10, false, 881), (713, 8, 11, true, 882), (809, 8, 12, true, 883), (3433, 8, 13, false, 884), (905, 8, 14, true, 885), (3529, 8, 15, false, 886), (1001, 8, 16, true, 887), (4137, 8, 17, false, 888), (1097, 8, 18, true, 889), (1193, 8, 19, true, 890), (4233, 8, 20, false, 891), (1289, 8, 21, true, 892), (1385, 8, 22, true, 893), (1481, 8, 23, true, 894), (1577, 8, 24, true, 895), (1673, 8, 25, true, 896), (1769, 8, 26, true, 897), (5257, 8, 27, false, 898), (1865, 8, 28, true, 899), (1961, 8, 29, true, 900), (6793, 8, 30, false, 901), (2089, 8, 31, true, 902), (2185, 8, 32, true, 903), (10409, 8, 33, false, 904), (2281, 8, 34, true, 905), (8361, 8, 36, false, 906), (8457, 8, 37, false, 907), (2377, 8, 38, true, 908), (9993, 8, 39, false, 909), (10089, 8, 40, false, 910), (2473, 8, 41, true, 911), (2569, 8, 42, true, 912)]
def ov_kt : List (Nat × Int32 × Nat) := [(2531, 258048, 344), (2915, 262143, 355), (2628, 262143, 420), (747, -133153, 534), (8494, 1431655765, 538), (8526, 858993459, 539), (8558, 252645135, 540), (491, 257982, 589), (523, 128991, 591), (9921, 262143, 801), (6345, 262143, 1106)]
def ov_k2t : List (Nat × Int64 × Nat) := [(9409, 1000, 756), (10497, 6364136223846793005, 854), (10561, 1442695040888963407, 855), (10625, 42, 856), (3177, 255, 1005), (3113, 17, 1037), (7433, 5, 1158), (7913, 3, 1183), (9161, 4, 1262), (9225, 1000, 1263), (9833, 9, 1288), (10281, 6, 1313), (10345, 10, 1314), (10537, 30, 1323), (10601, 6364136223846793005, 1324), (10665, 1442695040888963407, 1325), (10729, 42, 1326), (3232, 4294967295, 1335)]
def ov_nt : List (Nat × Nat × Nat × Nat × Nat) := [(224, 0, 71, 72, 56), (289, 1, 79, 80, 57), (513, 2, 93, 94, 58), (833, 3, 145, 146, 59), (1217, 4, 179, 180, 60), (1441, 5, 198, 199, 61), (1665, 6, 214, 215, 62), (1953, 7, 233, 234, 63), (320, 8, 865, 866, 64)]
-- places: native 577, static 576, initialized System 69, arrayClass {'(Jvm.Cond.arrayClass Jvm.ClassFile.FieldType.int)': 92, '(Jvm.Cond.arrayClass Jvm.ClassFile.FieldType.boolean)': 1000}, arrayOver 261, instance Object.<init> 77, code [78]

def ov_tt : List Cond := lw_tbl.filter goodWord
def ov_ix (i : Nat) (w : Cond) : Bool := decide (lw_tbl[i]? = some w) && goodWord w
theorem ov_ixm {i : Nat} {w : Cond} (h : ov_ix i w = true) : w ∈ ov_tt := List.mem_filter.mpr ⟨List.mem_of_getElem? (of_decide_eq_true ((Bool.and_eq_true_iff.mp h).1)), (Bool.and_eq_true_iff.mp h).2⟩
def ov_m0 : ov_M := (0, "", "", code, 0, none, 0, 0, 0)
def ov_me (k : Nat) : ov_M := ov_mt.getD k ov_m0
def ov_oc (k : Nat) : Nat := (ov_me k).1
def ov_nm (k : Nat) : MethodName := ⟨ov_cname (ov_me k).1, (ov_me k).2.1, (ov_me k).2.2.1⟩
def ov_byt (k : Nat) : ByteArray := (ov_me k).2.2.2.1
def ov_mx (k : Nat) : Nat := (ov_me k).2.2.2.2.1
def ov_rt (k : Nat) : Option FieldType := (ov_me k).2.2.2.2.2.1
def ov_np (k : Nat) : Nat := (ov_me k).2.2.2.2.2.2.1
def ov_nM : Nat := 226
theorem ov_ocm : (ov_m0 :: ov_mt).all (fun e => Nat.blt e.1 32) = true := by decide +kernel
theorem ov_oc_lt (k : Nat) : ov_oc k < 32 := by
  unfold ov_oc ov_me
  rw [List.getD_eq_getElem?_getD]
  cases h : ov_mt[k]? with
  | none => decide
  | some e => exact Nat.le_of_ble_eq_true (List.all_eq_true.mp ov_ocm e (List.mem_cons_of_mem _ (List.mem_of_getElem? h)))
def ov_mOK (k : Nat) : Bool :=
  plainName (ov_nm k).cls && ov_ix (ov_me k).2.2.2.2.2.2.2.2 (.initialized (ov_nm k).cls) &&
  decide ((ov_nm k).cls ≠ "java/lang/invoke/MethodHandle" ∧ (ov_nm k).cls ≠ "java/lang/invoke/VarHandle") && decide ((parseMethodDescriptor (ov_nm k).desc).map (fun d => d.parameters.length) = some (ov_np k)) && Nat.ble (ov_mx k) 40
theorem ov_in1 {w : Cond} (h : w ∈ tables_1_1) (hg : goodWord w = true) : w ∈ ov_tt := List.mem_filter.mpr ⟨List.mem_append_right _ (List.mem_append_left _ h), hg⟩
theorem ov_in2 {w : Cond} (h : w ∈ tables_1_2) (hg : goodWord w = true) : w ∈ ov_tt := List.mem_filter.mpr ⟨List.mem_append_right _ (List.mem_append_right _ (List.mem_append_left _ h)), hg⟩
theorem ov_in3 {w : Cond} (h : w ∈ tables_1_3) (hg : goodWord w = true) : w ∈ ov_tt := List.mem_filter.mpr ⟨List.mem_append_right _ (List.mem_append_right _ (List.mem_append_right _ (List.mem_append_left _ h))), hg⟩
theorem ov_in4 {w : Cond} (h : w ∈ tables_1_4) (hg : goodWord w = true) : w ∈ ov_tt := List.mem_filter.mpr ⟨List.mem_append_right _ (List.mem_append_right _ (List.mem_append_right _ (List.mem_append_right _ (List.mem_append_left _ h)))), hg⟩
theorem ov_in5 {w : Cond} (h : w ∈ tables_1_5) (hg : goodWord w = true) : w ∈ ov_tt := List.mem_filter.mpr ⟨List.mem_append_right _ (List.mem_append_right _ (List.mem_append_right _ (List.mem_append_right _ (List.mem_append_right _ (List.mem_append_left _ h))))), hg⟩
theorem ov_in6 {w : Cond} (h : w ∈ tables_1_6) (hg : goodWord w = true) : w ∈ ov_tt := List.mem_filter.mpr ⟨List.mem_append_right _ (List.mem_append_right _ (List.mem_append_right _ (List.mem_append_right _ (List.mem_append_right _ (List.mem_append_right _ (h)))))), hg⟩
def ov_P (k : Nat) : Prop := Cond.code (ov_nm k) (ov_byt k) (ov_mx k) (ov_rt k) ∈ ov_tt
theorem ov_mc1 : ov_P 1 := ov_in1 (w := .code (ov_nm 1) (ov_byt 1) (ov_mx 1) (ov_rt 1)) (List.mem_of_getElem? (i := 20) rfl) rfl
theorem ov_mc2 : ov_P 2 := ov_in1 (w := .code (ov_nm 2) (ov_byt 2) (ov_mx 2) (ov_rt 2)) (List.mem_of_getElem? (i := 28) rfl) rfl
theorem ov_mc3 : ov_P 3 := ov_in1 (w := .code (ov_nm 3) (ov_byt 3) (ov_mx 3) (ov_rt 3)) (List.mem_of_getElem? (i := 42) rfl) rfl
theorem ov_mc4 : ov_P 4 := ov_in1 (w := .code (ov_nm 4) (ov_byt 4) (ov_mx 4) (ov_rt 4)) (List.mem_of_getElem? (i := 94) rfl) rfl
theorem ov_mc5 : ov_P 5 := ov_in1 (w := .code (ov_nm 5) (ov_byt 5) (ov_mx 5) (ov_rt 5)) (List.mem_of_getElem? (i := 99) rfl) rfl
theorem ov_mc6 : ov_P 6 := ov_in1 (w := .code (ov_nm 6) (ov_byt 6) (ov_mx 6) (ov_rt 6)) (List.mem_of_getElem? (i := 103) rfl) rfl
theorem ov_mc7 : ov_P 7 := ov_in1 (w := .code (ov_nm 7) (ov_byt 7) (ov_mx 7) (ov_rt 7)) (List.mem_of_getElem? (i := 107) rfl) rfl
theorem ov_mc8 : ov_P 8 := ov_in1 (w := .code (ov_nm 8) (ov_byt 8) (ov_mx 8) (ov_rt 8)) (List.mem_of_getElem? (i := 128) rfl) rfl
theorem ov_mc9 : ov_P 9 := ov_in1 (w := .code (ov_nm 9) (ov_byt 9) (ov_mx 9) (ov_rt 9)) (List.mem_of_getElem? (i := 147) rfl) rfl
theorem ov_mc10 : ov_P 10 := ov_in1 (w := .code (ov_nm 10) (ov_byt 10) (ov_mx 10) (ov_rt 10)) (List.mem_of_getElem? (i := 163) rfl) rfl
theorem ov_mc11 : ov_P 11 := ov_in1 (w := .code (ov_nm 11) (ov_byt 11) (ov_mx 11) (ov_rt 11)) (List.mem_of_getElem? (i := 182) rfl) rfl
theorem ov_mc12 : ov_P 12 := ov_in2 (w := .code (ov_nm 12) (ov_byt 12) (ov_mx 12) (ov_rt 12)) (List.mem_of_getElem? (i := 7) rfl) rfl
theorem ov_mc13 : ov_P 13 := ov_in2 (w := .code (ov_nm 13) (ov_byt 13) (ov_mx 13) (ov_rt 13)) (List.mem_of_getElem? (i := 11) rfl) rfl
theorem ov_mc14 : ov_P 14 := ov_in2 (w := .code (ov_nm 14) (ov_byt 14) (ov_mx 14) (ov_rt 14)) (List.mem_of_getElem? (i := 15) rfl) rfl
theorem ov_mc15 : ov_P 15 := ov_in2 (w := .code (ov_nm 15) (ov_byt 15) (ov_mx 15) (ov_rt 15)) (List.mem_of_getElem? (i := 19) rfl) rfl
theorem ov_mc16 : ov_P 16 := ov_in2 (w := .code (ov_nm 16) (ov_byt 16) (ov_mx 16) (ov_rt 16)) (List.mem_of_getElem? (i := 23) rfl) rfl
theorem ov_mc17 : ov_P 17 := ov_in2 (w := .code (ov_nm 17) (ov_byt 17) (ov_mx 17) (ov_rt 17)) (List.mem_of_getElem? (i := 27) rfl) rfl
theorem ov_mc18 : ov_P 18 := ov_in2 (w := .code (ov_nm 18) (ov_byt 18) (ov_mx 18) (ov_rt 18)) (List.mem_of_getElem? (i := 31) rfl) rfl
theorem ov_mc19 : ov_P 19 := ov_in2 (w := .code (ov_nm 19) (ov_byt 19) (ov_mx 19) (ov_rt 19)) (List.mem_of_getElem? (i := 35) rfl) rfl
theorem ov_mc20 : ov_P 20 := ov_in2 (w := .code (ov_nm 20) (ov_byt 20) (ov_mx 20) (ov_rt 20)) (List.mem_of_getElem? (i := 39) rfl) rfl
theorem ov_mc21 : ov_P 21 := ov_in2 (w := .code (ov_nm 21) (ov_byt 21) (ov_mx 21) (ov_rt 21)) (List.mem_of_getElem? (i := 44) rfl) rfl
theorem ov_mc22 : ov_P 22 := ov_in2 (w := .code (ov_nm 22) (ov_byt 22) (ov_mx 22) (ov_rt 22)) (List.mem_of_getElem? (i := 48) rfl) rfl
theorem ov_mc23 : ov_P 23 := ov_in2 (w := .code (ov_nm 23) (ov_byt 23) (ov_mx 23) (ov_rt 23)) (List.mem_of_getElem? (i := 52) rfl) rfl
theorem ov_mc24 : ov_P 24 := ov_in2 (w := .code (ov_nm 24) (ov_byt 24) (ov_mx 24) (ov_rt 24)) (List.mem_of_getElem? (i := 55) rfl) rfl
theorem ov_mc25 : ov_P 25 := ov_in2 (w := .code (ov_nm 25) (ov_byt 25) (ov_mx 25) (ov_rt 25)) (List.mem_of_getElem? (i := 59) rfl) rfl
theorem ov_mc26 : ov_P 26 := ov_in2 (w := .code (ov_nm 26) (ov_byt 26) (ov_mx 26) (ov_rt 26)) (List.mem_of_getElem? (i := 64) rfl) rfl
theorem ov_mc27 : ov_P 27 := ov_in2 (w := .code (ov_nm 27) (ov_byt 27) (ov_mx 27) (ov_rt 27)) (List.mem_of_getElem? (i := 67) rfl) rfl
theorem ov_mc28 : ov_P 28 := ov_in2 (w := .code (ov_nm 28) (ov_byt 28) (ov_mx 28) (ov_rt 28)) (List.mem_of_getElem? (i := 71) rfl) rfl
theorem ov_mc29 : ov_P 29 := ov_in2 (w := .code (ov_nm 29) (ov_byt 29) (ov_mx 29) (ov_rt 29)) (List.mem_of_getElem? (i := 75) rfl) rfl
theorem ov_mc30 : ov_P 30 := ov_in2 (w := .code (ov_nm 30) (ov_byt 30) (ov_mx 30) (ov_rt 30)) (List.mem_of_getElem? (i := 79) rfl) rfl
theorem ov_mc31 : ov_P 31 := ov_in2 (w := .code (ov_nm 31) (ov_byt 31) (ov_mx 31) (ov_rt 31)) (List.mem_of_getElem? (i := 84) rfl) rfl
theorem ov_mc32 : ov_P 32 := ov_in2 (w := .code (ov_nm 32) (ov_byt 32) (ov_mx 32) (ov_rt 32)) (List.mem_of_getElem? (i := 88) rfl) rfl
theorem ov_mc33 : ov_P 33 := ov_in2 (w := .code (ov_nm 33) (ov_byt 33) (ov_mx 33) (ov_rt 33)) (List.mem_of_getElem? (i := 92) rfl) rfl
theorem ov_mc34 : ov_P 34 := ov_in2 (w := .code (ov_nm 34) (ov_byt 34) (ov_mx 34) (ov_rt 34)) (List.mem_of_getElem? (i := 96) rfl) rfl
theorem ov_mc35 : ov_P 35 := ov_in2 (w := .code (ov_nm 35) (ov_byt 35) (ov_mx 35) (ov_rt 35)) (List.mem_of_getElem? (i := 100) rfl) rfl
theorem ov_mc36 : ov_P 36 := ov_in2 (w := .code (ov_nm 36) (ov_byt 36) (ov_mx 36) (ov_rt 36)) (List.mem_of_getElem? (i := 106) rfl) rfl
theorem ov_mc37 : ov_P 37 := ov_in2 (w := .code (ov_nm 37) (ov_byt 37) (ov_mx 37) (ov_rt 37)) (List.mem_of_getElem? (i := 110) rfl) rfl
theorem ov_mc38 : ov_P 38 := ov_in2 (w := .code (ov_nm 38) (ov_byt 38) (ov_mx 38) (ov_rt 38)) (List.mem_of_getElem? (i := 114) rfl) rfl
theorem ov_mc39 : ov_P 39 := ov_in2 (w := .code (ov_nm 39) (ov_byt 39) (ov_mx 39) (ov_rt 39)) (List.mem_of_getElem? (i := 118) rfl) rfl
theorem ov_mc40 : ov_P 40 := ov_in2 (w := .code (ov_nm 40) (ov_byt 40) (ov_mx 40) (ov_rt 40)) (List.mem_of_getElem? (i := 122) rfl) rfl
theorem ov_mc41 : ov_P 41 := ov_in2 (w := .code (ov_nm 41) (ov_byt 41) (ov_mx 41) (ov_rt 41)) (List.mem_of_getElem? (i := 129) rfl) rfl
theorem ov_mc42 : ov_P 42 := ov_in2 (w := .code (ov_nm 42) (ov_byt 42) (ov_mx 42) (ov_rt 42)) (List.mem_of_getElem? (i := 133) rfl) rfl
theorem ov_mc43 : ov_P 43 := ov_in2 (w := .code (ov_nm 43) (ov_byt 43) (ov_mx 43) (ov_rt 43)) (List.mem_of_getElem? (i := 137) rfl) rfl
theorem ov_mc44 : ov_P 44 := ov_in2 (w := .code (ov_nm 44) (ov_byt 44) (ov_mx 44) (ov_rt 44)) (List.mem_of_getElem? (i := 141) rfl) rfl
theorem ov_mc45 : ov_P 45 := ov_in2 (w := .code (ov_nm 45) (ov_byt 45) (ov_mx 45) (ov_rt 45)) (List.mem_of_getElem? (i := 145) rfl) rfl
theorem ov_mc46 : ov_P 46 := ov_in2 (w := .code (ov_nm 46) (ov_byt 46) (ov_mx 46) (ov_rt 46)) (List.mem_of_getElem? (i := 149) rfl) rfl
theorem ov_mc47 : ov_P 47 := ov_in2 (w := .code (ov_nm 47) (ov_byt 47) (ov_mx 47) (ov_rt 47)) (List.mem_of_getElem? (i := 153) rfl) rfl
theorem ov_mc48 : ov_P 48 := ov_in2 (w := .code (ov_nm 48) (ov_byt 48) (ov_mx 48) (ov_rt 48)) (List.mem_of_getElem? (i := 156) rfl) rfl
theorem ov_mc49 : ov_P 49 := ov_in2 (w := .code (ov_nm 49) (ov_byt 49) (ov_mx 49) (ov_rt 49)) (List.mem_of_getElem? (i := 159) rfl) rfl
theorem ov_mc51 : ov_P 51 := ov_in2 (w := .code (ov_nm 51) (ov_byt 51) (ov_mx 51) (ov_rt 51)) (List.mem_of_getElem? (i := 165) rfl) rfl
theorem ov_mc53 : ov_P 53 := ov_in2 (w := .code (ov_nm 53) (ov_byt 53) (ov_mx 53) (ov_rt 53)) (List.mem_of_getElem? (i := 173) rfl) rfl
theorem ov_mc54 : ov_P 54 := ov_in2 (w := .code (ov_nm 54) (ov_byt 54) (ov_mx 54) (ov_rt 54)) (List.mem_of_getElem? (i := 177) rfl) rfl
theorem ov_mc55 : ov_P 55 := ov_in2 (w := .code (ov_nm 55) (ov_byt 55) (ov_mx 55) (ov_rt 55)) (List.mem_of_getElem? (i := 181) rfl) rfl
theorem ov_mc56 : ov_P 56 := ov_in2 (w := .code (ov_nm 56) (ov_byt 56) (ov_mx 56) (ov_rt 56)) (List.mem_of_getElem? (i := 185) rfl) rfl
theorem ov_mc57 : ov_P 57 := ov_in2 (w := .code (ov_nm 57) (ov_byt 57) (ov_mx 57) (ov_rt 57)) (List.mem_of_getElem? (i := 189) rfl) rfl
theorem ov_mc58 : ov_P 58 := ov_in2 (w := .code (ov_nm 58) (ov_byt 58) (ov_mx 58) (ov_rt 58)) (List.mem_of_getElem? (i := 193) rfl) rfl
theorem ov_mc59 : ov_P 59 := ov_in2 (w := .code (ov_nm 59) (ov_byt 59) (ov_mx 59) (ov_rt 59)) (List.mem_of_getElem? (i := 197) rfl) rfl
theorem ov_mc60 : ov_P 60 := ov_in2 (w := .code (ov_nm 60) (ov_byt 60) (ov_mx 60) (ov_rt 60)) (List.mem_of_getElem? (i := 202) rfl) rfl
theorem ov_mc61 : ov_P 61 := ov_in2 (w := .code (ov_nm 61) (ov_byt 61) (ov_mx 61) (ov_rt 61)) (List.mem_of_getElem? (i := 207) rfl) rfl
theorem ov_mc62 : ov_P 62 := ov_in2 (w := .code (ov_nm 62) (ov_byt 62) (ov_mx 62) (ov_rt 62)) (List.mem_of_getElem? (i := 212) rfl) rfl
theorem ov_mc63 : ov_P 63 := ov_in2 (w := .code (ov_nm 63) (ov_byt 63) (ov_mx 63) (ov_rt 63)) (List.mem_of_getElem? (i := 217) rfl) rfl
theorem ov_mc64 : ov_P 64 := ov_in2 (w := .code (ov_nm 64) (ov_byt 64) (ov_mx 64) (ov_rt 64)) (List.mem_of_getElem? (i := 221) rfl) rfl
theorem ov_mc65 : ov_P 65 := ov_in2 (w := .code (ov_nm 65) (ov_byt 65) (ov_mx 65) (ov_rt 65)) (List.mem_of_getElem? (i := 226) rfl) rfl
theorem ov_mc66 : ov_P 66 := ov_in2 (w := .code (ov_nm 66) (ov_byt 66) (ov_mx 66) (ov_rt 66)) (List.mem_of_getElem? (i := 230) rfl) rfl
theorem ov_mc67 : ov_P 67 := ov_in2 (w := .code (ov_nm 67) (ov_byt 67) (ov_mx 67) (ov_rt 67)) (List.mem_of_getElem? (i := 235) rfl) rfl
theorem ov_mc68 : ov_P 68 := ov_in2 (w := .code (ov_nm 68) (ov_byt 68) (ov_mx 68) (ov_rt 68)) (List.mem_of_getElem? (i := 238) rfl) rfl
theorem ov_mc69 : ov_P 69 := ov_in3 (w := .code (ov_nm 69) (ov_byt 69) (ov_mx 69) (ov_rt 69)) (List.mem_of_getElem? (i := 2) rfl) rfl
theorem ov_mc70 : ov_P 70 := ov_in3 (w := .code (ov_nm 70) (ov_byt 70) (ov_mx 70) (ov_rt 70)) (List.mem_of_getElem? (i := 9) rfl) rfl
theorem ov_mc71 : ov_P 71 := ov_in3 (w := .code (ov_nm 71) (ov_byt 71) (ov_mx 71) (ov_rt 71)) (List.mem_of_getElem? (i := 17) rfl) rfl
theorem ov_mc72 : ov_P 72 := ov_in3 (w := .code (ov_nm 72) (ov_byt 72) (ov_mx 72) (ov_rt 72)) (List.mem_of_getElem? (i := 21) rfl) rfl
theorem ov_mc73 : ov_P 73 := ov_in3 (w := .code (ov_nm 73) (ov_byt 73) (ov_mx 73) (ov_rt 73)) (List.mem_of_getElem? (i := 26) rfl) rfl
theorem ov_mc74 : ov_P 74 := ov_in3 (w := .code (ov_nm 74) (ov_byt 74) (ov_mx 74) (ov_rt 74)) (List.mem_of_getElem? (i := 30) rfl) rfl
theorem ov_mc75 : ov_P 75 := ov_in3 (w := .code (ov_nm 75) (ov_byt 75) (ov_mx 75) (ov_rt 75)) (List.mem_of_getElem? (i := 35) rfl) rfl
theorem ov_mc76 : ov_P 76 := ov_in3 (w := .code (ov_nm 76) (ov_byt 76) (ov_mx 76) (ov_rt 76)) (List.mem_of_getElem? (i := 39) rfl) rfl
theorem ov_mc77 : ov_P 77 := ov_in3 (w := .code (ov_nm 77) (ov_byt 77) (ov_mx 77) (ov_rt 77)) (List.mem_of_getElem? (i := 46) rfl) rfl
theorem ov_mc78 : ov_P 78 := ov_in3 (w := .code (ov_nm 78) (ov_byt 78) (ov_mx 78) (ov_rt 78)) (List.mem_of_getElem? (i := 50) rfl) rfl
theorem ov_mc79 : ov_P 79 := ov_in3 (w := .code (ov_nm 79) (ov_byt 79) (ov_mx 79) (ov_rt 79)) (List.mem_of_getElem? (i := 53) rfl) rfl
theorem ov_mc80 : ov_P 80 := ov_in3 (w := .code (ov_nm 80) (ov_byt 80) (ov_mx 80) (ov_rt 80)) (List.mem_of_getElem? (i := 61) rfl) rfl
theorem ov_mc81 : ov_P 81 := ov_in3 (w := .code (ov_nm 81) (ov_byt 81) (ov_mx 81) (ov_rt 81)) (List.mem_of_getElem? (i := 65) rfl) rfl
theorem ov_mc82 : ov_P 82 := ov_in3 (w := .code (ov_nm 82) (ov_byt 82) (ov_mx 82) (ov_rt 82)) (List.mem_of_getElem? (i := 70) rfl) rfl
theorem ov_mc83 : ov_P 83 := ov_in3 (w := .code (ov_nm 83) (ov_byt 83) (ov_mx 83) (ov_rt 83)) (List.mem_of_getElem? (i := 75) rfl) rfl
theorem ov_mc84 : ov_P 84 := ov_in3 (w := .code (ov_nm 84) (ov_byt 84) (ov_mx 84) (ov_rt 84)) (List.mem_of_getElem? (i := 79) rfl) rfl
theorem ov_mc85 : ov_P 85 := ov_in3 (w := .code (ov_nm 85) (ov_byt 85) (ov_mx 85) (ov_rt 85)) (List.mem_of_getElem? (i := 84) rfl) rfl
theorem ov_mc86 : ov_P 86 := ov_in3 (w := .code (ov_nm 86) (ov_byt 86) (ov_mx 86) (ov_rt 86)) (List.mem_of_getElem? (i := 88) rfl) rfl
theorem ov_mc87 : ov_P 87 := ov_in3 (w := .code (ov_nm 87) (ov_byt 87) (ov_mx 87) (ov_rt 87)) (List.mem_of_getElem? (i := 92) rfl) rfl
theorem ov_mc88 : ov_P 88 := ov_in3 (w := .code (ov_nm 88) (ov_byt 88) (ov_mx 88) (ov_rt 88)) (List.mem_of_getElem? (i := 96) rfl) rfl
theorem ov_mc89 : ov_P 89 := ov_in3 (w := .code (ov_nm 89) (ov_byt 89) (ov_mx 89) (ov_rt 89)) (List.mem_of_getElem? (i := 100) rfl) rfl
theorem ov_mc90 : ov_P 90 := ov_in3 (w := .code (ov_nm 90) (ov_byt 90) (ov_mx 90) (ov_rt 90)) (List.mem_of_getElem? (i := 104) rfl) rfl
theorem ov_mc91 : ov_P 91 := ov_in3 (w := .code (ov_nm 91) (ov_byt 91) (ov_mx 91) (ov_rt 91)) (List.mem_of_getElem? (i := 107) rfl) rfl
theorem ov_mc92 : ov_P 92 := ov_in3 (w := .code (ov_nm 92) (ov_byt 92) (ov_mx 92) (ov_rt 92)) (List.mem_of_getElem? (i := 111) rfl) rfl
theorem ov_mc93 : ov_P 93 := ov_in3 (w := .code (ov_nm 93) (ov_byt 93) (ov_mx 93) (ov_rt 93)) (List.mem_of_getElem? (i := 116) rfl) rfl
theorem ov_mc94 : ov_P 94 := ov_in3 (w := .code (ov_nm 94) (ov_byt 94) (ov_mx 94) (ov_rt 94)) (List.mem_of_getElem? (i := 120) rfl) rfl
theorem ov_mc95 : ov_P 95 := ov_in3 (w := .code (ov_nm 95) (ov_byt 95) (ov_mx 95) (ov_rt 95)) (List.mem_of_getElem? (i := 124) rfl) rfl
theorem ov_mc96 : ov_P 96 := ov_in3 (w := .code (ov_nm 96) (ov_byt 96) (ov_mx 96) (ov_rt 96)) (List.mem_of_getElem? (i := 128) rfl) rfl
theorem ov_mc97 : ov_P 97 := ov_in3 (w := .code (ov_nm 97) (ov_byt 97) (ov_mx 97) (ov_rt 97)) (List.mem_of_getElem? (i := 132) rfl) rfl
theorem ov_mc98 : ov_P 98 := ov_in3 (w := .code (ov_nm 98) (ov_byt 98) (ov_mx 98) (ov_rt 98)) (List.mem_of_getElem? (i := 138) rfl) rfl
theorem ov_mc99 : ov_P 99 := ov_in3 (w := .code (ov_nm 99) (ov_byt 99) (ov_mx 99) (ov_rt 99)) (List.mem_of_getElem? (i := 143) rfl) rfl
theorem ov_mc100 : ov_P 100 := ov_in3 (w := .code (ov_nm 100) (ov_byt 100) (ov_mx 100) (ov_rt 100)) (List.mem_of_getElem? (i := 150) rfl) rfl
theorem ov_mc101 : ov_P 101 := ov_in3 (w := .code (ov_nm 101) (ov_byt 101) (ov_mx 101) (ov_rt 101)) (List.mem_of_getElem? (i := 154) rfl) rfl
theorem ov_mc102 : ov_P 102 := ov_in3 (w := .code (ov_nm 102) (ov_byt 102) (ov_mx 102) (ov_rt 102)) (List.mem_of_getElem? (i := 157) rfl) rfl
theorem ov_mc103 : ov_P 103 := ov_in3 (w := .code (ov_nm 103) (ov_byt 103) (ov_mx 103) (ov_rt 103)) (List.mem_of_getElem? (i := 162) rfl) rfl
theorem ov_mc104 : ov_P 104 := ov_in3 (w := .code (ov_nm 104) (ov_byt 104) (ov_mx 104) (ov_rt 104)) (List.mem_of_getElem? (i := 166) rfl) rfl
theorem ov_mc105 : ov_P 105 := ov_in3 (w := .code (ov_nm 105) (ov_byt 105) (ov_mx 105) (ov_rt 105)) (List.mem_of_getElem? (i := 170) rfl) rfl
theorem ov_mc106 : ov_P 106 := ov_in3 (w := .code (ov_nm 106) (ov_byt 106) (ov_mx 106) (ov_rt 106)) (List.mem_of_getElem? (i := 174) rfl) rfl
theorem ov_mc107 : ov_P 107 := ov_in3 (w := .code (ov_nm 107) (ov_byt 107) (ov_mx 107) (ov_rt 107)) (List.mem_of_getElem? (i := 181) rfl) rfl
theorem ov_mc108 : ov_P 108 := ov_in3 (w := .code (ov_nm 108) (ov_byt 108) (ov_mx 108) (ov_rt 108)) (List.mem_of_getElem? (i := 188) rfl) rfl
theorem ov_mc109 : ov_P 109 := ov_in3 (w := .code (ov_nm 109) (ov_byt 109) (ov_mx 109) (ov_rt 109)) (List.mem_of_getElem? (i := 192) rfl) rfl
theorem ov_mc110 : ov_P 110 := ov_in3 (w := .code (ov_nm 110) (ov_byt 110) (ov_mx 110) (ov_rt 110)) (List.mem_of_getElem? (i := 196) rfl) rfl
theorem ov_mc111 : ov_P 111 := ov_in3 (w := .code (ov_nm 111) (ov_byt 111) (ov_mx 111) (ov_rt 111)) (List.mem_of_getElem? (i := 200) rfl) rfl
theorem ov_mc112 : ov_P 112 := ov_in3 (w := .code (ov_nm 112) (ov_byt 112) (ov_mx 112) (ov_rt 112)) (List.mem_of_getElem? (i := 204) rfl) rfl
theorem ov_mc113 : ov_P 113 := ov_in3 (w := .code (ov_nm 113) (ov_byt 113) (ov_mx 113) (ov_rt 113)) (List.mem_of_getElem? (i := 209) rfl) rfl
theorem ov_mc114 : ov_P 114 := ov_in3 (w := .code (ov_nm 114) (ov_byt 114) (ov_mx 114) (ov_rt 114)) (List.mem_of_getElem? (i := 214) rfl) rfl
theorem ov_mc115 : ov_P 115 := ov_in3 (w := .code (ov_nm 115) (ov_byt 115) (ov_mx 115) (ov_rt 115)) (List.mem_of_getElem? (i := 217) rfl) rfl
theorem ov_mc116 : ov_P 116 := ov_in3 (w := .code (ov_nm 116) (ov_byt 116) (ov_mx 116) (ov_rt 116)) (List.mem_of_getElem? (i := 220) rfl) rfl
theorem ov_mc117 : ov_P 117 := ov_in3 (w := .code (ov_nm 117) (ov_byt 117) (ov_mx 117) (ov_rt 117)) (List.mem_of_getElem? (i := 225) rfl) rfl
theorem ov_mc118 : ov_P 118 := ov_in3 (w := .code (ov_nm 118) (ov_byt 118) (ov_mx 118) (ov_rt 118)) (List.mem_of_getElem? (i := 232) rfl) rfl
theorem ov_mc119 : ov_P 119 := ov_in3 (w := .code (ov_nm 119) (ov_byt 119) (ov_mx 119) (ov_rt 119)) (List.mem_of_getElem? (i := 235) rfl) rfl
theorem ov_mc121 : ov_P 121 := ov_in4 (w := .code (ov_nm 121) (ov_byt 121) (ov_mx 121) (ov_rt 121)) (List.mem_of_getElem? (i := 1) rfl) rfl
theorem ov_mc122 : ov_P 122 := ov_in4 (w := .code (ov_nm 122) (ov_byt 122) (ov_mx 122) (ov_rt 122)) (List.mem_of_getElem? (i := 4) rfl) rfl
theorem ov_mc123 : ov_P 123 := ov_in4 (w := .code (ov_nm 123) (ov_byt 123) (ov_mx 123) (ov_rt 123)) (List.mem_of_getElem? (i := 9) rfl) rfl
theorem ov_mc124 : ov_P 124 := ov_in4 (w := .code (ov_nm 124) (ov_byt 124) (ov_mx 124) (ov_rt 124)) (List.mem_of_getElem? (i := 13) rfl) rfl
theorem ov_mc125 : ov_P 125 := ov_in4 (w := .code (ov_nm 125) (ov_byt 125) (ov_mx 125) (ov_rt 125)) (List.mem_of_getElem? (i := 17) rfl) rfl
theorem ov_mc126 : ov_P 126 := ov_in4 (w := .code (ov_nm 126) (ov_byt 126) (ov_mx 126) (ov_rt 126)) (List.mem_of_getElem? (i := 21) rfl) rfl
theorem ov_mc127 : ov_P 127 := ov_in4 (w := .code (ov_nm 127) (ov_byt 127) (ov_mx 127) (ov_rt 127)) (List.mem_of_getElem? (i := 25) rfl) rfl
theorem ov_mc128 : ov_P 128 := ov_in4 (w := .code (ov_nm 128) (ov_byt 128) (ov_mx 128) (ov_rt 128)) (List.mem_of_getElem? (i := 31) rfl) rfl
theorem ov_mc129 : ov_P 129 := ov_in4 (w := .code (ov_nm 129) (ov_byt 129) (ov_mx 129) (ov_rt 129)) (List.mem_of_getElem? (i := 36) rfl) rfl
theorem ov_mc130 : ov_P 130 := ov_in4 (w := .code (ov_nm 130) (ov_byt 130) (ov_mx 130) (ov_rt 130)) (List.mem_of_getElem? (i := 40) rfl) rfl
theorem ov_mc131 : ov_P 131 := ov_in4 (w := .code (ov_nm 131) (ov_byt 131) (ov_mx 131) (ov_rt 131)) (List.mem_of_getElem? (i := 44) rfl) rfl
theorem ov_mc132 : ov_P 132 := ov_in4 (w := .code (ov_nm 132) (ov_byt 132) (ov_mx 132) (ov_rt 132)) (List.mem_of_getElem? (i := 51) rfl) rfl
theorem ov_mc133 : ov_P 133 := ov_in4 (w := .code (ov_nm 133) (ov_byt 133) (ov_mx 133) (ov_rt 133)) (List.mem_of_getElem? (i := 55) rfl) rfl
theorem ov_mc134 : ov_P 134 := ov_in4 (w := .code (ov_nm 134) (ov_byt 134) (ov_mx 134) (ov_rt 134)) (List.mem_of_getElem? (i := 59) rfl) rfl
theorem ov_mc135 : ov_P 135 := ov_in4 (w := .code (ov_nm 135) (ov_byt 135) (ov_mx 135) (ov_rt 135)) (List.mem_of_getElem? (i := 63) rfl) rfl
theorem ov_mc136 : ov_P 136 := ov_in4 (w := .code (ov_nm 136) (ov_byt 136) (ov_mx 136) (ov_rt 136)) (List.mem_of_getElem? (i := 67) rfl) rfl
theorem ov_mc137 : ov_P 137 := ov_in4 (w := .code (ov_nm 137) (ov_byt 137) (ov_mx 137) (ov_rt 137)) (List.mem_of_getElem? (i := 70) rfl) rfl
theorem ov_mc138 : ov_P 138 := ov_in4 (w := .code (ov_nm 138) (ov_byt 138) (ov_mx 138) (ov_rt 138)) (List.mem_of_getElem? (i := 74) rfl) rfl
theorem ov_mc139 : ov_P 139 := ov_in4 (w := .code (ov_nm 139) (ov_byt 139) (ov_mx 139) (ov_rt 139)) (List.mem_of_getElem? (i := 78) rfl) rfl
theorem ov_mc140 : ov_P 140 := ov_in4 (w := .code (ov_nm 140) (ov_byt 140) (ov_mx 140) (ov_rt 140)) (List.mem_of_getElem? (i := 85) rfl) rfl
theorem ov_mc141 : ov_P 141 := ov_in4 (w := .code (ov_nm 141) (ov_byt 141) (ov_mx 141) (ov_rt 141)) (List.mem_of_getElem? (i := 89) rfl) rfl
theorem ov_mc142 : ov_P 142 := ov_in4 (w := .code (ov_nm 142) (ov_byt 142) (ov_mx 142) (ov_rt 142)) (List.mem_of_getElem? (i := 94) rfl) rfl
theorem ov_mc143 : ov_P 143 := ov_in4 (w := .code (ov_nm 143) (ov_byt 143) (ov_mx 143) (ov_rt 143)) (List.mem_of_getElem? (i := 229) rfl) rfl
theorem ov_mc144 : ov_P 144 := ov_in4 (w := .code (ov_nm 144) (ov_byt 144) (ov_mx 144) (ov_rt 144)) (List.mem_of_getElem? (i := 233) rfl) rfl
theorem ov_mc145 : ov_P 145 := ov_in4 (w := .code (ov_nm 145) (ov_byt 145) (ov_mx 145) (ov_rt 145)) (List.mem_of_getElem? (i := 237) rfl) rfl
theorem ov_mc146 : ov_P 146 := ov_in5 (w := .code (ov_nm 146) (ov_byt 146) (ov_mx 146) (ov_rt 146)) (List.mem_of_getElem? (i := 1) rfl) rfl
theorem ov_mc147 : ov_P 147 := ov_in5 (w := .code (ov_nm 147) (ov_byt 147) (ov_mx 147) (ov_rt 147)) (List.mem_of_getElem? (i := 5) rfl) rfl
theorem ov_mc148 : ov_P 148 := ov_in5 (w := .code (ov_nm 148) (ov_byt 148) (ov_mx 148) (ov_rt 148)) (List.mem_of_getElem? (i := 9) rfl) rfl
theorem ov_mc149 : ov_P 149 := ov_in5 (w := .code (ov_nm 149) (ov_byt 149) (ov_mx 149) (ov_rt 149)) (List.mem_of_getElem? (i := 13) rfl) rfl
theorem ov_mc150 : ov_P 150 := ov_in5 (w := .code (ov_nm 150) (ov_byt 150) (ov_mx 150) (ov_rt 150)) (List.mem_of_getElem? (i := 17) rfl) rfl
theorem ov_mc151 : ov_P 151 := ov_in5 (w := .code (ov_nm 151) (ov_byt 151) (ov_mx 151) (ov_rt 151)) (List.mem_of_getElem? (i := 21) rfl) rfl
theorem ov_mc152 : ov_P 152 := ov_in5 (w := .code (ov_nm 152) (ov_byt 152) (ov_mx 152) (ov_rt 152)) (List.mem_of_getElem? (i := 25) rfl) rfl
theorem ov_mc153 : ov_P 153 := ov_in5 (w := .code (ov_nm 153) (ov_byt 153) (ov_mx 153) (ov_rt 153)) (List.mem_of_getElem? (i := 29) rfl) rfl
theorem ov_mc154 : ov_P 154 := ov_in5 (w := .code (ov_nm 154) (ov_byt 154) (ov_mx 154) (ov_rt 154)) (List.mem_of_getElem? (i := 33) rfl) rfl
theorem ov_mc155 : ov_P 155 := ov_in5 (w := .code (ov_nm 155) (ov_byt 155) (ov_mx 155) (ov_rt 155)) (List.mem_of_getElem? (i := 37) rfl) rfl
theorem ov_mc156 : ov_P 156 := ov_in5 (w := .code (ov_nm 156) (ov_byt 156) (ov_mx 156) (ov_rt 156)) (List.mem_of_getElem? (i := 41) rfl) rfl
theorem ov_mc157 : ov_P 157 := ov_in5 (w := .code (ov_nm 157) (ov_byt 157) (ov_mx 157) (ov_rt 157)) (List.mem_of_getElem? (i := 45) rfl) rfl
theorem ov_mc158 : ov_P 158 := ov_in5 (w := .code (ov_nm 158) (ov_byt 158) (ov_mx 158) (ov_rt 158)) (List.mem_of_getElem? (i := 48) rfl) rfl
theorem ov_mc159 : ov_P 159 := ov_in5 (w := .code (ov_nm 159) (ov_byt 159) (ov_mx 159) (ov_rt 159)) (List.mem_of_getElem? (i := 52) rfl) rfl
theorem ov_mc160 : ov_P 160 := ov_in5 (w := .code (ov_nm 160) (ov_byt 160) (ov_mx 160) (ov_rt 160)) (List.mem_of_getElem? (i := 56) rfl) rfl
theorem ov_mc161 : ov_P 161 := ov_in5 (w := .code (ov_nm 161) (ov_byt 161) (ov_mx 161) (ov_rt 161)) (List.mem_of_getElem? (i := 60) rfl) rfl
theorem ov_mc162 : ov_P 162 := ov_in5 (w := .code (ov_nm 162) (ov_byt 162) (ov_mx 162) (ov_rt 162)) (List.mem_of_getElem? (i := 64) rfl) rfl
theorem ov_mc163 : ov_P 163 := ov_in5 (w := .code (ov_nm 163) (ov_byt 163) (ov_mx 163) (ov_rt 163)) (List.mem_of_getElem? (i := 68) rfl) rfl
theorem ov_mc164 : ov_P 164 := ov_in5 (w := .code (ov_nm 164) (ov_byt 164) (ov_mx 164) (ov_rt 164)) (List.mem_of_getElem? (i := 72) rfl) rfl
theorem ov_mc165 : ov_P 165 := ov_in5 (w := .code (ov_nm 165) (ov_byt 165) (ov_mx 165) (ov_rt 165)) (List.mem_of_getElem? (i := 76) rfl) rfl
theorem ov_mc166 : ov_P 166 := ov_in5 (w := .code (ov_nm 166) (ov_byt 166) (ov_mx 166) (ov_rt 166)) (List.mem_of_getElem? (i := 79) rfl) rfl
theorem ov_mc167 : ov_P 167 := ov_in5 (w := .code (ov_nm 167) (ov_byt 167) (ov_mx 167) (ov_rt 167)) (List.mem_of_getElem? (i := 82) rfl) rfl
theorem ov_mc168 : ov_P 168 := ov_in5 (w := .code (ov_nm 168) (ov_byt 168) (ov_mx 168) (ov_rt 168)) (List.mem_of_getElem? (i := 86) rfl) rfl
theorem ov_mc169 : ov_P 169 := ov_in5 (w := .code (ov_nm 169) (ov_byt 169) (ov_mx 169) (ov_rt 169)) (List.mem_of_getElem? (i := 90) rfl) rfl
theorem ov_mc170 : ov_P 170 := ov_in5 (w := .code (ov_nm 170) (ov_byt 170) (ov_mx 170) (ov_rt 170)) (List.mem_of_getElem? (i := 95) rfl) rfl
theorem ov_mc171 : ov_P 171 := ov_in5 (w := .code (ov_nm 171) (ov_byt 171) (ov_mx 171) (ov_rt 171)) (List.mem_of_getElem? (i := 99) rfl) rfl
theorem ov_mc172 : ov_P 172 := ov_in5 (w := .code (ov_nm 172) (ov_byt 172) (ov_mx 172) (ov_rt 172)) (List.mem_of_getElem? (i := 103) rfl) rfl
theorem ov_mc173 : ov_P 173 := ov_in5 (w := .code (ov_nm 173) (ov_byt 173) (ov_mx 173) (ov_rt 173)) (List.mem_of_getElem? (i := 107) rfl) rfl
theorem ov_mc174 : ov_P 174 := ov_in5 (w := .code (ov_nm 174) (ov_byt 174) (ov_mx 174) (ov_rt 174)) (List.mem_of_getElem? (i := 111) rfl) rfl
theorem ov_mc175 : ov_P 175 := ov_in5 (w := .code (ov_nm 175) (ov_byt 175) (ov_mx 175) (ov_rt 175)) (List.mem_of_getElem? (i := 115) rfl) rfl
theorem ov_mc176 : ov_P 176 := ov_in5 (w := .code (ov_nm 176) (ov_byt 176) (ov_mx 176) (ov_rt 176)) (List.mem_of_getElem? (i := 119) rfl) rfl
theorem ov_mc177 : ov_P 177 := ov_in5 (w := .code (ov_nm 177) (ov_byt 177) (ov_mx 177) (ov_rt 177)) (List.mem_of_getElem? (i := 123) rfl) rfl
theorem ov_mc178 : ov_P 178 := ov_in5 (w := .code (ov_nm 178) (ov_byt 178) (ov_mx 178) (ov_rt 178)) (List.mem_of_getElem? (i := 127) rfl) rfl
theorem ov_mc179 : ov_P 179 := ov_in5 (w := .code (ov_nm 179) (ov_byt 179) (ov_mx 179) (ov_rt 179)) (List.mem_of_getElem? (i := 131) rfl) rfl
theorem ov_mc180 : ov_P 180 := ov_in5 (w := .code (ov_nm 180) (ov_byt 180) (ov_mx 180) (ov_rt 180)) (List.mem_of_getElem? (i := 134) rfl) rfl
theorem ov_mc181 : ov_P 181 := ov_in5 (w := .code (ov_nm 181) (ov_byt 181) (ov_mx 181) (ov_rt 181)) (List.mem_of_getElem? (i := 138) rfl) rfl
theorem ov_mc182 : ov_P 182 := ov_in5 (w := .code (ov_nm 182) (ov_byt 182) (ov_mx 182) (ov_rt 182)) (List.mem_of_getElem? (i := 142) rfl) rfl
theorem ov_mc183 : ov_P 183 := ov_in5 (w := .code (ov_nm 183) (ov_byt 183) (ov_mx 183) (ov_rt 183)) (List.mem_of_getElem? (i := 147) rfl) rfl
theorem ov_mc184 : ov_P 184 := ov_in5 (w := .code (ov_nm 184) (ov_byt 184) (ov_mx 184) (ov_rt 184)) (List.mem_of_getElem? (i := 151) rfl) rfl
theorem ov_mc185 : ov_P 185 := ov_in5 (w := .code (ov_nm 185) (ov_byt 185) (ov_mx 185) (ov_rt 185)) (List.mem_of_getElem? (i := 155) rfl) rfl
theorem ov_mc186 : ov_P 186 := ov_in5 (w := .code (ov_nm 186) (ov_byt 186) (ov_mx 186) (ov_rt 186)) (List.mem_of_getElem? (i := 159) rfl) rfl
theorem ov_mc187 : ov_P 187 := ov_in5 (w := .code (ov_nm 187) (ov_byt 187) (ov_mx 187) (ov_rt 187)) (List.mem_of_getElem? (i := 163) rfl) rfl
theorem ov_mc188 : ov_P 188 := ov_in5 (w := .code (ov_nm 188) (ov_byt 188) (ov_mx 188) (ov_rt 188)) (List.mem_of_getElem? (i := 167) rfl) rfl
theorem ov_mc189 : ov_P 189 := ov_in5 (w := .code (ov_nm 189) (ov_byt 189) (ov_mx 189) (ov_rt 189)) (List.mem_of_getElem? (i := 172) rfl) rfl
theorem ov_mc190 : ov_P 190 := ov_in5 (w := .code (ov_nm 190) (ov_byt 190) (ov_mx 190) (ov_rt 190)) (List.mem_of_getElem? (i := 176) rfl) rfl
theorem ov_mc191 : ov_P 191 := ov_in5 (w := .code (ov_nm 191) (ov_byt 191) (ov_mx 191) (ov_rt 191)) (List.mem_of_getElem? (i := 179) rfl) rfl
theorem ov_mc192 : ov_P 192 := ov_in5 (w := .code (ov_nm 192) (ov_byt 192) (ov_mx 192) (ov_rt 192)) (List.mem_of_getElem? (i := 183) rfl) rfl
theorem ov_mc193 : ov_P 193 := ov_in5 (w := .code (ov_nm 193) (ov_byt 193) (ov_mx 193) (ov_rt 193)) (List.mem_of_getElem? (i := 186) rfl) rfl
theorem ov_mc194 : ov_P 194 := ov_in5 (w := .code (ov_nm 194) (ov_byt 194) (ov_mx 194) (ov_rt 194)) (List.mem_of_getElem? (i := 190) rfl) rfl
theorem ov_mc195 : ov_P 195 := ov_in5 (w := .code (ov_nm 195) (ov_byt 195) (ov_mx 195) (ov_rt 195)) (List.mem_of_getElem? (i := 194) rfl) rfl
theorem ov_mc196 : ov_P 196 := ov_in5 (w := .code (ov_nm 196) (ov_byt 196) (ov_mx 196) (ov_rt 196)) (List.mem_of_getElem? (i := 198) rfl) rfl
theorem ov_mc197 : ov_P 197 := ov_in5 (w := .code (ov_nm 197) (ov_byt 197) (ov_mx 197) (ov_rt 197)) (List.mem_of_getElem? (i := 202) rfl) rfl
theorem ov_mc198 : ov_P 198 := ov_in5 (w := .code (ov_nm 198) (ov_byt 198) (ov_mx 198) (ov_rt 198)) (List.mem_of_getElem? (i := 206) rfl) rfl
theorem ov_mc199 : ov_P 199 := ov_in5 (w := .code (ov_nm 199) (ov_byt 199) (ov_mx 199) (ov_rt 199)) (List.mem_of_getElem? (i := 210) rfl) rfl
theorem ov_mc200 : ov_P 200 := ov_in5 (w := .code (ov_nm 200) (ov_byt 200) (ov_mx 200) (ov_rt 200)) (List.mem_of_getElem? (i := 214) rfl) rfl
theorem ov_mc201 : ov_P 201 := ov_in5 (w := .code (ov_nm 201) (ov_byt 201) (ov_mx 201) (ov_rt 201)) (List.mem_of_getElem? (i := 218) rfl) rfl
theorem ov_mc202 : ov_P 202 := ov_in5 (w := .code (ov_nm 202) (ov_byt 202) (ov_mx 202) (ov_rt 202)) (List.mem_of_getElem? (i := 222) rfl) rfl
theorem ov_mc203 : ov_P 203 := ov_in5 (w := .code (ov_nm 203) (ov_byt 203) (ov_mx 203) (ov_rt 203)) (List.mem_of_getElem? (i := 226) rfl) rfl
theorem ov_mc204 : ov_P 204 := ov_in5 (w := .code (ov_nm 204) (ov_byt 204) (ov_mx 204) (ov_rt 204)) (List.mem_of_getElem? (i := 230) rfl) rfl
theorem ov_mc205 : ov_P 205 := ov_in5 (w := .code (ov_nm 205) (ov_byt 205) (ov_mx 205) (ov_rt 205)) (List.mem_of_getElem? (i := 234) rfl) rfl
theorem ov_mc206 : ov_P 206 := ov_in5 (w := .code (ov_nm 206) (ov_byt 206) (ov_mx 206) (ov_rt 206)) (List.mem_of_getElem? (i := 238) rfl) rfl
theorem ov_mc207 : ov_P 207 := ov_in6 (w := .code (ov_nm 207) (ov_byt 207) (ov_mx 207) (ov_rt 207)) (List.mem_of_getElem? (i := 2) rfl) rfl
theorem ov_mc208 : ov_P 208 := ov_in6 (w := .code (ov_nm 208) (ov_byt 208) (ov_mx 208) (ov_rt 208)) (List.mem_of_getElem? (i := 6) rfl) rfl
theorem ov_mc209 : ov_P 209 := ov_in6 (w := .code (ov_nm 209) (ov_byt 209) (ov_mx 209) (ov_rt 209)) (List.mem_of_getElem? (i := 11) rfl) rfl
theorem ov_mc210 : ov_P 210 := ov_in6 (w := .code (ov_nm 210) (ov_byt 210) (ov_mx 210) (ov_rt 210)) (List.mem_of_getElem? (i := 15) rfl) rfl
theorem ov_mc211 : ov_P 211 := ov_in6 (w := .code (ov_nm 211) (ov_byt 211) (ov_mx 211) (ov_rt 211)) (List.mem_of_getElem? (i := 19) rfl) rfl
theorem ov_mc212 : ov_P 212 := ov_in6 (w := .code (ov_nm 212) (ov_byt 212) (ov_mx 212) (ov_rt 212)) (List.mem_of_getElem? (i := 22) rfl) rfl
theorem ov_mc213 : ov_P 213 := ov_in6 (w := .code (ov_nm 213) (ov_byt 213) (ov_mx 213) (ov_rt 213)) (List.mem_of_getElem? (i := 25) rfl) rfl
theorem ov_mc214 : ov_P 214 := ov_in6 (w := .code (ov_nm 214) (ov_byt 214) (ov_mx 214) (ov_rt 214)) (List.mem_of_getElem? (i := 28) rfl) rfl
theorem ov_mc215 : ov_P 215 := ov_in6 (w := .code (ov_nm 215) (ov_byt 215) (ov_mx 215) (ov_rt 215)) (List.mem_of_getElem? (i := 32) rfl) rfl
theorem ov_mc216 : ov_P 216 := ov_in6 (w := .code (ov_nm 216) (ov_byt 216) (ov_mx 216) (ov_rt 216)) (List.mem_of_getElem? (i := 37) rfl) rfl
theorem ov_mc217 : ov_P 217 := ov_in6 (w := .code (ov_nm 217) (ov_byt 217) (ov_mx 217) (ov_rt 217)) (List.mem_of_getElem? (i := 41) rfl) rfl
theorem ov_mc218 : ov_P 218 := ov_in6 (w := .code (ov_nm 218) (ov_byt 218) (ov_mx 218) (ov_rt 218)) (List.mem_of_getElem? (i := 45) rfl) rfl
theorem ov_mc219 : ov_P 219 := ov_in6 (w := .code (ov_nm 219) (ov_byt 219) (ov_mx 219) (ov_rt 219)) (List.mem_of_getElem? (i := 49) rfl) rfl
theorem ov_mc220 : ov_P 220 := ov_in6 (w := .code (ov_nm 220) (ov_byt 220) (ov_mx 220) (ov_rt 220)) (List.mem_of_getElem? (i := 53) rfl) rfl
theorem ov_mc221 : ov_P 221 := ov_in6 (w := .code (ov_nm 221) (ov_byt 221) (ov_mx 221) (ov_rt 221)) (List.mem_of_getElem? (i := 57) rfl) rfl
theorem ov_mc222 : ov_P 222 := ov_in6 (w := .code (ov_nm 222) (ov_byt 222) (ov_mx 222) (ov_rt 222)) (List.mem_of_getElem? (i := 63) rfl) rfl
theorem ov_mc223 : ov_P 223 := ov_in6 (w := .code (ov_nm 223) (ov_byt 223) (ov_mx 223) (ov_rt 223)) (List.mem_of_getElem? (i := 67) rfl) rfl
theorem ov_mc224 : ov_P 224 := ov_in6 (w := .code (ov_nm 224) (ov_byt 224) (ov_mx 224) (ov_rt 224)) (List.mem_of_getElem? (i := 75) rfl) rfl
theorem ov_mc225 : ov_P 225 := ov_in6 (w := .code (ov_nm 225) (ov_byt 225) (ov_mx 225) (ov_rt 225)) (List.mem_of_getElem? (i := 79) rfl) rfl
def ov_ml0 : List Nat := [1, 2, 3, 4, 5, 6, 7, 8, 9, 10, 11, 12, 13, 14, 15, 16]
theorem ov_mr0 : ∀ k ∈ ov_ml0, ov_P k := List.forall_mem_cons.mpr ⟨ov_mc1, List.forall_mem_cons.mpr ⟨ov_mc2, List.forall_mem_cons.mpr ⟨ov_mc3, List.forall_mem_cons.mpr ⟨ov_mc4, List.forall_mem_cons.mpr ⟨ov_mc5, List.forall_mem_cons.mpr ⟨ov_mc6, List.forall_mem_cons.mpr ⟨ov_mc7, List.forall_mem_cons.mpr ⟨ov_mc8, List.forall_mem_cons.mpr ⟨ov_mc9, List.forall_mem_cons.mpr ⟨ov_mc10, List.forall_mem_cons.mpr ⟨ov_mc11, List.forall_mem_cons.mpr ⟨ov_mc12, List.forall_mem_cons.mpr ⟨ov_mc13, List.forall_mem_cons.mpr ⟨ov_mc14, List.forall_mem_cons.mpr ⟨ov_mc15, List.forall_mem_cons.mpr ⟨ov_mc16, fun _ h => absurd h List.not_mem_nil⟩⟩⟩⟩⟩⟩⟩⟩⟩⟩⟩⟩⟩⟩⟩⟩
def ov_ml1 : List Nat := [17, 18, 19, 20, 21, 22, 23, 24, 25, 26, 27, 28, 29, 30, 31, 32]
theorem ov_mr1 : ∀ k ∈ ov_ml1, ov_P k := List.forall_mem_cons.mpr ⟨ov_mc17, List.forall_mem_cons.mpr ⟨ov_mc18, List.forall_mem_cons.mpr ⟨ov_mc19, List.forall_mem_cons.mpr ⟨ov_mc20, List.forall_mem_cons.mpr ⟨ov_mc21, List.forall_mem_cons.mpr ⟨ov_mc22, List.forall_mem_cons.mpr ⟨ov_mc23, List.forall_mem_cons.mpr ⟨ov_mc24, List.forall_mem_cons.mpr ⟨ov_mc25, List.forall_mem_cons.mpr ⟨ov_mc26, List.forall_mem_cons.mpr ⟨ov_mc27, List.forall_mem_cons.mpr ⟨ov_mc28, List.forall_mem_cons.mpr ⟨ov_mc29, List.forall_mem_cons.mpr ⟨ov_mc30, List.forall_mem_cons.mpr ⟨ov_mc31, List.forall_mem_cons.mpr ⟨ov_mc32, fun _ h => absurd h List.not_mem_nil⟩⟩⟩⟩⟩⟩⟩⟩⟩⟩⟩⟩⟩⟩⟩⟩
def ov_ml2 : List Nat := [33, 34, 35, 36, 37, 38, 39, 40, 41, 42, 43, 44, 45, 46, 47, 48]
theorem ov_mr2 : ∀ k ∈ ov_ml2, ov_P k := List.forall_mem_cons.mpr ⟨ov_mc33, List.forall_mem_cons.mpr ⟨ov_mc34, List.forall_mem_cons.mpr ⟨ov_mc35, List.forall_mem_cons.mpr ⟨ov_mc36, List.forall_mem_cons.mpr ⟨ov_mc37, List.forall_mem_cons.mpr ⟨ov_mc38, List.forall_mem_cons.mpr ⟨ov_mc39, List.forall_mem_cons.mpr ⟨ov_mc40, List.forall_mem_cons.mpr ⟨ov_mc41, List.forall_mem_cons.mpr ⟨ov_mc42, List.forall_mem_cons.mpr ⟨ov_mc43, List.forall_mem_cons.mpr ⟨ov_mc44, List.forall_mem_cons.mpr ⟨ov_mc45, List.forall_mem_cons.mpr ⟨ov_mc46, List.forall_mem_cons.mpr ⟨ov_mc47, List.forall_mem_cons.mpr ⟨ov_mc48, fun _ h => absurd h List.not_mem_nil⟩⟩⟩⟩⟩⟩⟩⟩⟩⟩⟩⟩⟩⟩⟩⟩
def ov_ml3 : List Nat := [49, 51, 53, 54, 55, 56, 57, 58, 59, 60, 61, 62, 63, 64, 65, 66]
theorem ov_mr3 : ∀ k ∈ ov_ml3, ov_P k := List.forall_mem_cons.mpr ⟨ov_mc49, List.forall_mem_cons.mpr ⟨ov_mc51, List.forall_mem_cons.mpr ⟨ov_mc53, List.forall_mem_cons.mpr ⟨ov_mc54, List.forall_mem_cons.mpr ⟨ov_mc55, List.forall_mem_cons.mpr ⟨ov_mc56, List.forall_mem_cons.mpr ⟨ov_mc57, List.forall_mem_cons.mpr ⟨ov_mc58, List.forall_mem_cons.mpr ⟨ov_mc59, List.forall_mem_cons.mpr ⟨ov_mc60, List.forall_mem_cons.mpr ⟨ov_mc61, List.forall_mem_cons.mpr ⟨ov_mc62, List.forall_mem_cons.mpr ⟨ov_mc63, List.forall_mem_cons.mpr ⟨ov_mc64, List.forall_mem_cons.mpr ⟨ov_mc65, List.forall_mem_cons.mpr ⟨ov_mc66, fun _ h => absurd h List.not_mem_nil⟩⟩⟩⟩⟩⟩⟩⟩⟩⟩⟩⟩⟩⟩⟩⟩
def ov_ml4 : List Nat := [67, 68, 69, 70, 71, 72, 73, 74, 75, 76, 77, 78, 79, 80, 81, 82]
theorem ov_mr4 : ∀ k ∈ ov_ml4, ov_P k := List.forall_mem_cons.mpr ⟨ov_mc67, List.forall_mem_cons.mpr ⟨ov_mc68, List.forall_mem_cons.mpr ⟨ov_mc69, List.forall_mem_cons.mpr ⟨ov_mc70, List.forall_mem_cons.mpr ⟨ov_mc71, List.forall_mem_cons.mpr ⟨ov_mc72, List.forall_mem_cons.mpr ⟨ov_mc73, List.forall_mem_cons.mpr ⟨ov_mc74, List.forall_mem_cons.mpr ⟨ov_mc75, List.forall_mem_cons.mpr ⟨ov_mc76, List.forall_mem_cons.mpr ⟨ov_mc77, List.forall_mem_cons.mpr ⟨ov_mc78, List.forall_mem_cons.mpr ⟨ov_mc79, List.forall_mem_cons.mpr ⟨ov_mc80, List.forall_mem_cons.mpr ⟨ov_mc81, List.forall_mem_cons.mpr ⟨ov_mc82, fun _ h => absurd h List.not_mem_nil⟩⟩⟩⟩⟩⟩⟩⟩⟩⟩⟩⟩⟩⟩⟩⟩
def ov_ml5 : List Nat := [83, 84, 85, 86, 87, 88, 89, 90, 91, 92, 93, 94, 95, 96, 97, 98]
theorem ov_mr5 : ∀ k ∈ ov_ml5, ov_P k := List.forall_mem_cons.mpr ⟨ov_mc83, List.forall_mem_cons.mpr ⟨ov_mc84, List.forall_mem_cons.mpr ⟨ov_mc85, List.forall_mem_cons.mpr ⟨ov_mc86, List.forall_mem_cons.mpr ⟨ov_mc87, List.forall_mem_cons.mpr ⟨ov_mc88, List.forall_mem_cons.mpr ⟨ov_mc89, List.forall_mem_cons.mpr ⟨ov_mc90, List.forall_mem_cons.mpr ⟨ov_mc91, List.forall_mem_cons.mpr ⟨ov_mc92, List.forall_mem_cons.mpr ⟨ov_mc93, List.forall_mem_cons.mpr ⟨ov_mc94, List.forall_mem_cons.mpr ⟨ov_mc95, List.forall_mem_cons.mpr ⟨ov_mc96, List.forall_mem_cons.mpr ⟨ov_mc97, List.forall_mem_cons.mpr ⟨ov_mc98, fun _ h => absurd h List.not_mem_nil⟩⟩⟩⟩⟩⟩⟩⟩⟩⟩⟩⟩⟩⟩⟩⟩
def ov_ml6 : List Nat := [99, 100, 101, 102, 103, 104, 105, 106, 107, 108, 109, 110, 111, 112, 113, 114]
theorem ov_mr6 : ∀ k ∈ ov_ml6, ov_P k := List.forall_mem_cons.mpr ⟨ov_mc99, List.forall_mem_cons.mpr ⟨ov_mc100, List.forall_mem_cons.mpr ⟨ov_mc101, List.forall_mem_cons.mpr ⟨ov_mc102, List.forall_mem_cons.mpr ⟨ov_mc103, List.forall_mem_cons.mpr ⟨ov_mc104, List.forall_mem_cons.mpr ⟨ov_mc105, List.forall_mem_cons.mpr ⟨ov_mc106, List.forall_mem_cons.mpr ⟨ov_mc107, List.forall_mem_cons.mpr ⟨ov_mc108, List.forall_mem_cons.mpr ⟨ov_mc109, List.forall_mem_cons.mpr ⟨ov_mc110, List.forall_mem_cons.mpr ⟨ov_mc111, List.forall_mem_cons.mpr ⟨ov_mc112, List.forall_mem_cons.mpr ⟨ov_mc113, List.forall_mem_cons.mpr ⟨ov_mc114, fun _ h => absurd h List.not_mem_nil⟩⟩⟩⟩⟩⟩⟩⟩⟩⟩⟩⟩⟩⟩⟩⟩
def ov_ml7 : List Nat := [115, 116, 117, 118, 119, 121, 122, 123, 124, 125, 126, 127, 128, 129, 130, 131]
theorem ov_mr7 : ∀ k ∈ ov_ml7, ov_P k := List.forall_mem_cons.mpr ⟨ov_mc115, List.forall_mem_cons.mpr ⟨ov_mc116, List.forall_mem_cons.mpr ⟨ov_mc117, List.forall_mem_cons.mpr ⟨ov_mc118, List.forall_mem_cons.mpr ⟨ov_mc119, List.forall_mem_cons.mpr ⟨ov_mc121, List.forall_mem_cons.mpr ⟨ov_mc122, List.forall_mem_cons.mpr ⟨ov_mc123, List.forall_mem_cons.mpr ⟨ov_mc124, List.forall_mem_cons.mpr ⟨ov_mc125, List.forall_mem_cons.mpr ⟨ov_mc126, List.forall_mem_cons.mpr ⟨ov_mc127, List.forall_mem_cons.mpr ⟨ov_mc128, List.forall_mem_cons.mpr ⟨ov_mc129, List.forall_mem_cons.mpr ⟨ov_mc130, List.forall_mem_cons.mpr ⟨ov_mc131, fun _ h => absurd h List.not_mem_nil⟩⟩⟩⟩⟩⟩⟩⟩⟩⟩⟩⟩⟩⟩⟩⟩
def ov_ml8 : List Nat := [132, 133, 134, 135, 136, 137, 138, 139, 140, 141, 142, 143, 144, 145, 146, 147]
theorem ov_mr8 : ∀ k ∈ ov_ml8, ov_P k := List.forall_mem_cons.mpr ⟨ov_mc132, List.forall_mem_cons.mpr ⟨ov_mc133, List.forall_mem_cons.mpr ⟨ov_mc134, List.forall_mem_cons.mpr ⟨ov_mc135, List.forall_mem_cons.mpr ⟨ov_mc136, List.forall_mem_cons.mpr ⟨ov_mc137, List.forall_mem_cons.mpr ⟨ov_mc138, List.forall_mem_cons.mpr ⟨ov_mc139, List.forall_mem_cons.mpr ⟨ov_mc140, List.forall_mem_cons.mpr ⟨ov_mc141, List.forall_mem_cons.mpr ⟨ov_mc142, List.forall_mem_cons.mpr ⟨ov_mc143, List.forall_mem_cons.mpr ⟨ov_mc144, List.forall_mem_cons.mpr ⟨ov_mc145, List.forall_mem_cons.mpr ⟨ov_mc146, List.forall_mem_cons.mpr ⟨ov_mc147, fun _ h => absurd h List.not_mem_nil⟩⟩⟩⟩⟩⟩⟩⟩⟩⟩⟩⟩⟩⟩⟩⟩
def ov_ml9 : List Nat := [148, 149, 150, 151, 152, 153, 154, 155, 156, 157, 158, 159, 160, 161, 162, 163]
theorem ov_mr9 : ∀ k ∈ ov_ml9, ov_P k := List.forall_mem_cons.mpr ⟨ov_mc148, List.forall_mem_cons.mpr ⟨ov_mc149, List.forall_mem_cons.mpr ⟨ov_mc150, List.forall_mem_cons.mpr ⟨ov_mc151, List.forall_mem_cons.mpr ⟨ov_mc152, List.forall_mem_cons.mpr ⟨ov_mc153, List.forall_mem_cons.mpr ⟨ov_mc154, List.forall_mem_cons.mpr ⟨ov_mc155, List.forall_mem_cons.mpr ⟨ov_mc156, List.forall_mem_cons.mpr ⟨ov_mc157, List.forall_mem_cons.mpr ⟨ov_mc158, List.forall_mem_cons.mpr ⟨ov_mc159, List.forall_mem_cons.mpr ⟨ov_mc160, List.forall_mem_cons.mpr ⟨ov_mc161, List.forall_mem_cons.mpr ⟨ov_mc162, List.forall_mem_cons.mpr ⟨ov_mc163, fun _ h => absurd h List.not_mem_nil⟩⟩⟩⟩⟩⟩⟩⟩⟩⟩⟩⟩⟩⟩⟩⟩
def ov_ml10 : List Nat := [164, 165, 166, 167, 168, 169, 170, 171, 172, 173, 174, 175, 176, 177, 178, 179]
theorem ov_mr10 : ∀ k ∈ ov_ml10, ov_P k := List.forall_mem_cons.mpr ⟨ov_mc164, List.forall_mem_cons.mpr ⟨ov_mc165, List.forall_mem_cons.mpr ⟨ov_mc166, List.forall_mem_cons.mpr ⟨ov_mc167, List.forall_mem_cons.mpr ⟨ov_mc168, List.forall_mem_cons.mpr ⟨ov_mc169, List.forall_mem_cons.mpr ⟨ov_mc170, List.forall_mem_cons.mpr ⟨ov_mc171, List.forall_mem_cons.mpr ⟨ov_mc172, List.forall_mem_cons.mpr ⟨ov_mc173, List.forall_mem_cons.mpr ⟨ov_mc174, List.forall_mem_cons.mpr ⟨ov_mc175, List.forall_mem_cons.mpr ⟨ov_mc176, List.forall_mem_cons.mpr ⟨ov_mc177, List.forall_mem_cons.mpr ⟨ov_mc178, List.forall_mem_cons.mpr ⟨ov_mc179, fun _ h => absurd h List.not_mem_nil⟩⟩⟩⟩⟩⟩⟩⟩⟩⟩⟩⟩⟩⟩⟩⟩
def ov_ml11 : List Nat := [180, 181, 182, 183, 184, 185, 186, 187, 188, 189, 190, 191, 192, 193, 194, 195]
theorem ov_mr11 : ∀ k ∈ ov_ml11, ov_P k := List.forall_mem_cons.mpr ⟨ov_mc180, List.forall_mem_cons.mpr ⟨ov_mc181, List.forall_mem_cons.mpr ⟨ov_mc182, List.forall_mem_cons.mpr ⟨ov_mc183, List.forall_mem_cons.mpr ⟨ov_mc184, List.forall_mem_cons.mpr ⟨ov_mc185, List.forall_mem_cons.mpr ⟨ov_mc186, List.forall_mem_cons.mpr ⟨ov_mc187, List.forall_mem_cons.mpr ⟨ov_mc188, List.forall_mem_cons.mpr ⟨ov_mc189, List.forall_mem_cons.mpr ⟨ov_mc190, List.forall_mem_cons.mpr ⟨ov_mc191, List.forall_mem_cons.mpr ⟨ov_mc192, List.forall_mem_cons.mpr ⟨ov_mc193, List.forall_mem_cons.mpr ⟨ov_mc194, List.forall_mem_cons.mpr ⟨ov_mc195, fun _ h => absurd h List.not_mem_nil⟩⟩⟩⟩⟩⟩⟩⟩⟩⟩⟩⟩⟩⟩⟩⟩
def ov_ml12 : List Nat := [196, 197, 198, 199, 200, 201, 202, 203, 204, 205, 206, 207, 208, 209, 210, 211]
theorem ov_mr12 : ∀ k ∈ ov_ml12, ov_P k := List.forall_mem_cons.mpr ⟨ov_mc196, List.forall_mem_cons.mpr ⟨ov_mc197, List.forall_mem_cons.mpr ⟨ov_mc198, List.forall_mem_cons.mpr ⟨ov_mc199, List.forall_mem_cons.mpr ⟨ov_mc200, List.forall_mem_cons.mpr ⟨ov_mc201, List.forall_mem_cons.mpr ⟨ov_mc202, List.forall_mem_cons.mpr ⟨ov_mc203, List.forall_mem_cons.mpr ⟨ov_mc204, List.forall_mem_cons.mpr ⟨ov_mc205, List.forall_mem_cons.mpr ⟨ov_mc206, List.forall_mem_cons.mpr ⟨ov_mc207, List.forall_mem_cons.mpr ⟨ov_mc208, List.forall_mem_cons.mpr ⟨ov_mc209, List.forall_mem_cons.mpr ⟨ov_mc210, List.forall_mem_cons.mpr ⟨ov_mc211, fun _ h => absurd h List.not_mem_nil⟩⟩⟩⟩⟩⟩⟩⟩⟩⟩⟩⟩⟩⟩⟩⟩
def ov_ml13 : List Nat := [212, 213, 214, 215, 216, 217, 218, 219, 220, 221, 222, 223, 224, 225]
theorem ov_mr13 : ∀ k ∈ ov_ml13, ov_P k := List.forall_mem_cons.mpr ⟨ov_mc212, List.forall_mem_cons.mpr ⟨ov_mc213, List.forall_mem_cons.mpr ⟨ov_mc214, List.forall_mem_cons.mpr ⟨ov_mc215, List.forall_mem_cons.mpr ⟨ov_mc216, List.forall_mem_cons.mpr ⟨ov_mc217, List.forall_mem_cons.mpr ⟨ov_mc218, List.forall_mem_cons.mpr ⟨ov_mc219, List.forall_mem_cons.mpr ⟨ov_mc220, List.forall_mem_cons.mpr ⟨ov_mc221, List.forall_mem_cons.mpr ⟨ov_mc222, List.forall_mem_cons.mpr ⟨ov_mc223, List.forall_mem_cons.mpr ⟨ov_mc224, List.forall_mem_cons.mpr ⟨ov_mc225, fun _ h => absurd h List.not_mem_nil⟩⟩⟩⟩⟩⟩⟩⟩⟩⟩⟩⟩⟩⟩
def ov_ml : List Nat := ov_ml0 ++ (ov_ml1 ++ (ov_ml2 ++ (ov_ml3 ++ (ov_ml4 ++ (ov_ml5 ++ (ov_ml6 ++ (ov_ml7 ++ (ov_ml8 ++ (ov_ml9 ++ (ov_ml10 ++ (ov_ml11 ++ (ov_ml12 ++ (ov_ml13)))))))))))))
theorem ov_mlP : ∀ k ∈ ov_ml, ov_P k := List.forall_mem_append.mpr ⟨ov_mr0, List.forall_mem_append.mpr ⟨ov_mr1, List.forall_mem_append.mpr ⟨ov_mr2, List.forall_mem_append.mpr ⟨ov_mr3, List.forall_mem_append.mpr ⟨ov_mr4, List.forall_mem_append.mpr ⟨ov_mr5, List.forall_mem_append.mpr ⟨ov_mr6, List.forall_mem_append.mpr ⟨ov_mr7, List.forall_mem_append.mpr ⟨ov_mr8, List.forall_mem_append.mpr ⟨ov_mr9, List.forall_mem_append.mpr ⟨ov_mr10, List.forall_mem_append.mpr ⟨ov_mr11, List.forall_mem_append.mpr ⟨ov_mr12, ov_mr13⟩⟩⟩⟩⟩⟩⟩⟩⟩⟩⟩⟩⟩
theorem ov_mlOK : ov_ml.all ov_mOK = true := by decide +kernel
def ov_lOK (e : ov_L) : Bool :=
  ov_ix e.2.2.2.1 (.methodLink (ov_cname (e.1 % 32)) (e.1 / 32) (ov_nm e.2.2.1)) && (ov_ml.any fun k => Nat.beq k e.2.2.1) &&
  (match e.2.1 with
   | 0 => ov_ix e.2.2.2.2.1 (.static (ov_nm e.2.2.1))
   | 1 => ov_ix e.2.2.2.2.1 (.instanceMethod (ov_nm e.2.2.1)) && ov_ix e.2.2.2.2.2 (.selects (ov_nm e.2.2.1).cls (ov_nm e.2.2.1) (ov_nm e.2.2.1))
   | _ => ov_ix e.2.2.2.2.1 (.instanceMethod (ov_nm e.2.2.1)) && decide ((ov_nm e.2.2.1).name = "<init>") && decide (ov_rt e.2.2.1 = none))
theorem ov_lall : ov_lt.all ov_lOK = true := by decide +kernel
def ov_fOK (e : Nat × Nat × Nat × Bool × Nat) : Bool :=
  match ov_cl[e.2.1]? with
  | some r => ov_ix e.2.2.2.2 (.fieldLink (ov_cname (e.1 % 32)) (e.1 / 32) (r.2.1 e.2.2.1).1 (r.2.1 e.2.2.1).2.1 (r.2.1 e.2.2.1).2.2.1) && Nat.blt e.2.2.1 r.2.2 && decide ((r.2.1 e.2.2.1).2.2.2 = e.2.2.2.1) && decide ((r.2.1 e.2.2.1).1 = ov_cname (e.2.1 + 1))
  | none => false
theorem ov_fall : ov_ft.all ov_fOK = true := by decide +kernel
theorem ov_kall : ov_kt.all (fun e => ov_ix e.2.2 (.constant (ov_cname (e.1 % 32)) (e.1 / 32) e.2.1)) = true := by decide +kernel
theorem ov_k2all : ov_k2t.all (fun e => ov_ix e.2.2 (.constantLong (ov_cname (e.1 % 32)) (e.1 / 32) e.2.1)) = true := by decide +kernel
def ov_nOK (e : Nat × Nat × Nat × Nat × Nat) : Bool :=
  match ov_cl[e.2.1]? with
  | some r => ov_ix e.2.2.1 (.classLink (ov_cname (e.1 % 32)) (e.1 / 32) r.1) && ov_ix e.2.2.2.1 (.instantiable r.1 r.2.2) && ov_ix e.2.2.2.2 (.initialized r.1)
  | none => false
theorem ov_nall : ov_nt.all ov_nOK = true := by decide +kernel
theorem ov_iall : ov_it.all (fun e => ov_ix e.2 (.methodLink (ov_cname (e.1 % 32)) (e.1 / 32) Lib.objectInit)) = true := by decide +kernel
theorem ov_call : ov_ct.all (fun e => ov_ix e.2 (.methodLink (ov_cname (e.1 % 32)) (e.1 / 32) arraycopyName)) = true := by decide +kernel
theorem ov_w_oi : Cond.instanceMethod Lib.objectInit ∈ ov_tt := ov_ixm (i := 77) (by decide +kernel)
theorem ov_w_oc : Cond.code Lib.objectInit ⟨#[0xb1]⟩ 1 none ∈ ov_tt := ov_ixm (i := 78) (by decide +kernel)
theorem ov_w_nat : Cond.native arraycopyName ∈ ov_tt := ov_ixm (i := 577) (by decide +kernel)
theorem ov_w_sta : Cond.static arraycopyName ∈ ov_tt := ov_ixm (i := 576) (by decide +kernel)
theorem ov_w_sys : Cond.initialized "java/lang/System" ∈ ov_tt := ov_ixm (i := 69) (by decide +kernel)
theorem ov_w_ai : Cond.arrayClass .int ∈ ov_tt := ov_ixm (i := 92) (by decide +kernel)
theorem ov_w_az : Cond.arrayClass .boolean ∈ ov_tt := ov_ixm (i := 1000) (by decide +kernel)
theorem ov_w_ao : Cond.arrayOver (.object "OnlyEntrances$Stage") ∈ lw_tbl := List.mem_of_getElem? (i := 261) (by decide +kernel)
theorem ov_xall : ov_xt.all (fun e => ov_ix e.2.2 (.methodLink (ov_cname (e.1 % 32)) (e.1 / 32) (match e.2.1 with
  | 0 => Lib.Math.abs.name
  | 1 => Lib.Math.max.name
  | _ => Lib.MathLoose.abs_long.x))) = true := by decide +kernel
theorem ov_w_m : Cond.initialized "java/lang/Math" ∈ ov_tt := ov_ixm (i := 67) (by decide +kernel)
theorem ov_w_m0 : Cond.static Lib.Math.abs.name ∈ ov_tt ∧ Cond.code Lib.Math.abs.name Lib.Math.abs.code 1 (some .int) ∈ ov_tt := ⟨ov_ixm (i := 456) (by decide +kernel), ov_ixm (i := 457) (by decide +kernel)⟩
theorem ov_w_m1 : Cond.static Lib.Math.max.name ∈ ov_tt ∧ Cond.code Lib.Math.max.name Lib.Math.max.code 2 (some .int) ∈ ov_tt := ⟨ov_ixm (i := 462) (by decide +kernel), ov_ixm (i := 463) (by decide +kernel)⟩
theorem ov_w_m2 : Cond.static Lib.MathLoose.abs_long.x ∈ ov_tt ∧ Cond.code Lib.MathLoose.abs_long.x Lib.MathLoose.abs_long.code 2 (some .long) ∈ ov_tt := ⟨ov_ixm (i := 772) (by decide +kernel), ov_ixm (i := 773) (by decide +kernel)⟩
theorem ov_inof {ws : List Cond} {ps : List Nat} (h : ws = ps.filterMap (fun i => lw_tbl[i]?)) (hg : ws.all goodWord = true) : ∀ w ∈ ws, w ∈ ov_tt := by
  intro w hw
  have h2 := List.all_eq_true.mp hg w hw
  rw [h] at hw
  obtain ⟨i, -, hi⟩ := List.mem_filterMap.mp hw
  exact List.mem_filter.mpr ⟨List.mem_of_getElem? hi, h2⟩
theorem ov_clOK : ∀ (ci : Nat) (r : vw_C), ov_cl[ci]? = some r → (∀ w ∈ u_ws r.1 r.2.1 r.2.2, w ∈ ov_tt) ∧ (∀ k, k < r.2.2 → parseFieldDescriptor (r.2.1 k).2.2.1 = some (ov_ty ci k)) ∧ (∀ a, a < r.2.2 → ∀ b, b < r.2.2 → a ≠ b → (r.2.1 a).2.1 ≠ (r.2.1 b).2.1) := by
  intro ci r h
  match ci, h with
  | 0, h => cases h; exact ⟨ov_inof ov_lay0 (by decide +kernel), ov_tyok0, ov_nm0⟩
  | 1, h => cases h; exact ⟨ov_inof ov_lay1 (by decide +kernel), ov_tyok1, ov_nm1⟩
  | 2, h => cases h; exact ⟨ov_inof ov_lay2 (by decide +kernel), ov_tyok2, ov_nm2⟩
  | 3, h => cases h; exact ⟨ov_inof ov_lay3 (by decide +kernel), ov_tyok3, ov_nm3⟩
  | 4, h => cases h; exact ⟨ov_inof ov_lay4 (by decide +kernel), ov_tyok4, ov_nm4⟩
  | 5, h => cases h; exact ⟨ov_inof ov_lay5 (by decide +kernel), ov_tyok5, ov_nm5⟩
  | 6, h => cases h; exact ⟨ov_inof ov_lay6 (by decide +kernel), ov_tyok6, ov_nm6⟩
  | 7, h => cases h; exact ⟨ov_inof ov_lay7 (by decide +kernel), ov_tyok7, ov_nm7⟩
  | 8, h => cases h; exact ⟨ov_inof ov_lay8 (by decide +kernel), ov_tyok8, ov_nm8⟩
  | k + 9, h => simp [ov_cl] at h
end
section
-- THE PURE MACHINE: a frame at an instruction over a heap of numbered cells; cell 0 is the script
abbrev ov_Sh : Type := Nat × Nat × Nat
abbrev ov_Mem : Type := List ov_Sh × (Nat → Nat → Value)
abbrev ov_Cfg : Type := Nat × List (Option Value) × List Value × ov_Mem
def ov_find {α : Type} (tab : List (Nat × α)) (k : Nat) : Option α := (tab.find? (fun e => Nat.beq e.1 k)).map (fun e => e.2)
theorem ov_find_mem {α : Type} {tab : List (Nat × α)} {k : Nat} {x : α} (h : ov_find tab k = some x) : (k, x) ∈ tab := by
  unfold ov_find at h
  cases hf : tab.find? (fun e => Nat.beq e.1 k) with
  | none => rw [hf] at h; cases h
  | some q =>
    rw [hf] at h
    have h1 := List.find?_some hf
    have h2 : q.1 = k := Nat.eq_of_beq_eq_true h1
    have h3 : q.2 = x := Option.some.inj h
    have h4 := List.mem_of_find?_eq_some hf
    rw [← h2, ← h3]
    exact h4
def ov_two (o : Option Value) : Bool := match o with
  | some (.long _) => true
  | some (.double _) => true
  | _ => false
def ov_cut (w : Bool) (r : List (Option Value)) : List (Option Value) := match w, r with
  | true, _ :: r' => none :: r'
  | _, r => r
def ov_ls : List (Option Value) → Nat → Value → List (Option Value)
  | [], _, _ => []
  | _ :: r, 0, v => some v :: ov_cut (ov_two (some v)) r
  | o :: r, i + 1, v => (match i, ov_two o with
    | 0, true => none
    | _, _ => o) :: ov_ls r i v
def ov_aty (t : Nat) : FieldType := match t with
  | 1 => .int
  | 2 => .boolean
  | _ => .object "OnlyEntrances$Stage"
def ov_rp (μ : ov_Mem) (a : Nat) (g : Nat → Value) : ov_Mem := (μ.1, fun i => if i = a then g else μ.2 i)
def ov_nw (μ : ov_Mem) (sh : ov_Sh) (g : Nat → Value) : ov_Mem := (μ.1 ++ [sh], fun i => if i = μ.1.length then g else μ.2 i)
def ov_sz (l : List ov_Sh) : Nat := (l.map (fun x => x.2.2)).sum
def ov_fit (ty : FieldType) (v : Value) : Bool := match ty, v with
  | .int, .int _ => true
  | .long, .long _ => true
  | .object _, .ref _ => true
  | .array _, .ref _ => true
  | _, _ => false
def ov_tg (pc : Nat) (off : Int) : Option Nat := if (pc : Int) + off < 0 then none else some ((pc : Int) + off).toNat
def ov_len (i : Instr) : Nat := match i with
  | .bipush _ | .ldc _ | .iload _ | .lload _ | .aload _ | .istore _ | .lstore _ | .astore _ | .newarray _ => 2
  | .sipush _ | .ldc_w _ | .ldc2_w _ | .iinc _ _ | .ifCond _ _ | .if_icmp _ _ | .goto _ | .getfield _ | .putfield _ | .new _ | .anewarray _ | .invokespecial _ | .invokestatic _ | .invokevirtual _ => 3
  | _ => 1
def ov_ldI (n k pc : Nat) (lv : List (Option Value)) (st : List Value) (μ : ov_Mem) : Option ov_Cfg := match lv.getD k none with
  | some (.int x) => some (pc + n, lv, .int x :: st, μ)
  | _ => none
def ov_ldL (n k pc : Nat) (lv : List (Option Value)) (st : List Value) (μ : ov_Mem) : Option ov_Cfg := match lv.getD k none with
  | some (.long x) => some (pc + n, lv, .long x :: st, μ)
  | _ => none
def ov_ldA (n k pc : Nat) (lv : List (Option Value)) (st : List Value) (μ : ov_Mem) : Option ov_Cfg := match lv.getD k none with
  | some (.ref x) => some (pc + n, lv, .ref x :: st, μ)
  | _ => none
def ov_stI (n k pc : Nat) (lv : List (Option Value)) (st : List Value) (μ : ov_Mem) : Option ov_Cfg := match st, Nat.blt k lv.length with
  | .int x :: r, true => some (pc + n, ov_ls lv k (.int x), r, μ)
  | _, _ => none
def ov_stL (n k pc : Nat) (lv : List (Option Value)) (st : List Value) (μ : ov_Mem) : Option ov_Cfg := match st, Nat.blt (k + 1) lv.length with
  | .long x :: r, true => some (pc + n, ov_ls lv k (.long x), r, μ)
  | _, _ => none
def ov_stA (n k pc : Nat) (lv : List (Option Value)) (st : List Value) (μ : ov_Mem) : Option ov_Cfg := match st, Nat.blt k lv.length with
  | .ref x :: r, true => some (pc + n, ov_ls lv k (.ref x), r, μ)
  | _, _ => none
def ov_inc (k : Nat) (n : Int) (pc : Nat) (lv : List (Option Value)) (st : List Value) (μ : ov_Mem) : Option ov_Cfg := match lv.getD k none with
  | some (.int x) => some (pc + 3, ov_ls lv k (.int (x + Int32.ofInt n)), st, μ)
  | _ => none
def ov_ii (f : Int32 → Int32 → Int32) (pc : Nat) (lv : List (Option Value)) (st : List Value) (μ : ov_Mem) : Option ov_Cfg := match st with
  | .int y :: .int x :: r => some (pc + 1, lv, .int (f x y) :: r, μ)
  | _ => none
def ov_iz (f : Int32 → Int32 → Int32) (pc : Nat) (lv : List (Option Value)) (st : List Value) (μ : ov_Mem) : Option ov_Cfg := match st with
  | .int y :: .int x :: r => if y = 0 then none else some (pc + 1, lv, .int (f x y) :: r, μ)
  | _ => none
def ov_ll (f : Int64 → Int64 → Int64) (pc : Nat) (lv : List (Option Value)) (st : List Value) (μ : ov_Mem) : Option ov_Cfg := match st with
  | .long y :: .long x :: r => some (pc + 1, lv, .long (f x y) :: r, μ)
  | _ => none
def ov_lz (f : Int64 → Int64 → Int64) (pc : Nat) (lv : List (Option Value)) (st : List Value) (μ : ov_Mem) : Option ov_Cfg := match st with
  | .long y :: .long x :: r => if y = 0 then none else some (pc + 1, lv, .long (f x y) :: r, μ)
  | _ => none
def ov_li (f : Int64 → Int32 → Int64) (pc : Nat) (lv : List (Option Value)) (st : List Value) (μ : ov_Mem) : Option ov_Cfg := match st with
  | .int y :: .long x :: r => some (pc + 1, lv, .long (f x y) :: r, μ)
  | _ => none
def ov_i1 (f : Int32 → Value) (pc : Nat) (lv : List (Option Value)) (st : List Value) (μ : ov_Mem) : Option ov_Cfg := match st with
  | .int x :: r => some (pc + 1, lv, f x :: r, μ)
  | _ => none
def ov_l1 (f : Int64 → Value) (pc : Nat) (lv : List (Option Value)) (st : List Value) (μ : ov_Mem) : Option ov_Cfg := match st with
  | .long x :: r => some (pc + 1, lv, f x :: r, μ)
  | _ => none
def ov_cm (pc : Nat) (lv : List (Option Value)) (st : List Value) (μ : ov_Mem) : Option ov_Cfg := match st with
  | .long y :: .long x :: r => some (pc + 1, lv, .int (lg_cmp x y) :: r, μ)
  | _ => none
def ov_dup (pc : Nat) (lv : List (Option Value)) (st : List Value) (μ : ov_Mem) : Option ov_Cfg := match st with
  | v :: r => if v.category = 1 then some (pc + 1, lv, v :: v :: r, μ) else none
  | _ => none
def ov_dup2 (pc : Nat) (lv : List (Option Value)) (st : List Value) (μ : ov_Mem) : Option ov_Cfg := match st with
  | v :: w :: r => if v.category = 1 then (if w.category = 1 then some (pc + 1, lv, v :: w :: v :: w :: r, μ) else none) else none
  | _ => none
def ov_pop (pc : Nat) (lv : List (Option Value)) (st : List Value) (μ : ov_Mem) : Option ov_Cfg := match st with
  | v :: r => if v.category = 1 then some (pc + 1, lv, r, μ) else none
  | _ => none
def ov_if (P : Int32 → Bool) (off : Int) (pc : Nat) (lv : List (Option Value)) (st : List Value) (μ : ov_Mem) : Option ov_Cfg := match st, ov_tg pc off with
  | .int x :: r, some t => some (bif P x then t else pc + 3, lv, r, μ)
  | _, _ => none
def ov_cmp (P : Int32 → Int32 → Bool) (off : Int) (pc : Nat) (lv : List (Option Value)) (st : List Value) (μ : ov_Mem) : Option ov_Cfg := match st, ov_tg pc off with
  | .int y :: .int x :: r, some t => some (bif P x y then t else pc + 3, lv, r, μ)
  | _, _ => none
def ov_cc (c : ClassFile.Cond) (x y : Int32) : Bool := match c with
  | .eq => decide (x = y)
  | .ne => !decide (x = y)
  | .lt => decide (x < y)
  | .ge => decide (y ≤ x)
  | .gt => decide (y < x)
  | .le => decide (x ≤ y)
def ov_go (off : Int) (pc : Nat) (lv : List (Option Value)) (st : List Value) (μ : ov_Mem) : Option ov_Cfg := match ov_tg pc off with
  | some t => some (t, lv, st, μ)
  | none => none
def ov_ts (d lo hi : Int) (offs : Array Int) (pc : Nat) (lv : List (Option Value)) (st : List Value) (μ : ov_Mem) : Option ov_Cfg := match st with
  | .int x :: r => if x.toInt < lo ∨ hi < x.toInt then ov_go d pc lv r μ else (match offs[(x.toInt - lo).toNat]? with
    | some off => ov_go off pc lv r μ
    | none => none)
  | _ => none
def ov_lk (d : Int) (ps : Array (Int × Int)) (pc : Nat) (lv : List (Option Value)) (st : List Value) (μ : ov_Mem) : Option ov_Cfg := match st with
  | .int x :: r => if (ps.toList.zip (ps.toList.drop 1)).all (fun (a, next) => a.1 < next.1) = true then ov_go (Op.lookupswitch.offset ps.toList d x.toInt) pc lv r μ else none
  | _ => none
def ov_gf (oc idx pc : Nat) (lv : List (Option Value)) (st : List Value) (μ : ov_Mem) : Option ov_Cfg := match st, ov_find ov_ft (idx * 32 + oc) with
  | .ref a :: r, some (ci, k, _, _) => (match μ.1[a]? with
    | some (0, c, _) => bif Nat.beq c ci then some (pc + 3, lv, μ.2 a k :: r, μ) else none
    | _ => none)
  | _, _ => none
def ov_pf (oc idx : Nat) (ini : Bool) (pc : Nat) (lv : List (Option Value)) (st : List Value) (μ : ov_Mem) : Option ov_Cfg := match st, ov_find ov_ft (idx * 32 + oc) with
  | v :: .ref a :: r, some (ci, k, fin, _) => (match μ.1[a]? with
    | some (0, c, _) => bif Nat.beq c ci && ov_fit (ov_ty ci k) v && (!fin || (ini && Nat.beq oc (ci + 1))) then some (pc + 3, lv, r, ov_rp μ a (updV (μ.2 a) k v)) else none
    | _ => none)
  | _, _ => none
def ov_al (pc : Nat) (lv : List (Option Value)) (st : List Value) (μ : ov_Mem) : Option ov_Cfg := match st with
  | .ref 0 :: r => (match μ.1[0]? with
    | some (9, _, n) => some (pc + 1, lv, .int (Int32.ofNat n) :: r, μ)
    | _ => none)
  | _ => none
def ov_rd (t : Nat) (pc : Nat) (lv : List (Option Value)) (st : List Value) (μ : ov_Mem) : Option ov_Cfg := match st with
  | .int j :: .ref a :: r => (match μ.1[a]? with
    | some (u, _, n) => if u = t then (if j < 0 ∨ n ≤ j.toNatClampNeg then none else some (pc + 1, lv, μ.2 a j.toNatClampNeg :: r, μ)) else none
    | none => none)
  | _ => none
def ov_rdI (pc : Nat) (lv : List (Option Value)) (st : List Value) (μ : ov_Mem) : Option ov_Cfg := match st with
  | .int j :: .ref 0 :: r => ov_rd 9 pc lv (.int j :: .ref 0 :: r) μ
  | st => ov_rd 1 pc lv st μ
def ov_wr (t : Nat) (f : Value → Option Value) (pc : Nat) (lv : List (Option Value)) (st : List Value) (μ : ov_Mem) : Option ov_Cfg := match st with
  | v :: .int j :: .ref a :: r => (match μ.1[a]?, f v with
    | some (u, _, n), some w => if u = t then (if j < 0 ∨ n ≤ j.toNatClampNeg then none else some (pc + 1, lv, r, ov_rp μ a (updV (μ.2 a) j.toNatClampNeg w))) else none
    | _, _ => none)
  | _ => none
def ov_vI (v : Value) : Option Value := match v with
  | .int x => some (.int x)
  | _ => none
def ov_vZ (v : Value) : Option Value := match v with
  | .int x => some (narrow .boolean (.int x))
  | _ => none
def ov_vS (μ : ov_Mem) (v : Value) : Option Value := match v with
  | .ref (a + 1) => (match μ.1[a + 1]? with
    | some (0, 3, _) => some (.ref (a + 1))
    | _ => none)
  | _ => none
def ov_na (ty : ArrayType) (pc : Nat) (lv : List (Option Value)) (st : List Value) (μ : ov_Mem) : Option ov_Cfg := match ty, st with
  | .int, .int n :: r => if n < 0 then none else (if n.toNatClampNeg ≤ 1000 then some (pc + 2, lv, .ref μ.1.length :: r, ov_nw μ (1, 0, n.toNatClampNeg) (fun _ => .int 0)) else none)
  | .boolean, .int n :: r => if n < 0 then none else (if n.toNatClampNeg ≤ 1000 then some (pc + 2, lv, .ref μ.1.length :: r, ov_nw μ (2, 0, n.toNatClampNeg) (fun _ => .int 0)) else none)
  | _, _ => none
def ov_an (oc idx pc : Nat) (lv : List (Option Value)) (st : List Value) (μ : ov_Mem) : Option ov_Cfg := match st, ov_find ov_nt (idx * 32 + oc) with
  | .int n :: r, some (3, _) => if n < 0 then none else (if n.toNatClampNeg ≤ 1000 then some (pc + 3, lv, .ref μ.1.length :: r, ov_nw μ (3, 0, n.toNatClampNeg) (fun _ => .null)) else none)
  | _, _ => none
def ov_ne (oc idx pc : Nat) (lv : List (Option Value)) (st : List Value) (μ : ov_Mem) : Option ov_Cfg := match ov_find ov_nt (idx * 32 + oc) with
  | some (ci, _) => (match ov_cl[ci]? with
    | some q => some (pc + 3, lv, .ref μ.1.length :: st, ov_nw μ (0, ci, q.2.2) (fun k => defaultValue (ov_ty ci k)))
    | none => none)
  | none => none
def ov_oi (oc idx pc : Nat) (lv : List (Option Value)) (st : List Value) (μ : ov_Mem) : Option ov_Cfg := match st, ov_find ov_it (idx * 32 + oc) with
  | .ref _ :: r, some _ => if (r.map fun v => v.category).sum ≤ 8 then some (pc + 3, lv, r, μ) else none
  | _, _ => none
def ov_isI (v : Value) : Bool := match v with
  | .int _ => true
  | _ => false
def ov_cy (oc idx pc : Nat) (lv : List (Option Value)) (st : List Value) (μ : ov_Mem) : Option ov_Cfg := match st, ov_find ov_ct (idx * 32 + oc) with
  | .int n :: .int dp :: .ref (a + 1) :: .int sp :: .ref (a0 + 1) :: r, some _ => (match μ.1[a0 + 1]?, μ.1[a + 1]? with
    | some (1, _, n0), some (1, _, n1) => if n < 0 ∨ dp < 0 ∨ sp < 0 ∨ n0 < sp.toNatClampNeg + n.toNatClampNeg ∨ n1 < dp.toNatClampNeg + n.toNatClampNeg ∨ 8 < (r.map fun v => v.category).sum then none
        else some (pc + 3, lv, r, ov_rp μ (a + 1) (va_cpy (μ.2 (a0 + 1)) (μ.2 (a + 1)) sp.toNatClampNeg dp.toNatClampNeg n.toNatClampNeg))
    | _, _ => none)
  | _, _ => none
def ov_mth (op pc : Nat) (lv : List (Option Value)) (st : List Value) (μ : ov_Mem) : Option ov_Cfg := match op, st with
  | 0, .int x :: r => if 8 < (r.map fun v => v.category).sum then none else some (pc + 3, lv, .int (if 0 ≤ x then x else 0 - x) :: r, μ)
  | 1, .int y :: .int x :: r => if 8 < (r.map fun v => v.category).sum then none else some (pc + 3, lv, .int (if x < y then y else x) :: r, μ)
  | 2, .long x :: r => if 8 < (r.map fun v => v.category).sum then none else some (pc + 3, lv, .long (if 0 < x then x else -x) :: r, μ)
  | _, _ => none
def ov_sta (oc idx pc : Nat) (lv : List (Option Value)) (st : List Value) (μ : ov_Mem) : Option ov_Cfg := match ov_find ov_xt (idx * 32 + oc) with
  | some (op, _) => ov_mth op pc lv st μ
  | none => ov_cy oc idx pc lv st μ
def ov_step1 (oc : Nat) (ini : Bool) (i : Instr) (pc : Nat) (lv : List (Option Value)) (st : List Value) (μ : ov_Mem) : Option ov_Cfg := match i with
  | .iconst k => some (pc + 1, lv, .int (Int32.ofInt k) :: st, μ)
  | .bipush k => some (pc + 2, lv, .int (Int8.ofInt k).toInt32 :: st, μ)
  | .sipush k => some (pc + 3, lv, .int (Int16.ofInt k).toInt32 :: st, μ)
  | .lconst k => some (pc + 1, lv, .long (Int64.ofNat (k : Nat)) :: st, μ)
  | .ldc idx => (ov_find ov_kt (idx * 32 + oc)).map fun v => (pc + 2, lv, .int v.1 :: st, μ)
  | .ldc_w idx => (ov_find ov_kt (idx * 32 + oc)).map fun v => (pc + 3, lv, .int v.1 :: st, μ)
  | .ldc2_w idx => (ov_find ov_k2t (idx * 32 + oc)).map fun v => (pc + 3, lv, .long v.1 :: st, μ)
  | .iload k => ov_ldI 2 k pc lv st μ
  | .iload_n k => ov_ldI 1 k pc lv st μ
  | .lload k => ov_ldL 2 k pc lv st μ
  | .lload_n k => ov_ldL 1 k pc lv st μ
  | .aload k => ov_ldA 2 k pc lv st μ
  | .aload_n k => ov_ldA 1 k pc lv st μ
  | .istore k => ov_stI 2 k pc lv st μ
  | .istore_n k => ov_stI 1 k pc lv st μ
  | .lstore k => ov_stL 2 k pc lv st μ
  | .lstore_n k => ov_stL 1 k pc lv st μ
  | .astore k => ov_stA 2 k pc lv st μ
  | .astore_n k => ov_stA 1 k pc lv st μ
  | .iinc k n => ov_inc k n pc lv st μ
  | .iadd => ov_ii (fun x y => x + y) pc lv st μ
  | .isub => ov_ii (fun x y => x - y) pc lv st μ
  | .imul => ov_ii (fun x y => x * y) pc lv st μ
  | .iand => ov_ii (fun x y => x &&& y) pc lv st μ
  | .ior => ov_ii (fun x y => x ||| y) pc lv st μ
  | .ixor => ov_ii (fun x y => x ^^^ y) pc lv st μ
  | .ishl => ov_ii (fun x y => x <<< (y &&& 31)) pc lv st μ
  | .ishr => ov_ii (fun x y => x >>> (y &&& 31)) pc lv st μ
  | .iushr => ov_ii (fun x y => (x.toUInt32 >>> (y.toUInt32 &&& Int32.toUInt32 31)).toInt32) pc lv st μ
  | .idiv => ov_iz (fun x y => x / y) pc lv st μ
  | .irem => ov_iz (fun x y => x - x / y * y) pc lv st μ
  | .ineg => ov_i1 (fun x => .int (-x)) pc lv st μ
  | .ladd => ov_ll (fun x y => x + y) pc lv st μ
  | .lsub => ov_ll (fun x y => x - y) pc lv st μ
  | .lmul => ov_ll (fun x y => x * y) pc lv st μ
  | .land => ov_ll (fun x y => x &&& y) pc lv st μ
  | .lor => ov_ll (fun x y => x ||| y) pc lv st μ
  | .ldiv => ov_lz (fun x y => x / y) pc lv st μ
  | .lrem => ov_lz (fun x y => x - x / y * y) pc lv st μ
  | .lneg => ov_l1 (fun x => .long (-x)) pc lv st μ
  | .lshl => ov_li (fun x y => x <<< (y.toInt64 &&& 63)) pc lv st μ
  | .lushr => ov_li (fun x y => (x.toUInt64 >>> (y.toInt64.toUInt64 &&& Int64.toUInt64 63)).toInt64) pc lv st μ
  | .i2l => ov_i1 (fun x => .long x.toInt64) pc lv st μ
  | .l2i => ov_l1 (fun x => .int x.toInt32) pc lv st μ
  | .lcmp => ov_cm pc lv st μ
  | .dup => ov_dup pc lv st μ
  | .dup2 => ov_dup2 pc lv st μ
  | .pop => ov_pop pc lv st μ
  | .ifCond c off => ov_if (fun x => ov_cc c x 0) off pc lv st μ
  | .if_icmp c off => ov_cmp (fun x y => ov_cc c x y) off pc lv st μ
  | .goto off => ov_go off pc lv st μ
  | .tableswitch d lo hi offs => ov_ts d lo hi offs pc lv st μ
  | .lookupswitch d ps => ov_lk d ps pc lv st μ
  | .getfield idx => ov_gf oc idx pc lv st μ
  | .putfield idx => ov_pf oc idx ini pc lv st μ
  | .arraylength => ov_al pc lv st μ
  | .iaload => ov_rdI pc lv st μ
  | .baload => ov_rd 2 pc lv st μ
  | .aaload => ov_rd 3 pc lv st μ
  | .iastore => ov_wr 1 ov_vI pc lv st μ
  | .bastore => ov_wr 2 ov_vZ pc lv st μ
  | .aastore => ov_wr 3 (ov_vS μ) pc lv st μ
  | .newarray ty => ov_na ty pc lv st μ
  | .anewarray idx => ov_an oc idx pc lv st μ
  | .new idx => ov_ne oc idx pc lv st μ
  | .invokespecial idx => ov_oi oc idx pc lv st μ
  | .invokestatic idx => ov_sta oc idx pc lv st μ
  | _ => none
def ov_sw (i : Instr) : Bool := match i with
  | .tableswitch _ _ _ _ => true
  | .lookupswitch _ _ => true
  | _ => false
def ov_ini (M : Nat) : Bool := decide ((ov_nm M).name = "<init>")
def ov_step (M : Nat) (x : ov_Cfg) : Option ov_Cfg := match decode (ov_byt M) x.1 with
  | .ok (i, n) => bif ov_sw i || Nat.beq n (ov_len i) then ov_step1 (ov_oc M) (ov_ini M) i x.1 x.2.1 x.2.2.1 x.2.2.2 else none
  | _ => none
-- calls
def ov_as (vs : List Value) : List (Option Value) := vs.flatMap fun v => if v.category = 2 then [some v, none] else [some v]
def ov_ent (M : Nat) (vs : List Value) (μ : ov_Mem) : ov_Cfg := (0, ov_as vs ++ List.replicate (ov_mx M - (ov_as vs).length) none, [], μ)
def ov_ca (kind M : Nat) (st : List Value) (μ : ov_Mem) : Option (Nat × List Value × List Value) :=
  bif Nat.ble (ov_np M) st.length && Nat.ble (ov_as ((st.take (ov_np M)).reverse)).length (ov_mx M - (if kind = 0 then 0 else 1)) then
    (match kind, st.drop (ov_np M) with
     | 0, r => bif Nat.ble (r.map fun v => v.category).sum 8 then some (M, (st.take (ov_np M)).reverse, r) else none
     | 1, .ref (a + 1) :: r => (match μ.1[a + 1]? with
        | some (0, c, _) => bif Nat.beq (ov_oc M) (c + 1) && Nat.ble (r.map fun v => v.category).sum 8 && Nat.blt 0 (ov_mx M) then some (M, .ref (a + 1) :: (st.take (ov_np M)).reverse, r) else none
        | _ => none)
     | 2, .ref (a + 1) :: r => bif Nat.ble (r.map fun v => v.category).sum 8 && Nat.blt 0 (ov_mx M) then some (M, .ref (a + 1) :: (st.take (ov_np M)).reverse, r) else none
     | _, _ => none)
  else none
def ov_lkd (M idx kind : Nat) (st : List Value) (μ : ov_Mem) : Option (Nat × List Value × List Value) := match ov_find ov_lt (idx * 32 + ov_oc M) with
  | some (k, y, _) => bif Nat.beq k kind then ov_ca kind y st μ else none
  | none => none
def ov_inv (M : Nat) (x : ov_Cfg) : Option (Nat × List Value × List Value) := match decode (ov_byt M) x.1 with
  | .ok (.invokestatic idx, 3) => ov_lkd M idx 0 x.2.2.1 x.2.2.2
  | .ok (.invokevirtual idx, 3) => ov_lkd M idx 1 x.2.2.1 x.2.2.2
  | .ok (.invokespecial idx, 3) => ov_lkd M idx 2 x.2.2.1 x.2.2.2
  | _ => none
def ov_ret (M : Nat) (x : ov_Cfg) : Option (Option Value) := match decode (ov_byt M) x.1, ov_rt M, x.2.2.1 with
  | .ok (.ireturn, 1), some .int, [.int v] => some (some (.int v))
  | .ok (.ireturn, 1), some .boolean, [.int v] => if v = 0 ∨ v = 1 then some (some (.int v)) else none
  | .ok (.lreturn, 1), some .long, [.long v] => some (some (.long v))
  | .ok (.return_, 1), none, [] => some none
  | _, _, _ => none
abbrev ov_CT : Type := Nat → List Value → ov_Mem → Option Value → ov_Mem → Prop
def ov_I (C : ov_CT) (M : Nat) (x z : ov_Cfg) : Prop :=
  ov_step M x = some z ∨ ∃ (y : Nat) (as r : List Value) (rv : Option Value) (μ' : ov_Mem), ov_inv M x = some (y, as, r) ∧ C y as x.2.2.2 rv μ' ∧ z = (x.1 + 3, x.2.1, rv.toList ++ r, μ')
def ov_N (C : ov_CT) (M : Nat) : Nat → ov_Cfg → ov_Cfg → Prop
  | 0, x, y => x = y
  | k + 1, x, y => ∃ z, ov_I C M x z ∧ ov_N C M k z y
def ov_C : Nat → ov_CT
  | 0 => fun _ _ _ _ _ => False
  | d + 1 => fun M as μ rv μ' => ∃ (k : Nat) (x : ov_Cfg), ov_N (ov_C d) M k (ov_ent M as μ) x ∧ ov_ret M x = some rv ∧ x.2.2.2 = μ'
end
section
-- HOW THE PURE HEAP AND LOCALS STAND IN THE MACHINE
def ov_ad (b h0 : Nat) : Nat → Nat
  | 0 => b
  | i + 1 => h0 + i
def ov_cv (b h0 : Nat) : Value → Value
  | .ref i => .ref (ov_ad b h0 i)
  | v => v
theorem ov_cat {b h0 : Nat} (v : Value) : (ov_cv b h0 v).category = v.category := by cases v <;> rfl
theorem ov_cats {b h0 : Nat} (r : List Value) : ((r.map (ov_cv b h0)).map fun v => v.category).sum = (r.map fun v => v.category).sum := by
  rw [List.map_map]
  congr 1
  apply List.map_congr_left
  intro v _
  exact ov_cat v
def ov_LV (b h0 : Nat) (ls : Array Slot) (nL : Nat) (lv : List (Option Value)) : Prop := ls.size = nL ∧ lv_wf ls ∧ lv.length = nL ∧ ∀ (i : Nat) (v : Value), lv[i]? = some (some v) → ls[i]? = some (.val (ov_cv b h0 v))
theorem ov_getD {lv : List (Option Value)} {k : Nat} {v : Value} (hk : lv.getD k none = some v) : lv[k]? = some (some v) := by
  rw [List.getD_eq_getElem?_getD] at hk
  cases hq : lv[k]? with
  | none => rw [hq] at hk; cases hk
  | some o => rw [hq] at hk; exact congrArg some hk
theorem ov_LV.get {b h0 nL k : Nat} {ls : Array Slot} {lv : List (Option Value)} {v : Value} (h : ov_LV b h0 ls nL lv) (hk : lv.getD k none = some v) : ls[k]? = some (.val (ov_cv b h0 v)) := h.2.2.2 k v (ov_getD hk)
def ov_av (b h0 : Nat) (lv : List (Option Value)) : List (Nat × Value) := (List.range lv.length).filterMap (fun i => match lv.getD i none with
  | some v => some (i, ov_cv b h0 v)
  | none => none)
theorem ov_LV.has {b h0 nL : Nat} {ls : Array Slot} {lv : List (Option Value)} (h : ov_LV b h0 ls nL lv) : lv_has ls nL (ov_av b h0 lv) := by
  refine ⟨h.1, h.2.1, fun q hq => ?_⟩
  obtain ⟨i, -, hi⟩ := List.mem_filterMap.mp hq
  split at hi
  · rename_i v hv
    cases hi
    exact h.get hv
  · cases hi
theorem ov_mem_av {b h0 i : Nat} {lv : List (Option Value)} {v : Value} (h : lv[i]? = some (some v)) : (i, ov_cv b h0 v) ∈ ov_av b h0 lv := by
  refine List.mem_filterMap.mpr ⟨i, List.mem_range.mpr (List.getElem?_eq_some_iff.mp h).1, ?_⟩
  have e : lv.getD i none = some v := by rw [List.getD_eq_getElem?_getD, h]; rfl
  rw [e]
theorem ov_two_c (v : Value) : ov_two (some v) = true ↔ v.category = 2 := by cases v <;> simp [ov_two, Value.category]
theorem ov_cut_len (w : Bool) (r : List (Option Value)) : (ov_cut w r).length = r.length := by
  cases w <;> cases r <;> rfl
theorem ov_ls_len : ∀ (lv : List (Option Value)) (i : Nat) (v : Value), (ov_ls lv i v).length = lv.length
  | [], _, _ => rfl
  | _ :: r, 0, v => by simp [ov_ls, ov_cut_len]
  | o :: r, i + 1, v => by simp [ov_ls, ov_ls_len r i v]
theorem ov_ls_spec : ∀ (lv : List (Option Value)) (i : Nat) (v : Value) (j : Nat) (w : Value), (ov_ls lv i v)[j]? = some (some w) → (j = i ∧ w = v) ∨ (j ≠ i ∧ lv[j]? = some (some w) ∧ (w.category = 2 → j + 1 ≠ i) ∧ (v.category = 2 → j ≠ i + 1))
  | [], i, v, j, w, h => by simp [ov_ls] at h
  | o :: r, 0, v, j, w, h => by
    cases j with
    | zero =>
      simp only [ov_ls, List.getElem?_cons_zero, Option.some.injEq] at h
      exact Or.inl ⟨rfl, h.symm⟩
    | succ j =>
      simp only [ov_ls, List.getElem?_cons_succ] at h
      refine Or.inr ⟨Nat.succ_ne_zero j, ?_⟩
      rw [List.getElem?_cons_succ]
      cases hb : ov_two (some v) with
      | false =>
        rw [hb] at h
        have h : r[j]? = some (some w) := by cases r <;> exact h
        exact ⟨h, fun _ => by omega, fun hc => by rw [(ov_two_c v).mpr hc] at hb; cases hb⟩
      | true =>
        rw [hb] at h
        cases r with
        | nil => simp [ov_cut] at h
        | cons q r' =>
          cases j with
          | zero => simp [ov_cut] at h
          | succ j =>
            have h : r'[j]? = some (some w) := h
            exact ⟨h, fun _ => by omega, fun _ => by omega⟩
  | o :: r, i + 1, v, j, w, h => by
    cases j with
    | zero =>
      simp only [ov_ls, List.getElem?_cons_zero, Option.some.injEq] at h
      refine Or.inr ⟨by omega, ?_, ?_, fun _ => by omega⟩
      · split at h
        · cases h
        · rw [h]; rfl
      · intro hc he
        have hi : i = 0 := by omega
        subst hi
        split at h
        · cases h
        · rename_i hx
          have h2 : o = some w := h
          subst h2
          exact hx rfl ((ov_two_c w).mpr hc)
    | succ j =>
      simp only [ov_ls, List.getElem?_cons_succ] at h
      rw [List.getElem?_cons_succ]
      rcases ov_ls_spec r i v j w h with ⟨h1, h2⟩ | ⟨h1, h2, h3, h4⟩
      · exact Or.inl ⟨by omega, h2⟩
      · exact Or.inr ⟨by omega, h2, fun hc => by have := h3 hc; omega, fun hc => by have := h4 hc; omega⟩
theorem ov_LV.st1 {b h0 nL i : Nat} {ls ls' : Array Slot} {lv : List (Option Value)} {v : Value} (h : ov_LV b h0 ls nL lv) (hs : lv_has ls' nL ((i, ov_cv b h0 v) :: (ov_av b h0 lv).filter (fun q => !(q.1 == i) && !(q.1 + 1 == i && q.2.category == 2)))) : ov_LV b h0 ls' nL (ov_ls lv i v) := by
  refine ⟨hs.1, hs.2.1, by rw [ov_ls_len]; exact h.2.2.1, fun j w hj => ?_⟩
  rcases ov_ls_spec lv i v j w hj with ⟨rfl, rfl⟩ | ⟨h1, h2, h3, h4⟩
  · exact hs.2.2 (j, ov_cv b h0 w) List.mem_cons_self
  · refine hs.2.2 (j, ov_cv b h0 w) (List.mem_cons_of_mem _ (List.mem_filter.mpr ⟨ov_mem_av h2, ?_⟩))
    have e1 : (j == i) = false := by simpa using h1
    show (!(j == i) && !(j + 1 == i && (ov_cv b h0 w).category == 2)) = true
    rw [e1, ov_cat]
    by_cases hc : w.category = 2
    · have e2 : (j + 1 == i) = false := by simpa using h3 hc
      rw [e2]; rfl
    · have e3 : (w.category == 2) = false := by simpa using hc
      rw [e3, Bool.and_false]; rfl
theorem ov_LV.st2 {b h0 nL i : Nat} {ls ls' : Array Slot} {lv : List (Option Value)} {v : Value} (h : ov_LV b h0 ls nL lv) (hv : v.category = 2) (hs : lv_has ls' nL ((i, ov_cv b h0 v) :: (ov_av b h0 lv).filter (fun q => !(q.1 == i) && (!(q.1 == i + 1) && !(q.1 + 1 == i && q.2.category == 2))))) : ov_LV b h0 ls' nL (ov_ls lv i v) := by
  refine ⟨hs.1, hs.2.1, by rw [ov_ls_len]; exact h.2.2.1, fun j w hj => ?_⟩
  rcases ov_ls_spec lv i v j w hj with ⟨rfl, rfl⟩ | ⟨h1, h2, h3, h4⟩
  · exact hs.2.2 (j, ov_cv b h0 w) List.mem_cons_self
  · refine hs.2.2 (j, ov_cv b h0 w) (List.mem_cons_of_mem _ (List.mem_filter.mpr ⟨ov_mem_av h2, ?_⟩))
    have e1 : (j == i) = false := by simpa using h1
    have e4 : (j == i + 1) = false := by simpa using h4 hv
    show (!(j == i) && (!(j == i + 1) && !(j + 1 == i && (ov_cv b h0 w).category == 2))) = true
    rw [e1, e4, ov_cat]
    by_cases hc : w.category = 2
    · have e2 : (j + 1 == i) = false := by simpa using h3 hc
      rw [e2]; rfl
    · have e3 : (w.category == 2) = false := by simpa using hc
      rw [e3, Bool.and_false]; rfl
-- the heap
abbrev ov_G : Type := va_G × Nat × (Nat → Int32)
def ov_KK (D : ov_G) (s : State) : Prop := va_K D.1 ov_cl [] s ∧ va_AO "OnlyEntrances$Stage" s
def ov_cell (D : va_G) (s : State) (a : Nat) (sh : ov_Sh) (f : Nat → Value) (H : Heap) : Prop :=
  (sh.1 = 0 → ∃ r : vw_C, ov_cl[sh.2.1]? = some r ∧ r.2.2 = sh.2.2 ∧ t_OB a (D.1 sh.2.1) sh.2.2 (D.2 sh.2.1) H f) ∧
  (sh.1 ≠ 0 → ∃ cA : ClassId, ArrOfT s cA (ov_aty sh.1) ∧ va_RA s cA (ov_aty sh.1) ∧ H[a]? = some (arrV cA sh.2.2 f)) ∧ (sh.1 = 1 → ∀ j, j < sh.2.2 → ∃ x, f j = .int x)
def ov_HP (D : ov_G) (b h0 : Nat) (s : State) (μ : ov_Mem) (H : Heap) : Prop :=
  H.size + 1 = h0 + μ.1.length ∧ b < h0 ∧ (va_X b D.2.1 D.2.2 s H ∧ ((μ.1[0]? = some (9, 0, D.2.1) ∧ ∀ j, j < D.2.1 → μ.2 0 j = .int (D.2.2 j)) ∨ μ.1[0]? = some (8, 0, 0))) ∧
  ∀ (i : Nat) (sh : ov_Sh), μ.1[i + 1]? = some sh → ov_cell D.1 s (h0 + i) sh (fun k => ov_cv b h0 (μ.2 (i + 1) k)) H
theorem ov_cell.kept {D : va_G} {s : State} {a : Nat} {sh : ov_Sh} {f : Nat → Value} {H H1 : Heap} (h : ov_cell D s a sh f H) (e : H1[a]? = H[a]?) : ov_cell D s a sh f H1 := by
  refine ⟨fun z => ?_, fun z => ?_, h.2.2⟩
  · obtain ⟨r, h1, h2, h3⟩ := h.1 z
    exact ⟨r, h1, h2, h3.kept e⟩
  · obtain ⟨cA, h1, h2, h3⟩ := h.2.1 z
    exact ⟨cA, h1, h2, by rw [e]; exact h3⟩
theorem ov_cell.moved {D : va_G} {u U : State} {a : Nat} {sh : ov_Sh} {f : Nat → Value} {H : Heap} (hvm : u.vm.Alike U.vm) (h : ov_cell D u a sh f H) : ov_cell D U a sh f H := by
  refine ⟨h.1, fun z => ?_, h.2.2⟩
  obtain ⟨cA, h1, h2, h3⟩ := h.2.1 z
  exact ⟨cA, arrOfT_moved hvm h1, h2.moved hvm, h3⟩
theorem ov_HP.moved {D : ov_G} {b h0 : Nat} {u U : State} {μ : ov_Mem} {H : Heap} (hvm : u.vm.Alike U.vm) (h : ov_HP D b h0 u μ H) : ov_HP D b h0 U μ H := by
  obtain ⟨h1, h2, ⟨h5, h3⟩, h6⟩ := h
  exact ⟨h1, h2, ⟨h5.moved hvm, h3⟩, fun i sh hi => (h6 i sh hi).moved hvm⟩
theorem ov_KK.moved {D : ov_G} {u U : State} (hvm : u.vm.Alike U.vm) (h : ov_KK D u) : ov_KK D U := ⟨va_K.moved hvm h.1, va_AO.moved hvm h.2⟩
theorem ov_HP.rp {D : ov_G} {b h0 : Nat} {s : State} {μ : ov_Mem} {H H1 : Heap} {i : Nat} {sh : ov_Sh} {g : Nat → Value} (h : ov_HP D b h0 s μ H) (hi : μ.1[i + 1]? = some sh) (hz : H1.size = H.size) (ho : ∀ q : Nat, q ≠ h0 + i → H1[q]? = H[q]?)
    (hc : ov_cell D.1 s (h0 + i) sh (fun k => ov_cv b h0 (g k)) H1) : ov_HP D b h0 s (ov_rp μ (i + 1) g) H1 := by
  obtain ⟨h1, h2, ⟨h5, h3⟩, h6⟩ := h
  refine ⟨by rw [hz]; exact h1, h2, ⟨h5.kept (ho b (by omega)), ?_⟩, fun k sk hk => ?_⟩
  · rcases h3 with ⟨h3, h4⟩ | h3
    · refine Or.inl ⟨h3, fun j hj => ?_⟩
      show (if 0 = i + 1 then g else μ.2 0) j = _
      rw [if_neg (by omega)]
      exact h4 j hj
    · exact Or.inr h3
  · have hk' : μ.1[k + 1]? = some sk := hk
    by_cases e : k = i
    · subst e
      cases hi.symm.trans hk'
      have e2 : (ov_rp μ (k + 1) g).2 (k + 1) = g := by show (if k + 1 = k + 1 then g else _) = g; rw [if_pos rfl]
      rw [e2]
      exact hc
    · have e2 : (ov_rp μ (i + 1) g).2 (k + 1) = μ.2 (k + 1) := by show (if k + 1 = i + 1 then g else _) = _; rw [if_neg (by omega)]
      rw [e2]
      exact (h6 k sk hk').kept (ho (h0 + k) (by omega))
theorem ov_HP.nw {D : ov_G} {b h0 : Nat} {s : State} {μ : ov_Mem} {H H1 : Heap} {sh : ov_Sh} {g : Nat → Value} (h : ov_HP D b h0 s μ H) (hz : H1.size = H.size + 1) (ho : ∀ q : Nat, q < H.size → H1[q]? = H[q]?)
    (hc : ov_cell D.1 s H.size sh (fun k => ov_cv b h0 (g k)) H1) : ov_HP D b h0 s (ov_nw μ sh g) H1 ∧ ov_ad b h0 μ.1.length = H.size := by
  obtain ⟨h1, h2, ⟨h5, h3⟩, h6⟩ := h
  have hl : 0 < μ.1.length := by
    rcases h3 with ⟨h3, -⟩ | h3 <;> exact (List.getElem?_eq_some_iff.mp h3).1
  obtain ⟨n, hn⟩ : ∃ n, μ.1.length = n + 1 := ⟨μ.1.length - 1, by omega⟩
  have hs : H.size = h0 + n := by omega
  have hb : b < H.size := by omega
  refine ⟨⟨?_, h2, ⟨h5.kept (ho b hb), ?_⟩, fun k sk hk => ?_⟩, by rw [hn]; exact hs.symm⟩
  · show H1.size + 1 = h0 + (μ.1 ++ [sh]).length
    rw [List.length_append]
    simp only [List.length_cons, List.length_nil]
    omega
  · rcases h3 with ⟨h3, h4⟩ | h3
    · refine Or.inl ⟨?_, fun j hj => ?_⟩
      · show (μ.1 ++ [sh])[0]? = _
        rw [List.getElem?_append_left hl]
        exact h3
      · show (if 0 = μ.1.length then g else μ.2 0) j = _
        rw [if_neg (by omega)]
        exact h4 j hj
    · refine Or.inr ?_
      show (μ.1 ++ [sh])[0]? = _
      rw [List.getElem?_append_left hl]
      exact h3
  · have hk' : (μ.1 ++ [sh])[k + 1]? = some sk := hk
    by_cases e : k + 1 < μ.1.length
    · rw [List.getElem?_append_left e] at hk'
      have e2 : (ov_nw μ sh g).2 (k + 1) = μ.2 (k + 1) := by show (if k + 1 = μ.1.length then g else _) = _; rw [if_neg (by omega)]
      rw [e2]
      exact (h6 k sk hk').kept (ho (h0 + k) (by omega))
    · rw [List.getElem?_append_right (by omega)] at hk'
      have hz2 : k + 1 - μ.1.length < 1 := (List.getElem?_eq_some_iff.mp hk').1
      rw [show k + 1 - μ.1.length = 0 by omega] at hk'
      cases hk'
      have e3 : k + 1 = μ.1.length := by omega
      have e2 : (ov_nw μ sh g).2 (k + 1) = g := by show (if k + 1 = μ.1.length then g else _) = _; rw [if_pos e3]
      rw [e2, show h0 + k = H.size by omega]
      exact hc
theorem ov_P1 {D : va_G} {s : State} {a ci n : Nat} {f : Nat → Value} {H : Heap} {r : vw_C} (h : ov_cell D s a (0, ci, n) f H) (hr : ov_cl[ci]? = some r) : va_P D ov_cl [(a, .inr (ci, (List.range r.2.2).map f))] H := by
  intro k q hq
  have hz : k < 1 := (List.getElem?_eq_some_iff.mp hq).1
  rw [show k = 0 by omega] at hq
  cases hq
  obtain ⟨r', h1, h2, h3⟩ := h.1 rfl
  cases hr.symm.trans h1
  refine ⟨r, hr, ?_⟩
  have h2 : r.2.2 = n := h2
  have h3 : t_OB a (D.1 ci) n (D.2 ci) H f := h3
  rw [h2]
  refine t_OB.to h3 fun k hk => ?_
  show f k = ((List.range n).map f).getD k .null
  rw [List.getD_eq_getElem?_getD, List.getElem?_map, List.getElem?_range hk]
  rfl
end
section
-- EACH INSTRUCTION: what the pure machine does, the machine does
def ov_W (p : Program) (l : Launch) (e : Env) (R : Room) (s : State) (m : MethodId) (args : Array Value) (below : List Frame) (meth : Method) (c : Code) (Q : State → Prop) (D : ov_G) (b h0 n0 z0 M : Nat) (x : ov_Cfg) : Prop :=
  ∀ (ls : Array Slot) (H : Heap) (locs : List Loc), ov_LV b h0 ls (ov_mx M) x.2.1 → ov_HP D b h0 s x.2.2.2 H → va_S (fun q => h0 ≤ q) s.heap H locs →
    W p l e R s m args below meth c H locs (x.2.2.2.1.length - n0) (ov_sz x.2.2.2.1 - z0) Q (F0 m x.1 ls (x.2.2.1.map (ov_cv b h0)))
def ov_X (p : Program) (s : State) (m : MethodId) (args : Array Value) (meth : Method) (c : Code) (D : ov_G) (M : Nat) : Prop :=
  p.tables.exec = Jvm.exec ∧ c.code = ov_byt M ∧ c.maxLocals = ov_mx M ∧ s.vm.findClass (ov_nm M).cls = some m.cls ∧ (∀ w ∈ ov_tt, w.before args s = true) ∧ ((ov_nm M).name = "<init>" → meth.name = "<init>") ∧ ov_KK D s
theorem ov_tg_eq {pc t : Nat} {off : Int} (h : ov_tg pc off = some t) : (pc : Int) + off = (t : Int) := by
  unfold ov_tg at h
  split at h
  · cases h
  · cases h
    omega
section ov_S
variable {p : Program} {l : Launch} {e : Env} {R : Room} {s : State} {m : MethodId} {args : Array Value} {below : List Frame} {meth : Method} {c : Code} {Q : State → Prop}
variable {D : ov_G} {b h0 n0 z0 M : Nat} {pc : Nat} {lv : List (Option Value)} {st : List Value} {μ : ov_Mem} {x' : ov_Cfg}
theorem ov_s_iconst (X : ov_X p s m args meth c D M) {k : Int} (hd : decode (ov_byt M) pc = .ok (.iconst k, 1)) (h : some ((pc + 1, lv, .int (Int32.ofInt k) :: st, μ) : ov_Cfg) = some x') (kk : ov_W p l e R s m args below meth c Q D b h0 n0 z0 M x') : ov_W p l e R s m args below meth c Q D b h0 n0 z0 M (pc, lv, st, μ) := by
  cases h
  intro ls H locs hl hH hS
  exact lv_iconst X.1 X.2.1 hd rfl (kk ls H locs hl hH hS)
theorem ov_s_bipush (X : ov_X p s m args meth c D M) {k : Int} (hd : decode (ov_byt M) pc = .ok (.bipush k, 2)) (h : some ((pc + 2, lv, .int (Int8.ofInt k).toInt32 :: st, μ) : ov_Cfg) = some x') (kk : ov_W p l e R s m args below meth c Q D b h0 n0 z0 M x') : ov_W p l e R s m args below meth c Q D b h0 n0 z0 M (pc, lv, st, μ) := by
  cases h
  intro ls H locs hl hH hS
  exact lv_bipush X.1 X.2.1 hd rfl (kk ls H locs hl hH hS)
theorem ov_s_sipush (X : ov_X p s m args meth c D M) {k : Int} (hd : decode (ov_byt M) pc = .ok (.sipush k, 3)) (h : some ((pc + 3, lv, .int (Int16.ofInt k).toInt32 :: st, μ) : ov_Cfg) = some x') (kk : ov_W p l e R s m args below meth c Q D b h0 n0 z0 M x') : ov_W p l e R s m args below meth c Q D b h0 n0 z0 M (pc, lv, st, μ) := by
  cases h
  intro ls H locs hl hH hS
  exact lv_sipush X.1 X.2.1 hd rfl (kk ls H locs hl hH hS)
theorem ov_s_lconst (X : ov_X p s m args meth c D M) {k : Fin 2} (hd : decode (ov_byt M) pc = .ok (.lconst k, 1)) (h : some ((pc + 1, lv, .long (Int64.ofNat (k : Nat)) :: st, μ) : ov_Cfg) = some x') (kk : ov_W p l e R s m args below meth c Q D b h0 n0 z0 M x') : ov_W p l e R s m args below meth c Q D b h0 n0 z0 M (pc, lv, st, μ) := by
  cases h
  intro ls H locs hl hH hS
  exact lv_lconst X.1 X.2.1 hd rfl (kk ls H locs hl hH hS)
theorem ov_s_iload (X : ov_X p s m args meth c D M) {k : Nat} (hd : decode (ov_byt M) pc = .ok (.iload k, 2)) (h : ov_ldI 2 k pc lv st μ = some x') (kk : ov_W p l e R s m args below meth c Q D b h0 n0 z0 M x') : ov_W p l e R s m args below meth c Q D b h0 n0 z0 M (pc, lv, st, μ) := by
  unfold ov_ldI at h
  split at h
  · rename_i x hx
    cases h
    intro ls H locs hl hH hS
    exact lv_iload X.1 X.2.1 hd (hl.get hx) (kk ls H locs hl hH hS)
  · cases h
theorem ov_s_istore (X : ov_X p s m args meth c D M) {k : Nat} (hd : decode (ov_byt M) pc = .ok (.istore k, 2)) (h : ov_stI 2 k pc lv st μ = some x') (kk : ov_W p l e R s m args below meth c Q D b h0 n0 z0 M x') : ov_W p l e R s m args below meth c Q D b h0 n0 z0 M (pc, lv, st, μ) := by
  unfold ov_stI at h
  split at h
  · rename_i x r hb
    cases h
    intro ls H locs hl hH hS
    have hk := Nat.le_of_ble_eq_true hb
    refine lv_istore X.1 X.2.1 hd hl.has (by rw [hl.2.2.1] at hk; omega) rfl (fun ls' hl' => ?_)
    exact kk ls' H locs (hl.st1 (v := .int x) hl') hH hS
  · cases h
theorem ov_s_iload_n (X : ov_X p s m args meth c D M) {k : Fin 4} (hd : decode (ov_byt M) pc = .ok (.iload_n k, 1)) (h : ov_ldI 1 k pc lv st μ = some x') (kk : ov_W p l e R s m args below meth c Q D b h0 n0 z0 M x') : ov_W p l e R s m args below meth c Q D b h0 n0 z0 M (pc, lv, st, μ) := by
  unfold ov_ldI at h
  split at h
  · rename_i x hx
    cases h
    intro ls H locs hl hH hS
    exact lv_iload_n X.1 X.2.1 hd rfl (hl.get hx) (kk ls H locs hl hH hS)
  · cases h
theorem ov_s_istore_n (X : ov_X p s m args meth c D M) {k : Fin 4} (hd : decode (ov_byt M) pc = .ok (.istore_n k, 1)) (h : ov_stI 1 k pc lv st μ = some x') (kk : ov_W p l e R s m args below meth c Q D b h0 n0 z0 M x') : ov_W p l e R s m args below meth c Q D b h0 n0 z0 M (pc, lv, st, μ) := by
  unfold ov_stI at h
  split at h
  · rename_i x r hb
    cases h
    intro ls H locs hl hH hS
    have hk := Nat.le_of_ble_eq_true hb
    refine lv_istore_n X.1 X.2.1 hd rfl hl.has (by rw [hl.2.2.1] at hk; omega) rfl (fun ls' hl' => ?_)
    exact kk ls' H locs (hl.st1 (v := .int x) hl') hH hS
  · cases h
theorem ov_s_lload (X : ov_X p s m args meth c D M) {k : Nat} (hd : decode (ov_byt M) pc = .ok (.lload k, 2)) (h : ov_ldL 2 k pc lv st μ = some x') (kk : ov_W p l e R s m args below meth c Q D b h0 n0 z0 M x') : ov_W p l e R s m args below meth c Q D b h0 n0 z0 M (pc, lv, st, μ) := by
  unfold ov_ldL at h
  split at h
  · rename_i x hx
    cases h
    intro ls H locs hl hH hS
    exact lv_lload X.1 X.2.1 hd (hl.get hx) (kk ls H locs hl hH hS)
  · cases h
theorem ov_s_lstore (X : ov_X p s m args meth c D M) {k : Nat} (hd : decode (ov_byt M) pc = .ok (.lstore k, 2)) (h : ov_stL 2 k pc lv st μ = some x') (kk : ov_W p l e R s m args below meth c Q D b h0 n0 z0 M x') : ov_W p l e R s m args below meth c Q D b h0 n0 z0 M (pc, lv, st, μ) := by
  unfold ov_stL at h
  split at h
  · rename_i x r hb
    cases h
    intro ls H locs hl hH hS
    have hk := Nat.le_of_ble_eq_true hb
    refine lv_lstore X.1 X.2.1 hd hl.has (by rw [hl.2.2.1] at hk; omega) rfl (fun ls' hl' => ?_)
    exact kk ls' H locs (hl.st2 (v := .long x) rfl hl') hH hS
  · cases h
theorem ov_s_lload_n (X : ov_X p s m args meth c D M) {k : Fin 4} (hd : decode (ov_byt M) pc = .ok (.lload_n k, 1)) (h : ov_ldL 1 k pc lv st μ = some x') (kk : ov_W p l e R s m args below meth c Q D b h0 n0 z0 M x') : ov_W p l e R s m args below meth c Q D b h0 n0 z0 M (pc, lv, st, μ) := by
  unfold ov_ldL at h
  split at h
  · rename_i x hx
    cases h
    intro ls H locs hl hH hS
    exact lv_lload_n X.1 X.2.1 hd rfl (hl.get hx) (kk ls H locs hl hH hS)
  · cases h
theorem ov_s_lstore_n (X : ov_X p s m args meth c D M) {k : Fin 4} (hd : decode (ov_byt M) pc = .ok (.lstore_n k, 1)) (h : ov_stL 1 k pc lv st μ = some x') (kk : ov_W p l e R s m args below meth c Q D b h0 n0 z0 M x') : ov_W p l e R s m args below meth c Q D b h0 n0 z0 M (pc, lv, st, μ) := by
  unfold ov_stL at h
  split at h
  · rename_i x r hb
    cases h
    intro ls H locs hl hH hS
    have hk := Nat.le_of_ble_eq_true hb
    refine lv_lstore_n X.1 X.2.1 hd rfl hl.has (by rw [hl.2.2.1] at hk; omega) rfl (fun ls' hl' => ?_)
    exact kk ls' H locs (hl.st2 (v := .long x) rfl hl') hH hS
  · cases h
theorem ov_s_aload (X : ov_X p s m args meth c D M) {k : Nat} (hd : decode (ov_byt M) pc = .ok (.aload k, 2)) (h : ov_ldA 2 k pc lv st μ = some x') (kk : ov_W p l e R s m args below meth c Q D b h0 n0 z0 M x') : ov_W p l e R s m args below meth c Q D b h0 n0 z0 M (pc, lv, st, μ) := by
  unfold ov_ldA at h
  split at h
  · rename_i x hx
    cases h
    intro ls H locs hl hH hS
    exact lv_aload X.1 X.2.1 hd (hl.get hx) (kk ls H locs hl hH hS)
  · cases h
theorem ov_s_astore (X : ov_X p s m args meth c D M) {k : Nat} (hd : decode (ov_byt M) pc = .ok (.astore k, 2)) (h : ov_stA 2 k pc lv st μ = some x') (kk : ov_W p l e R s m args below meth c Q D b h0 n0 z0 M x') : ov_W p l e R s m args below meth c Q D b h0 n0 z0 M (pc, lv, st, μ) := by
  unfold ov_stA at h
  split at h
  · rename_i x r hb
    cases h
    intro ls H locs hl hH hS
    have hk := Nat.le_of_ble_eq_true hb
    refine lv_astore X.1 X.2.1 hd hl.has (by rw [hl.2.2.1] at hk; omega) rfl (fun ls' hl' => ?_)
    exact kk ls' H locs (hl.st1 (v := .ref x) hl') hH hS
  · cases h
theorem ov_s_aload_n (X : ov_X p s m args meth c D M) {k : Fin 4} (hd : decode (ov_byt M) pc = .ok (.aload_n k, 1)) (h : ov_ldA 1 k pc lv st μ = some x') (kk : ov_W p l e R s m args below meth c Q D b h0 n0 z0 M x') : ov_W p l e R s m args below meth c Q D b h0 n0 z0 M (pc, lv, st, μ) := by
  unfold ov_ldA at h
  split at h
  · rename_i x hx
    cases h
    intro ls H locs hl hH hS
    exact lv_aload_n X.1 X.2.1 hd rfl (hl.get hx) (kk ls H locs hl hH hS)
  · cases h
theorem ov_s_astore_n (X : ov_X p s m args meth c D M) {k : Fin 4} (hd : decode (ov_byt M) pc = .ok (.astore_n k, 1)) (h : ov_stA 1 k pc lv st μ = some x') (kk : ov_W p l e R s m args below meth c Q D b h0 n0 z0 M x') : ov_W p l e R s m args below meth c Q D b h0 n0 z0 M (pc, lv, st, μ) := by
  unfold ov_stA at h
  split at h
  · rename_i x r hb
    cases h
    intro ls H locs hl hH hS
    have hk := Nat.le_of_ble_eq_true hb
    refine lv_astore_n X.1 X.2.1 hd rfl hl.has (by rw [hl.2.2.1] at hk; omega) rfl (fun ls' hl' => ?_)
    exact kk ls' H locs (hl.st1 (v := .ref x) hl') hH hS
  · cases h
theorem ov_s_iinc (X : ov_X p s m args meth c D M) {k : Nat} {n : Int} (hd : decode (ov_byt M) pc = .ok (.iinc k n, 3)) (h : ov_inc k n pc lv st μ = some x') (kk : ov_W p l e R s m args below meth c Q D b h0 n0 z0 M x') : ov_W p l e R s m args below meth c Q D b h0 n0 z0 M (pc, lv, st, μ) := by
  unfold ov_inc at h
  split at h
  · rename_i x hx
    cases h
    intro ls H locs hl hH hS
    obtain ⟨q, hq⟩ := List.getElem?_of_mem (ov_mem_av (b := b) (h0 := h0) (ov_getD hx))
    have hlt : k < lv.length := (List.getElem?_eq_some_iff.mp (ov_getD hx)).1
    refine lv_iinc X.1 X.2.1 hd hl.has (k := q) hq rfl (by rw [hl.2.2.1] at hlt; omega) rfl (fun ls' hl' => ?_)
    exact kk ls' H locs (hl.st1 (v := .int (x + Int32.ofInt n)) hl') hH hS
  · cases h
theorem ov_s_iadd (X : ov_X p s m args meth c D M) (hd : decode (ov_byt M) pc = .ok (.iadd, 1)) (h : ov_ii (fun x y => x + y) pc lv st μ = some x') (kk : ov_W p l e R s m args below meth c Q D b h0 n0 z0 M x') : ov_W p l e R s m args below meth c Q D b h0 n0 z0 M (pc, lv, st, μ) := by
  unfold ov_ii at h
  split at h
  · cases h
    intro ls H locs hl hH hS
    exact lv_iadd X.1 X.2.1 hd (kk ls H locs hl hH hS)
  · cases h
theorem ov_s_isub (X : ov_X p s m args meth c D M) (hd : decode (ov_byt M) pc = .ok (.isub, 1)) (h : ov_ii (fun x y => x - y) pc lv st μ = some x') (kk : ov_W p l e R s m args below meth c Q D b h0 n0 z0 M x') : ov_W p l e R s m args below meth c Q D b h0 n0 z0 M (pc, lv, st, μ) := by
  unfold ov_ii at h
  split at h
  · cases h
    intro ls H locs hl hH hS
    exact lv_isub X.1 X.2.1 hd (kk ls H locs hl hH hS)
  · cases h
theorem ov_s_imul (X : ov_X p s m args meth c D M) (hd : decode (ov_byt M) pc = .ok (.imul, 1)) (h : ov_ii (fun x y => x * y) pc lv st μ = some x') (kk : ov_W p l e R s m args below meth c Q D b h0 n0 z0 M x') : ov_W p l e R s m args below meth c Q D b h0 n0 z0 M (pc, lv, st, μ) := by
  unfold ov_ii at h
  split at h
  · cases h
    intro ls H locs hl hH hS
    exact lv_imul X.1 X.2.1 hd (kk ls H locs hl hH hS)
  · cases h
theorem ov_s_iand (X : ov_X p s m args meth c D M) (hd : decode (ov_byt M) pc = .ok (.iand, 1)) (h : ov_ii (fun x y => x &&& y) pc lv st μ = some x') (kk : ov_W p l e R s m args below meth c Q D b h0 n0 z0 M x') : ov_W p l e R s m args below meth c Q D b h0 n0 z0 M (pc, lv, st, μ) := by
  unfold ov_ii at h
  split at h
  · cases h
    intro ls H locs hl hH hS
    exact lv_iand X.1 X.2.1 hd (kk ls H locs hl hH hS)
  · cases h
theorem ov_s_ior (X : ov_X p s m args meth c D M) (hd : decode (ov_byt M) pc = .ok (.ior, 1)) (h : ov_ii (fun x y => x ||| y) pc lv st μ = some x') (kk : ov_W p l e R s m args below meth c Q D b h0 n0 z0 M x') : ov_W p l e R s m args below meth c Q D b h0 n0 z0 M (pc, lv, st, μ) := by
  unfold ov_ii at h
  split at h
  · cases h
    intro ls H locs hl hH hS
    exact lv_ior X.1 X.2.1 hd (kk ls H locs hl hH hS)
  · cases h
theorem ov_s_ixor (X : ov_X p s m args meth c D M) (hd : decode (ov_byt M) pc = .ok (.ixor, 1)) (h : ov_ii (fun x y => x ^^^ y) pc lv st μ = some x') (kk : ov_W p l e R s m args below meth c Q D b h0 n0 z0 M x') : ov_W p l e R s m args below meth c Q D b h0 n0 z0 M (pc, lv, st, μ) := by
  unfold ov_ii at h
  split at h
  · cases h
    intro ls H locs hl hH hS
    exact lv_ixor X.1 X.2.1 hd (kk ls H locs hl hH hS)
  · cases h
theorem ov_s_ishl (X : ov_X p s m args meth c D M) (hd : decode (ov_byt M) pc = .ok (.ishl, 1)) (h : ov_ii (fun x y => x <<< (y &&& 31)) pc lv st μ = some x') (kk : ov_W p l e R s m args below meth c Q D b h0 n0 z0 M x') : ov_W p l e R s m args below meth c Q D b h0 n0 z0 M (pc, lv, st, μ) := by
  unfold ov_ii at h
  split at h
  · cases h
    intro ls H locs hl hH hS
    exact lv_ishl X.1 X.2.1 hd (kk ls H locs hl hH hS)
  · cases h
theorem ov_s_ishr (X : ov_X p s m args meth c D M) (hd : decode (ov_byt M) pc = .ok (.ishr, 1)) (h : ov_ii (fun x y => x >>> (y &&& 31)) pc lv st μ = some x') (kk : ov_W p l e R s m args below meth c Q D b h0 n0 z0 M x') : ov_W p l e R s m args below meth c Q D b h0 n0 z0 M (pc, lv, st, μ) := by
  unfold ov_ii at h
  split at h
  · cases h
    intro ls H locs hl hH hS
    exact lv_ishr X.1 X.2.1 hd (kk ls H locs hl hH hS)
  · cases h
theorem ov_s_iushr (X : ov_X p s m args meth c D M) (hd : decode (ov_byt M) pc = .ok (.iushr, 1)) (h : ov_ii (fun x y => (x.toUInt32 >>> (y.toUInt32 &&& Int32.toUInt32 31)).toInt32) pc lv st μ = some x') (kk : ov_W p l e R s m args below meth c Q D b h0 n0 z0 M x') : ov_W p l e R s m args below meth c Q D b h0 n0 z0 M (pc, lv, st, μ) := by
  unfold ov_ii at h
  split at h
  · cases h
    intro ls H locs hl hH hS
    exact lv_iushr X.1 X.2.1 hd rfl (kk ls H locs hl hH hS)
  · cases h
theorem ov_s_ladd (X : ov_X p s m args meth c D M) (hd : decode (ov_byt M) pc = .ok (.ladd, 1)) (h : ov_ll (fun x y => x + y) pc lv st μ = some x') (kk : ov_W p l e R s m args below meth c Q D b h0 n0 z0 M x') : ov_W p l e R s m args below meth c Q D b h0 n0 z0 M (pc, lv, st, μ) := by
  unfold ov_ll at h
  split at h
  · cases h
    intro ls H locs hl hH hS
    exact lv_ladd X.1 X.2.1 hd (kk ls H locs hl hH hS)
  · cases h
theorem ov_s_lsub (X : ov_X p s m args meth c D M) (hd : decode (ov_byt M) pc = .ok (.lsub, 1)) (h : ov_ll (fun x y => x - y) pc lv st μ = some x') (kk : ov_W p l e R s m args below meth c Q D b h0 n0 z0 M x') : ov_W p l e R s m args below meth c Q D b h0 n0 z0 M (pc, lv, st, μ) := by
  unfold ov_ll at h
  split at h
  · cases h
    intro ls H locs hl hH hS
    exact lv_lsub X.1 X.2.1 hd (kk ls H locs hl hH hS)
  · cases h
theorem ov_s_lmul (X : ov_X p s m args meth c D M) (hd : decode (ov_byt M) pc = .ok (.lmul, 1)) (h : ov_ll (fun x y => x * y) pc lv st μ = some x') (kk : ov_W p l e R s m args below meth c Q D b h0 n0 z0 M x') : ov_W p l e R s m args below meth c Q D b h0 n0 z0 M (pc, lv, st, μ) := by
  unfold ov_ll at h
  split at h
  · cases h
    intro ls H locs hl hH hS
    exact lv_lmul X.1 X.2.1 hd (kk ls H locs hl hH hS)
  · cases h
theorem ov_s_land (X : ov_X p s m args meth c D M) (hd : decode (ov_byt M) pc = .ok (.land, 1)) (h : ov_ll (fun x y => x &&& y) pc lv st μ = some x') (kk : ov_W p l e R s m args below meth c Q D b h0 n0 z0 M x') : ov_W p l e R s m args below meth c Q D b h0 n0 z0 M (pc, lv, st, μ) := by
  unfold ov_ll at h
  split at h
  · cases h
    intro ls H locs hl hH hS
    exact lv_land X.1 X.2.1 hd (kk ls H locs hl hH hS)
  · cases h
theorem ov_s_lor (X : ov_X p s m args meth c D M) (hd : decode (ov_byt M) pc = .ok (.lor, 1)) (h : ov_ll (fun x y => x ||| y) pc lv st μ = some x') (kk : ov_W p l e R s m args below meth c Q D b h0 n0 z0 M x') : ov_W p l e R s m args below meth c Q D b h0 n0 z0 M (pc, lv, st, μ) := by
  unfold ov_ll at h
  split at h
  · cases h
    intro ls H locs hl hH hS
    exact lv_lor X.1 X.2.1 hd (kk ls H locs hl hH hS)
  · cases h
theorem ov_s_ineg (X : ov_X p s m args meth c D M) (hd : decode (ov_byt M) pc = .ok (.ineg, 1)) (h : ov_i1 (fun x => .int (-x)) pc lv st μ = some x') (kk : ov_W p l e R s m args below meth c Q D b h0 n0 z0 M x') : ov_W p l e R s m args below meth c Q D b h0 n0 z0 M (pc, lv, st, μ) := by
  unfold ov_i1 at h
  split at h
  · cases h
    intro ls H locs hl hH hS
    exact lv_ineg X.1 X.2.1 hd (kk ls H locs hl hH hS)
  · cases h
theorem ov_s_lneg (X : ov_X p s m args meth c D M) (hd : decode (ov_byt M) pc = .ok (.lneg, 1)) (h : ov_l1 (fun x => .long (-x)) pc lv st μ = some x') (kk : ov_W p l e R s m args below meth c Q D b h0 n0 z0 M x') : ov_W p l e R s m args below meth c Q D b h0 n0 z0 M (pc, lv, st, μ) := by
  unfold ov_l1 at h
  split at h
  · cases h
    intro ls H locs hl hH hS
    exact lv_lneg X.1 X.2.1 hd (kk ls H locs hl hH hS)
  · cases h
theorem ov_s_i2l (X : ov_X p s m args meth c D M) (hd : decode (ov_byt M) pc = .ok (.i2l, 1)) (h : ov_i1 (fun x => .long x.toInt64) pc lv st μ = some x') (kk : ov_W p l e R s m args below meth c Q D b h0 n0 z0 M x') : ov_W p l e R s m args below meth c Q D b h0 n0 z0 M (pc, lv, st, μ) := by
  unfold ov_i1 at h
  split at h
  · cases h
    intro ls H locs hl hH hS
    exact lv_i2l X.1 X.2.1 hd rfl (kk ls H locs hl hH hS)
  · cases h
theorem ov_s_l2i (X : ov_X p s m args meth c D M) (hd : decode (ov_byt M) pc = .ok (.l2i, 1)) (h : ov_l1 (fun x => .int x.toInt32) pc lv st μ = some x') (kk : ov_W p l e R s m args below meth c Q D b h0 n0 z0 M x') : ov_W p l e R s m args below meth c Q D b h0 n0 z0 M (pc, lv, st, μ) := by
  unfold ov_l1 at h
  split at h
  · cases h
    intro ls H locs hl hH hS
    exact lv_l2i X.1 X.2.1 hd rfl (kk ls H locs hl hH hS)
  · cases h
theorem ov_s_lshl (X : ov_X p s m args meth c D M) (hd : decode (ov_byt M) pc = .ok (.lshl, 1)) (h : ov_li (fun x y => x <<< (y.toInt64 &&& 63)) pc lv st μ = some x') (kk : ov_W p l e R s m args below meth c Q D b h0 n0 z0 M x') : ov_W p l e R s m args below meth c Q D b h0 n0 z0 M (pc, lv, st, μ) := by
  unfold ov_li at h
  split at h
  · cases h
    intro ls H locs hl hH hS
    exact lv_lshl X.1 X.2.1 hd rfl (kk ls H locs hl hH hS)
  · cases h
theorem ov_s_lushr (X : ov_X p s m args meth c D M) (hd : decode (ov_byt M) pc = .ok (.lushr, 1)) (h : ov_li (fun x y => (x.toUInt64 >>> (y.toInt64.toUInt64 &&& Int64.toUInt64 63)).toInt64) pc lv st μ = some x') (kk : ov_W p l e R s m args below meth c Q D b h0 n0 z0 M x') : ov_W p l e R s m args below meth c Q D b h0 n0 z0 M (pc, lv, st, μ) := by
  unfold ov_li at h
  split at h
  · cases h
    intro ls H locs hl hH hS
    exact lv_lushr X.1 X.2.1 hd rfl (kk ls H locs hl hH hS)
  · cases h
theorem ov_s_lcmp (X : ov_X p s m args meth c D M) (hd : decode (ov_byt M) pc = .ok (.lcmp, 1)) (h : ov_cm pc lv st μ = some x') (kk : ov_W p l e R s m args below meth c Q D b h0 n0 z0 M x') : ov_W p l e R s m args below meth c Q D b h0 n0 z0 M (pc, lv, st, μ) := by
  unfold ov_cm at h
  split at h
  · cases h
    intro ls H locs hl hH hS
    exact W.lcmp X.1 X.2.1 hd (kk ls H locs hl hH hS)
  · cases h
theorem ov_s_idiv (X : ov_X p s m args meth c D M) (hd : decode (ov_byt M) pc = .ok (.idiv, 1)) (h : ov_iz (fun x y => x / y) pc lv st μ = some x') (kk : ov_W p l e R s m args below meth c Q D b h0 n0 z0 M x') : ov_W p l e R s m args below meth c Q D b h0 n0 z0 M (pc, lv, st, μ) := by
  unfold ov_iz at h
  split at h
  · split at h
    · cases h
    · rename_i hne
      cases h
      intro ls H locs hl hH hS
      exact lv_idiv X.1 X.2.1 hd hne (kk ls H locs hl hH hS)
  · cases h
theorem ov_s_irem (X : ov_X p s m args meth c D M) (hd : decode (ov_byt M) pc = .ok (.irem, 1)) (h : ov_iz (fun x y => x - x / y * y) pc lv st μ = some x') (kk : ov_W p l e R s m args below meth c Q D b h0 n0 z0 M x') : ov_W p l e R s m args below meth c Q D b h0 n0 z0 M (pc, lv, st, μ) := by
  unfold ov_iz at h
  split at h
  · split at h
    · cases h
    · rename_i hne
      cases h
      intro ls H locs hl hH hS
      exact lv_irem X.1 X.2.1 hd hne (kk ls H locs hl hH hS)
  · cases h
theorem ov_s_ldiv (X : ov_X p s m args meth c D M) (hd : decode (ov_byt M) pc = .ok (.ldiv, 1)) (h : ov_lz (fun x y => x / y) pc lv st μ = some x') (kk : ov_W p l e R s m args below meth c Q D b h0 n0 z0 M x') : ov_W p l e R s m args below meth c Q D b h0 n0 z0 M (pc, lv, st, μ) := by
  unfold ov_lz at h
  split at h
  · split at h
    · cases h
    · rename_i hne
      cases h
      intro ls H locs hl hH hS
      exact lv_ldiv X.1 X.2.1 hd hne (kk ls H locs hl hH hS)
  · cases h
theorem ov_s_lrem (X : ov_X p s m args meth c D M) (hd : decode (ov_byt M) pc = .ok (.lrem, 1)) (h : ov_lz (fun x y => x - x / y * y) pc lv st μ = some x') (kk : ov_W p l e R s m args below meth c Q D b h0 n0 z0 M x') : ov_W p l e R s m args below meth c Q D b h0 n0 z0 M (pc, lv, st, μ) := by
  unfold ov_lz at h
  split at h
  · split at h
    · cases h
    · rename_i hne
      cases h
      intro ls H locs hl hH hS
      exact lv_lrem X.1 X.2.1 hd hne (kk ls H locs hl hH hS)
  · cases h
theorem ov_s_dup (X : ov_X p s m args meth c D M) (hd : decode (ov_byt M) pc = .ok (.dup, 1)) (h : ov_dup pc lv st μ = some x') (kk : ov_W p l e R s m args below meth c Q D b h0 n0 z0 M x') : ov_W p l e R s m args below meth c Q D b h0 n0 z0 M (pc, lv, st, μ) := by
  unfold ov_dup at h
  split at h
  · split at h
    · rename_i hc
      cases h
      intro ls H locs hl hH hS
      exact lv_dup X.1 X.2.1 hd (by rw [ov_cat]; exact hc) (kk ls H locs hl hH hS)
    · cases h
  · cases h
theorem ov_s_pop (X : ov_X p s m args meth c D M) (hd : decode (ov_byt M) pc = .ok (.pop, 1)) (h : ov_pop pc lv st μ = some x') (kk : ov_W p l e R s m args below meth c Q D b h0 n0 z0 M x') : ov_W p l e R s m args below meth c Q D b h0 n0 z0 M (pc, lv, st, μ) := by
  unfold ov_pop at h
  split at h
  · split at h
    · rename_i hc
      cases h
      intro ls H locs hl hH hS
      exact lv_pop X.1 X.2.1 hd (by rw [ov_cat]; exact hc) (kk ls H locs hl hH hS)
    · cases h
  · cases h
theorem ov_s_dup2 (X : ov_X p s m args meth c D M) (hd : decode (ov_byt M) pc = .ok (.dup2, 1)) (h : ov_dup2 pc lv st μ = some x') (kk : ov_W p l e R s m args below meth c Q D b h0 n0 z0 M x') : ov_W p l e R s m args below meth c Q D b h0 n0 z0 M (pc, lv, st, μ) := by
  unfold ov_dup2 at h
  split at h
  · split at h
    · rename_i hc
      split at h
      · rename_i hc2
        cases h
        intro ls H locs hl hH hS
        exact lv_dup2_11 X.1 X.2.1 hd (by rw [ov_cat]; exact hc) (by rw [ov_cat]; exact hc2) (kk ls H locs hl hH hS)
      · cases h
    · cases h
  · cases h
theorem ov_s_if_eq (X : ov_X p s m args meth c D M) {off : Int} (hd : decode (ov_byt M) pc = .ok (.ifCond .eq off, 3)) (h : ov_if (fun x => ov_cc .eq x 0) off pc lv st μ = some x') (kk : ov_W p l e R s m args below meth c Q D b h0 n0 z0 M x') : ov_W p l e R s m args below meth c Q D b h0 n0 z0 M (pc, lv, st, μ) := by
  unfold ov_if at h
  split at h
  · rename_i x r t ht
    cases h
    intro ls H locs hl hH hS
    refine lv_if_eq X.1 X.2.1 hd (ov_tg_eq ht) (fun hq => ?_) (fun hq => ?_)
    · have e : ov_cc .eq x 0 = true := by simp [ov_cc, hq]
      have k2 := kk ls H locs hl hH hS
      simp only [e, cond_true] at k2
      exact k2
    · have e : ov_cc .eq x 0 = false := by simp [ov_cc, hq]
      have k2 := kk ls H locs hl hH hS
      simp only [e, cond_false] at k2
      exact k2
  · cases h
theorem ov_s_icmp_eq (X : ov_X p s m args meth c D M) {off : Int} (hd : decode (ov_byt M) pc = .ok (.if_icmp .eq off, 3)) (h : ov_cmp (fun x y => ov_cc .eq x y) off pc lv st μ = some x') (kk : ov_W p l e R s m args below meth c Q D b h0 n0 z0 M x') : ov_W p l e R s m args below meth c Q D b h0 n0 z0 M (pc, lv, st, μ) := by
  unfold ov_cmp at h
  split at h
  · rename_i y x r t ht
    cases h
    intro ls H locs hl hH hS
    refine lv_icmp_eq X.1 X.2.1 hd (ov_tg_eq ht) (fun hq => ?_) (fun hq => ?_)
    · have e : ov_cc .eq x y = true := by simp [ov_cc, hq]
      have k2 := kk ls H locs hl hH hS
      simp only [e, cond_true] at k2
      exact k2
    · have e : ov_cc .eq x y = false := by simp [ov_cc, hq]
      have k2 := kk ls H locs hl hH hS
      simp only [e, cond_false] at k2
      exact k2
  · cases h
theorem ov_s_if_ne (X : ov_X p s m args meth c D M) {off : Int} (hd : decode (ov_byt M) pc = .ok (.ifCond .ne off, 3)) (h : ov_if (fun x => ov_cc .ne x 0) off pc lv st μ = some x') (kk : ov_W p l e R s m args below meth c Q D b h0 n0 z0 M x') : ov_W p l e R s m args below meth c Q D b h0 n0 z0 M (pc, lv, st, μ) := by
  unfold ov_if at h
  split at h
  · rename_i x r t ht
    cases h
    intro ls H locs hl hH hS
    refine lv_if_ne X.1 X.2.1 hd (ov_tg_eq ht) (fun hq => ?_) (fun hq => ?_)
    · have e : ov_cc .ne x 0 = true := by simp [ov_cc, hq]
      have k2 := kk ls H locs hl hH hS
      simp only [e, cond_true] at k2
      exact k2
    · have e : ov_cc .ne x 0 = false := by simp [ov_cc, hq]
      have k2 := kk ls H locs hl hH hS
      simp only [e, cond_false] at k2
      exact k2
  · cases h
theorem ov_s_icmp_ne (X : ov_X p s m args meth c D M) {off : Int} (hd : decode (ov_byt M) pc = .ok (.if_icmp .ne off, 3)) (h : ov_cmp (fun x y => ov_cc .ne x y) off pc lv st μ = some x') (kk : ov_W p l e R s m args below meth c Q D b h0 n0 z0 M x') : ov_W p l e R s m args below meth c Q D b h0 n0 z0 M (pc, lv, st, μ) := by
  unfold ov_cmp at h
  split at h
  · rename_i y x r t ht
    cases h
    intro ls H locs hl hH hS
    refine lv_icmp_ne X.1 X.2.1 hd (ov_tg_eq ht) (fun hq => ?_) (fun hq => ?_)
    · have e : ov_cc .ne x y = true := by simp [ov_cc, hq]
      have k2 := kk ls H locs hl hH hS
      simp only [e, cond_true] at k2
      exact k2
    · have e : ov_cc .ne x y = false := by simp [ov_cc, hq]
      have k2 := kk ls H locs hl hH hS
      simp only [e, cond_false] at k2
      exact k2
  · cases h
theorem ov_s_if_lt (X : ov_X p s m args meth c D M) {off : Int} (hd : decode (ov_byt M) pc = .ok (.ifCond .lt off, 3)) (h : ov_if (fun x => ov_cc .lt x 0) off pc lv st μ = some x') (kk : ov_W p l e R s m args below meth c Q D b h0 n0 z0 M x') : ov_W p l e R s m args below meth c Q D b h0 n0 z0 M (pc, lv, st, μ) := by
  unfold ov_if at h
  split at h
  · rename_i x r t ht
    cases h
    intro ls H locs hl hH hS
    refine lv_if_lt X.1 X.2.1 hd (ov_tg_eq ht) (fun hq => ?_) (fun hq => ?_)
    · have e : ov_cc .lt x 0 = true := by simp [ov_cc, hq]
      have k2 := kk ls H locs hl hH hS
      simp only [e, cond_true] at k2
      exact k2
    · have e : ov_cc .lt x 0 = false := by simp [ov_cc, hq]
      have k2 := kk ls H locs hl hH hS
      simp only [e, cond_false] at k2
      exact k2
  · cases h
theorem ov_s_icmp_lt (X : ov_X p s m args meth c D M) {off : Int} (hd : decode (ov_byt M) pc = .ok (.if_icmp .lt off, 3)) (h : ov_cmp (fun x y => ov_cc .lt x y) off pc lv st μ = some x') (kk : ov_W p l e R s m args below meth c Q D b h0 n0 z0 M x') : ov_W p l e R s m args below meth c Q D b h0 n0 z0 M (pc, lv, st, μ) := by
  unfold ov_cmp at h
  split at h
  · rename_i y x r t ht
    cases h
    intro ls H locs hl hH hS
    refine lv_icmp_lt X.1 X.2.1 hd (ov_tg_eq ht) (fun hq => ?_) (fun hq => ?_)
    · have e : ov_cc .lt x y = true := by simp [ov_cc, hq]
      have k2 := kk ls H locs hl hH hS
      simp only [e, cond_true] at k2
      exact k2
    · have e : ov_cc .lt x y = false := by simp [ov_cc, hq]
      have k2 := kk ls H locs hl hH hS
      simp only [e, cond_false] at k2
      exact k2
  · cases h
theorem ov_s_if_ge (X : ov_X p s m args meth c D M) {off : Int} (hd : decode (ov_byt M) pc = .ok (.ifCond .ge off, 3)) (h : ov_if (fun x => ov_cc .ge x 0) off pc lv st μ = some x') (kk : ov_W p l e R s m args below meth c Q D b h0 n0 z0 M x') : ov_W p l e R s m args below meth c Q D b h0 n0 z0 M (pc, lv, st, μ) := by
  unfold ov_if at h
  split at h
  · rename_i x r t ht
    cases h
    intro ls H locs hl hH hS
    refine lv_if_ge X.1 X.2.1 hd (ov_tg_eq ht) (fun hq => ?_) (fun hq => ?_)
    · have e : ov_cc .ge x 0 = true := by simp [ov_cc, hq]
      have k2 := kk ls H locs hl hH hS
      simp only [e, cond_true] at k2
      exact k2
    · have e : ov_cc .ge x 0 = false := by simp [ov_cc, hq]
      have k2 := kk ls H locs hl hH hS
      simp only [e, cond_false] at k2
      exact k2
  · cases h
theorem ov_s_icmp_ge (X : ov_X p s m args meth c D M) {off : Int} (hd : decode (ov_byt M) pc = .ok (.if_icmp .ge off, 3)) (h : ov_cmp (fun x y => ov_cc .ge x y) off pc lv st μ = some x') (kk : ov_W p l e R s m args below meth c Q D b h0 n0 z0 M x') : ov_W p l e R s m args below meth c Q D b h0 n0 z0 M (pc, lv, st, μ) := by
  unfold ov_cmp at h
  split at h
  · rename_i y x r t ht
    cases h
    intro ls H locs hl hH hS
    refine lv_icmp_ge X.1 X.2.1 hd (ov_tg_eq ht) (fun hq => ?_) (fun hq => ?_)
    · have e : ov_cc .ge x y = true := by simp [ov_cc, hq]
      have k2 := kk ls H locs hl hH hS
      simp only [e, cond_true] at k2
      exact k2
    · have e : ov_cc .ge x y = false := by simp [ov_cc, hq]
      have k2 := kk ls H locs hl hH hS
      simp only [e, cond_false] at k2
      exact k2
  · cases h
theorem ov_s_if_gt (X : ov_X p s m args meth c D M) {off : Int} (hd : decode (ov_byt M) pc = .ok (.ifCond .gt off, 3)) (h : ov_if (fun x => ov_cc .gt x 0) off pc lv st μ = some x') (kk : ov_W p l e R s m args below meth c Q D b h0 n0 z0 M x') : ov_W p l e R s m args below meth c Q D b h0 n0 z0 M (pc, lv, st, μ) := by
  unfold ov_if at h
  split at h
  · rename_i x r t ht
    cases h
    intro ls H locs hl hH hS
    refine lv_if_gt X.1 X.2.1 hd (ov_tg_eq ht) (fun hq => ?_) (fun hq => ?_)
    · have e : ov_cc .gt x 0 = true := by simp [ov_cc, hq]
      have k2 := kk ls H locs hl hH hS
      simp only [e, cond_true] at k2
      exact k2
    · have e : ov_cc .gt x 0 = false := by simp [ov_cc, hq]
      have k2 := kk ls H locs hl hH hS
      simp only [e, cond_false] at k2
      exact k2
  · cases h
theorem ov_s_icmp_gt (X : ov_X p s m args meth c D M) {off : Int} (hd : decode (ov_byt M) pc = .ok (.if_icmp .gt off, 3)) (h : ov_cmp (fun x y => ov_cc .gt x y) off pc lv st μ = some x') (kk : ov_W p l e R s m args below meth c Q D b h0 n0 z0 M x') : ov_W p l e R s m args below meth c Q D b h0 n0 z0 M (pc, lv, st, μ) := by
  unfold ov_cmp at h
  split at h
  · rename_i y x r t ht
    cases h
    intro ls H locs hl hH hS
    refine lv_icmp_gt X.1 X.2.1 hd (ov_tg_eq ht) (fun hq => ?_) (fun hq => ?_)
    · have e : ov_cc .gt x y = true := by simp [ov_cc, hq]
      have k2 := kk ls H locs hl hH hS
      simp only [e, cond_true] at k2
      exact k2
    · have e : ov_cc .gt x y = false := by simp [ov_cc, hq]
      have k2 := kk ls H locs hl hH hS
      simp only [e, cond_false] at k2
      exact k2
  · cases h
theorem ov_s_if_le (X : ov_X p s m args meth c D M) {off : Int} (hd : decode (ov_byt M) pc = .ok (.ifCond .le off, 3)) (h : ov_if (fun x => ov_cc .le x 0) off pc lv st μ = some x') (kk : ov_W p l e R s m args below meth c Q D b h0 n0 z0 M x') : ov_W p l e R s m args below meth c Q D b h0 n0 z0 M (pc, lv, st, μ) := by
  unfold ov_if at h
  split at h
  · rename_i x r t ht
    cases h
    intro ls H locs hl hH hS
    refine lv_if_le X.1 X.2.1 hd (ov_tg_eq ht) (fun hq => ?_) (fun hq => ?_)
    · have e : ov_cc .le x 0 = true := by simp [ov_cc, hq]
      have k2 := kk ls H locs hl hH hS
      simp only [e, cond_true] at k2
      exact k2
    · have e : ov_cc .le x 0 = false := by simp [ov_cc, hq]
      have k2 := kk ls H locs hl hH hS
      simp only [e, cond_false] at k2
      exact k2
  · cases h
theorem ov_s_icmp_le (X : ov_X p s m args meth c D M) {off : Int} (hd : decode (ov_byt M) pc = .ok (.if_icmp .le off, 3)) (h : ov_cmp (fun x y => ov_cc .le x y) off pc lv st μ = some x') (kk : ov_W p l e R s m args below meth c Q D b h0 n0 z0 M x') : ov_W p l e R s m args below meth c Q D b h0 n0 z0 M (pc, lv, st, μ) := by
  unfold ov_cmp at h
  split at h
  · rename_i y x r t ht
    cases h
    intro ls H locs hl hH hS
    refine lv_icmp_le X.1 X.2.1 hd (ov_tg_eq ht) (fun hq => ?_) (fun hq => ?_)
    · have e : ov_cc .le x y = true := by simp [ov_cc, hq]
      have k2 := kk ls H locs hl hH hS
      simp only [e, cond_true] at k2
      exact k2
    · have e : ov_cc .le x y = false := by simp [ov_cc, hq]
      have k2 := kk ls H locs hl hH hS
      simp only [e, cond_false] at k2
      exact k2
  · cases h
theorem ov_s_goto (X : ov_X p s m args meth c D M) {off : Int} (hd : decode (ov_byt M) pc = .ok (.goto off, 3)) (h : ov_go off pc lv st μ = some x') (kk : ov_W p l e R s m args below meth c Q D b h0 n0 z0 M x') : ov_W p l e R s m args below meth c Q D b h0 n0 z0 M (pc, lv, st, μ) := by
  unfold ov_go at h
  split at h
  · rename_i t ht
    cases h
    intro ls H locs hl hH hS
    exact lv_goto X.1 X.2.1 hd (ov_tg_eq ht) (kk ls H locs hl hH hS)
  · cases h
theorem ov_s_tsw (X : ov_X p s m args meth c D M) {dd lo hi : Int} {offs : Array Int} {ln : Nat} (hd : decode (ov_byt M) pc = .ok (.tableswitch dd lo hi offs, ln)) (h : ov_ts dd lo hi offs pc lv st μ = some x') (kk : ov_W p l e R s m args below meth c Q D b h0 n0 z0 M x') : ov_W p l e R s m args below meth c Q D b h0 n0 z0 M (pc, lv, st, μ) := by
  unfold ov_ts at h
  split at h
  · split at h
    · rename_i hq
      unfold ov_go at h
      split at h
      · rename_i t ht
        cases h
        intro ls H locs hl hH hS
        exact lv_tableOut X.1 X.2.1 hd hq (ov_tg_eq ht) (kk ls H locs hl hH hS)
      · cases h
    · rename_i hq
      split at h
      · rename_i off ho
        unfold ov_go at h
        split at h
        · rename_i t ht
          cases h
          intro ls H locs hl hH hS
          exact lv_tableIn X.1 X.2.1 hd (fun z => hq (Or.inl z)) (fun z => hq (Or.inr z)) ho (ov_tg_eq ht) (kk ls H locs hl hH hS)
        · cases h
      · cases h
  · cases h
theorem ov_s_lsw (X : ov_X p s m args meth c D M) {dd : Int} {ps : Array (Int × Int)} {ln : Nat} (hd : decode (ov_byt M) pc = .ok (.lookupswitch dd ps, ln)) (h : ov_lk dd ps pc lv st μ = some x') (kk : ov_W p l e R s m args below meth c Q D b h0 n0 z0 M x') : ov_W p l e R s m args below meth c Q D b h0 n0 z0 M (pc, lv, st, μ) := by
  unfold ov_lk at h
  split at h
  · split at h
    · rename_i hq
      unfold ov_go at h
      split at h
      · rename_i t ht
        cases h
        intro ls H locs hl hH hS
        exact lv_lookup X.1 X.2.1 hd hq rfl (ov_tg_eq ht) (kk ls H locs hl hH hS)
      · cases h
    · cases h
  · cases h
theorem ov_key (i : Nat) (k : Nat) : (i * 32 + ov_oc k) % 32 = ov_oc k ∧ (i * 32 + ov_oc k) / 32 = i := by
  have := ov_oc_lt k
  omega
theorem ov_s_ldc (X : ov_X p s m args meth c D M) {idx : Nat} (hd : decode (ov_byt M) pc = .ok (.ldc idx, 2)) (h : (ov_find ov_kt (idx * 32 + ov_oc M)).map (fun v => ((pc + 2, lv, .int v.1 :: st, μ) : ov_Cfg)) = some x') (kk : ov_W p l e R s m args below meth c Q D b h0 n0 z0 M x') : ov_W p l e R s m args below meth c Q D b h0 n0 z0 M (pc, lv, st, μ) := by
  cases hf : ov_find ov_kt (idx * 32 + ov_oc M) with
  | none => rw [hf] at h; cases h
  | some v =>
    rw [hf] at h
    cases h
    intro ls H locs hl hH hS
    have h1 := ov_ixm (List.all_eq_true.mp ov_kall _ (ov_find_mem hf))
    dsimp only at h1
    rw [(ov_key idx M).1, (ov_key idx M).2] at h1
    exact lv_ldc (own := ov_cname (ov_oc M)) X.1 X.2.1 X.2.2.2.1 (X.2.2.2.2.1 _ h1) hd (kk ls H locs hl hH hS)
theorem ov_s_ldc_w (X : ov_X p s m args meth c D M) {idx : Nat} (hd : decode (ov_byt M) pc = .ok (.ldc_w idx, 3)) (h : (ov_find ov_kt (idx * 32 + ov_oc M)).map (fun v => ((pc + 3, lv, .int v.1 :: st, μ) : ov_Cfg)) = some x') (kk : ov_W p l e R s m args below meth c Q D b h0 n0 z0 M x') : ov_W p l e R s m args below meth c Q D b h0 n0 z0 M (pc, lv, st, μ) := by
  cases hf : ov_find ov_kt (idx * 32 + ov_oc M) with
  | none => rw [hf] at h; cases h
  | some v =>
    rw [hf] at h
    cases h
    intro ls H locs hl hH hS
    have h1 := ov_ixm (List.all_eq_true.mp ov_kall _ (ov_find_mem hf))
    dsimp only at h1
    rw [(ov_key idx M).1, (ov_key idx M).2] at h1
    exact lv_ldcw (own := ov_cname (ov_oc M)) X.1 X.2.1 X.2.2.2.1 (X.2.2.2.2.1 _ h1) hd (kk ls H locs hl hH hS)
theorem ov_s_ldc2_w (X : ov_X p s m args meth c D M) {idx : Nat} (hd : decode (ov_byt M) pc = .ok (.ldc2_w idx, 3)) (h : (ov_find ov_k2t (idx * 32 + ov_oc M)).map (fun v => ((pc + 3, lv, .long v.1 :: st, μ) : ov_Cfg)) = some x') (kk : ov_W p l e R s m args below meth c Q D b h0 n0 z0 M x') : ov_W p l e R s m args below meth c Q D b h0 n0 z0 M (pc, lv, st, μ) := by
  cases hf : ov_find ov_k2t (idx * 32 + ov_oc M) with
  | none => rw [hf] at h; cases h
  | some v =>
    rw [hf] at h
    cases h
    intro ls H locs hl hH hS
    have h1 := ov_ixm (List.all_eq_true.mp ov_k2all _ (ov_find_mem hf))
    dsimp only at h1
    rw [(ov_key idx M).1, (ov_key idx M).2] at h1
    exact lv_ldc2 (own := ov_cname (ov_oc M)) X.1 X.2.1 X.2.2.2.1 (X.2.2.2.2.1 _ h1) hd (kk ls H locs hl hH hS)
end ov_S
end
section
-- INSTRUCTIONS OVER THE HEAP
section ov_S
variable {p : Program} {l : Launch} {e : Env} {R : Room} {s : State} {m : MethodId} {args : Array Value} {below : List Frame} {meth : Method} {c : Code} {Q : State → Prop}
variable {D : ov_G} {b h0 n0 z0 M : Nat} {pc : Nat} {lv : List (Option Value)} {st : List Value} {μ : ov_Mem} {x' : ov_Cfg}
theorem ov_field {idx ci k i : Nat} {fin : Bool} (hf : ov_find ov_ft (idx * 32 + ov_oc M) = some (ci, k, fin, i)) : ∃ r : vw_C, ov_cl[ci]? = some r ∧ k < r.2.2 ∧ (r.2.1 k).2.2.2 = fin ∧ (r.2.1 k).1 = ov_cname (ci + 1) ∧ Cond.fieldLink (ov_cname (ov_oc M)) idx (r.2.1 k).1 (r.2.1 k).2.1 (r.2.1 k).2.2.1 ∈ ov_tt := by
  have h1 := List.all_eq_true.mp ov_fall _ (ov_find_mem hf)
  unfold ov_fOK at h1
  dsimp only at h1
  rw [(ov_key idx M).1, (ov_key idx M).2] at h1
  split at h1
  · rename_i r hr
    simp only [Bool.and_eq_true, decide_eq_true_eq] at h1
    obtain ⟨⟨⟨h2, h3⟩, h4⟩, h5⟩ := h1
    exact ⟨r, hr, Nat.le_of_ble_eq_true h3, h4, h5, ov_ixm h2⟩
  · cases h1
theorem ov_beq {a c : Nat} (h : Nat.beq a c = true) : a = c := Nat.eq_of_beq_eq_true h
theorem ov_HP.obj {H : Heap} {a ci n : Nat} (hH : ov_HP D b h0 s μ H) (ha : μ.1[a]? = some (0, ci, n)) : ∃ i, a = i + 1 ∧ ov_cell D.1 s (h0 + i) (0, ci, n) (fun k => ov_cv b h0 (μ.2 a k)) H := by
  obtain ⟨h1, h2, ⟨h5, h3⟩, h6⟩ := hH
  cases a with
  | zero =>
    rcases h3 with ⟨h3, -⟩ | h3
    · have e2 : (9 : Nat) = 0 := congrArg Prod.fst (Option.some.inj (h3.symm.trans ha))
      cases e2
    · have e2 : (8 : Nat) = 0 := congrArg Prod.fst (Option.some.inj (h3.symm.trans ha))
      cases e2
  | succ i => exact ⟨i, rfl, h6 i _ ha⟩
set_option maxHeartbeats 1000000 in
theorem ov_s_gf (X : ov_X p s m args meth c D M) {idx : Nat} (hd : decode (ov_byt M) pc = .ok (.getfield idx, 3)) (h : ov_gf (ov_oc M) idx pc lv st μ = some x') (kk : ov_W p l e R s m args below meth c Q D b h0 n0 z0 M x') : ov_W p l e R s m args below meth c Q D b h0 n0 z0 M (pc, lv, st, μ) := by
  unfold ov_gf at h
  split at h
  · rename_i a r ci k fin i hf
    split at h
    · rename_i c1 n1 ha
      cases hb : Nat.beq c1 ci with
      | false => rw [hb] at h; cases h
      | true =>
        rw [hb] at h
        cases h
        have hcc := ov_beq hb
        subst hcc
        intro ls H locs hl hH hS
        obtain ⟨q, hr, hk, hfin, hdecl, hw⟩ := ov_field hf
        obtain ⟨j, rfl, hc⟩ := hH.obj ha
        have hP := ov_P1 hc hr
        have hT := ov_clOK c1 q hr
        refine va_get (D := D.1) (cl := ov_cl) (ci := c1) (C := q.1) (T := q.2.1) (N := q.2.2) (v := ov_cv b h0 (μ.2 (j + 1) k)) X.1 X.2.1 X.2.2.2.2.1 hT.1 X.2.2.2.1 X.2.2.2.2.2.2.1 hP 0 rfl hr k hk (X.2.2.2.2.1 _ hw) (fun _ z => z) ?_ hd (kk ls H locs hl hH hS)
        rw [List.getElem?_map, List.getElem?_range hk]
        rfl
    · cases h
  · cases h
theorem ov_fit_ok {ty : FieldType} {v : Value} (h : ov_fit ty v = true) : narrow ty (ov_cv b h0 v) = ov_cv b h0 v ∧ fits ty (ov_cv b h0 v) = true := by
  unfold ov_fit at h
  split at h <;> first | exact ⟨rfl, rfl⟩ | cases h
theorem ov_t1 {D : va_G} {s : State} {a ci n : Nat} {f g : Nat → Value} {H : Heap} {r : vw_C} (hr : ov_cl[ci]? = some r) (hn : r.2.2 = n) (h : t_OB a (D.1 ci) n (D.2 ci) H g) (e : ∀ k, k < n → g k = f k) : ov_cell D s a (0, ci, n) f H :=
  ⟨fun _ => ⟨r, hr, hn, t_OB.to h e⟩, fun z => absurd rfl z, fun z => by cases z⟩
theorem ov_updcv {f : Nat → Value} {k : Nat} {v : Value} (j : Nat) : updV (fun k => ov_cv b h0 (f k)) k (ov_cv b h0 v) j = ov_cv b h0 (updV f k v j) := by
  unfold updV
  split <;> rfl
set_option maxHeartbeats 1000000 in
theorem ov_s_pf (X : ov_X p s m args meth c D M) {idx : Nat} (hd : decode (ov_byt M) pc = .ok (.putfield idx, 3)) (h : ov_pf (ov_oc M) idx (ov_ini M) pc lv st μ = some x') (kk : ov_W p l e R s m args below meth c Q D b h0 n0 z0 M x') : ov_W p l e R s m args below meth c Q D b h0 n0 z0 M (pc, lv, st, μ) := by
  unfold ov_pf at h
  split at h
  · rename_i v a r ci k fin i hf
    split at h
    · rename_i c1 n1 ha
      cases hb : (Nat.beq c1 ci && ov_fit (ov_ty ci k) v && (!fin || (ov_ini M && Nat.beq (ov_oc M) (ci + 1)))) with
      | false => rw [hb] at h; cases h
      | true =>
        rw [hb] at h
        cases h
        simp only [Bool.and_eq_true, Bool.or_eq_true, Bool.not_eq_true'] at hb
        obtain ⟨⟨hb1, hb2⟩, hb3⟩ := hb
        have hcc := ov_beq hb1
        subst hcc
        intro ls H locs hl hH hS
        obtain ⟨q, hr, hk, hfin, hdecl, hw⟩ := ov_field hf
        obtain ⟨j, rfl, hc⟩ := hH.obj ha
        obtain ⟨hT1, hT2, hT3⟩ := ov_clOK c1 q hr
        have hKK := X.2.2.2.2.2.2.1
        have hts := X.2.2.2.2.1
        have hap := va_apart (own := ov_cname (ov_oc M)) hts hT1 (ov_ty c1) hT2 hT3 hKK hr
        obtain ⟨q', hr', hn, hOB⟩ := hc.1 rfl
        cases hr.symm.trans hr'
        have hn : q.2.2 = n1 := hn
        obtain ⟨cell, q1, q2, q3, q4⟩ := hOB
        obtain ⟨hSl, hfc, kC, hkC, hkind⟩ := hKK.1 c1 _ hr
        obtain ⟨cf, kf, fi, f, hi, hsl⟩ := hSl k hk
        have hst := (u_facts hfc hkC (u_lays hts hT1 hk) hi).1
        obtain ⟨hnar, hfit⟩ := ov_fit_ok (b := b) (h0 := h0) hb2
        have q4 : ∀ k, k < q.2.2 → cell.slots[D.1.2 c1 k]? = some (ov_cv b h0 (μ.2 (j + 1) k)) := by rw [hn]; exact q4
        have hslot : f.slot < cell.slots.size := by rw [hsl]; exact k2_hasslot (q4 k hk)
        have fin2 : ∀ (H1 : Heap), H1[h0 + j]? = some (cell.setSlot f.slot (ov_cv b h0 v)) → H1.size = H.size → (∀ x, x ≠ h0 + j → H1[x]? = H[x]?) →
            W p l e R s m args below meth c H1 (locs ++ [⟨h0 + j, f.slot⟩]) ((ov_rp μ (j + 1) (updV (μ.2 (j + 1)) k v)).1.length - n0) (ov_sz (ov_rp μ (j + 1) (updV (μ.2 (j + 1)) k v)).1 - z0) Q (F0 m (pc + 3) ls (r.map (ov_cv b h0))) := by
          intro H1 e1 e2 e3
          rw [hsl] at e1 ⊢
          refine kk ls H1 _ hl ?_ (hS.put e2 e3 (Nat.le_add_right _ _))
          refine hH.rp ha e2 e3 ?_
          have hset := t_set q4 hap hk (ov_cv b h0 v)
          exact ov_t1 hr hn (g := updV (fun k => ov_cv b h0 (μ.2 (j + 1) k)) k (ov_cv b h0 v)) ⟨_, e1, q2, q3, by rw [← hn]; exact hset⟩ (fun y _ => ov_updcv y)
        cases hfn : fin with
        | false =>
          have hlay := hts _ (hT1 _ (u_in_lay hk))
          unfold u_lay at hlay
          rw [if_neg (by rw [hfin, hfn]; decide)] at hlay
          have h6 := u_store hfc hkC hkind hlay hi (hT2 k hk) hnar hfit
          exact W.putK X.1 X.2.1 (f := f) ⟨X.2.2.2.1, hts _ hw, ⟨_, _, _, hi⟩, hst⟩ (by rw [q2]; exact h6) q1 q3 hslot rfl rfl hd fin2
        | true =>
          have hini : ov_ini M = true ∧ Nat.beq (ov_oc M) (c1 + 1) = true := by
            rcases hb3 with z | z
            · rw [hfn] at z; cases z
            · exact z
          have hown : ov_oc M = c1 + 1 := ov_beq hini.2
          have hnm : (ov_nm M).name = "<init>" := of_decide_eq_true hini.1
          have hlay := hts _ (hT1 _ (u_in_lay hk))
          unfold u_lay at hlay
          rw [if_pos (by rw [hfin, hfn])] at hlay
          have hcf : m.cls = cf := by
            obtain ⟨_, _, c', _, _, _, -, -, hf', -, -, -, hown2, -⟩ := Cond.laysFinal_spec hlay
            have e1 : c' = cf := by have := hi.symm.trans hf'; simp at this; exact this.1.symm
            rw [hdecl, ← hown] at hown2
            rw [← e1]; exact Option.some.inj (X.2.2.2.1.symm.trans hown2)
          have h6 := u_fits hfc hkC hkind (Or.inr hlay) hi (hT2 k hk) hnar hfit
          exact W.putFinK X.1 X.2.1 X.2.2.2.1 (hts _ hw) hi hst hcf (X.2.2.2.2.2.1 hnm) (by rw [q2]; exact h6) q1 q3 hslot rfl rfl hd fin2
    · cases h
  · cases h
theorem ov_HP.arr {H : Heap} {a t n : Nat} {y : Nat} (hH : ov_HP D b h0 s μ H) (ht : t ≠ 0) (ht9 : t < 8) (ha : μ.1[a]? = some (t, y, n)) : ∃ i cA, a = i + 1 ∧ ArrOfT s cA (ov_aty t) ∧ va_RA s cA (ov_aty t) ∧ H[h0 + i]? = some (arrV cA n (fun k => ov_cv b h0 (μ.2 a k))) ∧ (t = 1 → ∀ j, j < n → ∃ x, ov_cv b h0 (μ.2 a j) = .int x) := by
  obtain ⟨h1, h2, ⟨h5, h3⟩, h6⟩ := hH
  cases a with
  | zero =>
    rcases h3 with ⟨h3, -⟩ | h3
    · have e2 : (9 : Nat) = t := congrArg Prod.fst (Option.some.inj (h3.symm.trans ha))
      omega
    · have e2 : (8 : Nat) = t := congrArg Prod.fst (Option.some.inj (h3.symm.trans ha))
      omega
  | succ i =>
    have hc := h6 i _ ha
    obtain ⟨cA, g1, g2, g3⟩ := hc.2.1 ht
    exact ⟨i, cA, rfl, g1, g2, g3, hc.2.2⟩
theorem ov_ar {D : va_G} {s : State} {a t y n : Nat} {f : Nat → Value} {H : Heap} {cA : ClassId} (ht : t ≠ 0) (h1 : ArrOfT s cA (ov_aty t)) (h2 : va_RA s cA (ov_aty t)) (h3 : H[a]? = some (arrV cA n f)) (h4 : t = 1 → ∀ j, j < n → ∃ x, f j = .int x) : ov_cell D s a (t, y, n) f H :=
  ⟨fun z => absurd z ht, fun _ => ⟨cA, h1, h2, h3⟩, h4⟩
theorem ov_s_iaload (X : ov_X p s m args meth c D M) (hd : decode (ov_byt M) pc = .ok (.iaload, 1)) (h : ov_rdI pc lv st μ = some x') (kk : ov_W p l e R s m args below meth c Q D b h0 n0 z0 M x') : ov_W p l e R s m args below meth c Q D b h0 n0 z0 M (pc, lv, st, μ) := by
  unfold ov_rdI at h
  split at h
  · rename_i j r
    unfold ov_rd at h
    dsimp only at h
    split at h
    · rename_i u y n ha
      split at h
      · rename_i hu
        subst hu
        split at h
        · cases h
        · rename_i hin
          cases h
          intro ls H locs hl hH hS
          have hH' := hH
          obtain ⟨h1, h2, ⟨h5, h3⟩, h6⟩ := hH
          rcases h3 with ⟨h3, h4⟩ | h3
          case inr =>
            have e2 : (8 : Nat) = 9 := congrArg Prod.fst (Option.some.inj (h3.symm.trans ha))
            cases e2
          have e : D.2.1 = n := congrArg (fun z => z.2.2) (Option.some.inj (h3.symm.trans ha))
          subst e
          obtain ⟨scr, g1, g2, g3, g4, g5⟩ := h5
          have hlt : j.toNatClampNeg < D.2.1 := Nat.not_le.mp fun q => hin (Or.inr q)
          refine W.iald (v := .int (D.2.2 j.toNatClampNeg)) X.1 X.2.1 g1 g2 g3 (by rw [g4]; exact hin) (g5 _ hlt) rfl rfl hd ?_
          have k2 := kk ls H locs hl hH' hS
          rw [h4 _ hlt] at k2
          exact k2
      · cases h
    · cases h
  · unfold ov_rd at h
    split at h
    · rename_i j a r _
      split at h
      · rename_i u y n ha
        split at h
        · rename_i hu
          subst hu
          split at h
          · cases h
          · rename_i hin
            cases h
            intro ls H locs hl hH hS
            obtain ⟨i, cA, rfl, g1, g2, g3, g4⟩ := hH.arr (by decide) (by decide) ha
            have hlt : j.toNatClampNeg < n := Nat.not_le.mp fun q => hin (Or.inr q)
            exact W.iald (v := ov_cv b h0 (μ.2 (i + 1) j.toNatClampNeg)) X.1 X.2.1 g3 (g1 n _) (fun q => by cases q) (by rw [arrV_size]; exact hin) (by rw [arrV_read _ _ hlt]) rfl rfl hd (kk ls H locs hl hH hS)
        · cases h
      · cases h
    · cases h
theorem ov_s_baload (X : ov_X p s m args meth c D M) (hd : decode (ov_byt M) pc = .ok (.baload, 1)) (h : ov_rd 2 pc lv st μ = some x') (kk : ov_W p l e R s m args below meth c Q D b h0 n0 z0 M x') : ov_W p l e R s m args below meth c Q D b h0 n0 z0 M (pc, lv, st, μ) := by
  unfold ov_rd at h
  split at h
  · rename_i j a r
    split at h
    · rename_i u y n ha
      split at h
      · rename_i hu
        subst hu
        split at h
        · cases h
        · rename_i hin
          cases h
          intro ls H locs hl hH hS
          obtain ⟨i, cA, rfl, g1, g2, g3, g4⟩ := hH.arr (by decide) (by decide) ha
          have hlt : j.toNatClampNeg < n := Nat.not_le.mp fun q => hin (Or.inr q)
          exact W.zald (v := ov_cv b h0 (μ.2 (i + 1) j.toNatClampNeg)) X.1 X.2.1 g3 (g1 n _) (fun q => by cases q) (by rw [arrV_size]; exact hin) (by rw [arrV_read _ _ hlt]) rfl rfl hd (kk ls H locs hl hH hS)
      · cases h
    · cases h
  · cases h
theorem ov_s_aaload (X : ov_X p s m args meth c D M) (hd : decode (ov_byt M) pc = .ok (.aaload, 1)) (h : ov_rd 3 pc lv st μ = some x') (kk : ov_W p l e R s m args below meth c Q D b h0 n0 z0 M x') : ov_W p l e R s m args below meth c Q D b h0 n0 z0 M (pc, lv, st, μ) := by
  unfold ov_rd at h
  split at h
  · rename_i j a r
    split at h
    · rename_i u y n ha
      split at h
      · rename_i hu
        subst hu
        split at h
        · cases h
        · rename_i hin
          cases h
          intro ls H locs hl hH hS
          obtain ⟨i, cA, rfl, g1, g2, g3, g4⟩ := hH.arr (by decide) (by decide) ha
          have hlt : j.toNatClampNeg < n := Nat.not_le.mp fun q => hin (Or.inr q)
          exact W.aald (v := ov_cv b h0 (μ.2 (i + 1) j.toNatClampNeg)) (ty := .object "OnlyEntrances$Stage") X.1 X.2.1 g3 (g1 n _) rfl (fun q => by cases q) (by rw [arrV_size]; exact hin) (by rw [arrV_read _ _ hlt]) rfl rfl hd (kk ls H locs hl hH hS)
      · cases h
    · cases h
  · cases h
theorem ov_cvI {v : Value} {x : Int32} (h : ov_cv b h0 v = .int x) : v = .int x := by
  cases v <;> first | exact h | cases h
theorem ov_s_iastore (X : ov_X p s m args meth c D M) (hd : decode (ov_byt M) pc = .ok (.iastore, 1)) (h : ov_wr 1 ov_vI pc lv st μ = some x') (kk : ov_W p l e R s m args below meth c Q D b h0 n0 z0 M x') : ov_W p l e R s m args below meth c Q D b h0 n0 z0 M (pc, lv, st, μ) := by
  unfold ov_wr at h
  split at h
  · rename_i v j a r
    split at h
    · rename_i u y n w ha hw
      split at h
      · rename_i hu
        subst hu
        split at h
        · cases h
        · rename_i hin
          cases h
          unfold ov_vI at hw
          split at hw
          · rename_i x
            cases hw
            intro ls H locs hl hH hS
            obtain ⟨i, cA, rfl, g1, g2, g3, g4⟩ := hH.arr (by decide) (by decide) ha
            refine W.iast X.1 X.2.1 g3 (g1 n _) (fun q => by cases q) (by rw [arrV_size]; exact hin) rfl rfl hd fun H1 e1 e2 e3 => ?_
            refine kk ls H1 _ hl (hH.rp ha e2 e3 ?_) (hS.put e2 e3 (Nat.le_add_right _ _))
            refine ov_ar (by decide) g1 g2 ?_ (fun _ q hq => ?_)
            · rw [e1, arrV_store]
              congr 2
              funext q
              exact ov_updcv (v := .int x) q
            · unfold updV
              try dsimp only
              split
              · exact ⟨x, rfl⟩
              · exact g4 rfl q hq
          · cases hw
      · cases h
    · cases h
  · cases h
theorem ov_s_bastore (X : ov_X p s m args meth c D M) (hd : decode (ov_byt M) pc = .ok (.bastore, 1)) (h : ov_wr 2 ov_vZ pc lv st μ = some x') (kk : ov_W p l e R s m args below meth c Q D b h0 n0 z0 M x') : ov_W p l e R s m args below meth c Q D b h0 n0 z0 M (pc, lv, st, μ) := by
  unfold ov_wr at h
  split at h
  · rename_i v j a r
    split at h
    · rename_i u y n w ha hw
      split at h
      · rename_i hu
        subst hu
        split at h
        · cases h
        · rename_i hin
          cases h
          unfold ov_vZ at hw
          split at hw
          · rename_i x
            cases hw
            intro ls H locs hl hH hS
            obtain ⟨i, cA, rfl, g1, g2, g3, g4⟩ := hH.arr (by decide) (by decide) ha
            refine W.zast X.1 X.2.1 g3 (g1 n _) (fun q => by cases q) (by rw [arrV_size]; exact hin) rfl rfl hd fun H1 e1 e2 e3 => ?_
            refine kk ls H1 _ hl (hH.rp ha e2 e3 ?_) (hS.put e2 e3 (Nat.le_add_right _ _))
            refine ov_ar (by decide) g1 g2 ?_ (fun z => by cases z)
            rw [e1, arrV_store]
            congr 2
            funext q
            exact ov_updcv (v := narrow .boolean (.int x)) q
          · cases hw
      · cases h
    · cases h
  · cases h
set_option maxHeartbeats 1000000 in
theorem ov_s_aastore (X : ov_X p s m args meth c D M) (hd : decode (ov_byt M) pc = .ok (.aastore, 1)) (h : ov_wr 3 (ov_vS μ) pc lv st μ = some x') (kk : ov_W p l e R s m args below meth c Q D b h0 n0 z0 M x') : ov_W p l e R s m args below meth c Q D b h0 n0 z0 M (pc, lv, st, μ) := by
  unfold ov_wr at h
  split at h
  · rename_i v j a r
    split at h
    · rename_i u y n w ha hw
      split at h
      · rename_i hu
        subst hu
        split at h
        · cases h
        · rename_i hin
          cases h
          unfold ov_vS at hw
          split at hw
          · rename_i va
            split at hw
            · rename_i n2 hva
              cases hw
              intro ls H locs hl hH hS
              obtain ⟨i, cA, rfl, g1, g2, g3, g4⟩ := hH.arr (by decide) (by decide) ha
              obtain ⟨vi, hvi, hvc⟩ := hH.obj hva
              cases hvi
              obtain ⟨q, hq, hn, cellV, f1, f2, f3, -⟩ := hvc.1 rfl
              have hKn := X.2.2.2.2.2.2.1.1 3 _ hq
              have hlt : j.toNatClampNeg < n := Nat.not_le.mp fun q => hin (Or.inr q)
              have hq1 : q.1 = "OnlyEntrances$Stage" := by
                have : ov_cl[3]? = some q := hq
                cases this
                rfl
              have g2c := g2
              obtain ⟨kA, comp, k1, k2, k3, -⟩ := g2
              obtain ⟨hfc, kC, hkC, hkind⟩ := hKn.2
              rw [hq1] at hfc
              have hcomp : comp = D.1.1 3 := Option.some.inj (k3.symm.trans hfc)
              subst hcomp
              have f2 : cellV.cls = D.1.1 3 := f2
              refine W.aast X.1 X.2.1 g3 (fun q h => by cases h) (fun h => by cases h) k1 k2 rfl hkC ⟨fun q => hin (Or.inl q), by show _ < (arrV _ _ _).slots.size; rw [arrV_size]; exact hlt⟩ f1 (fun q h => by rw [f3] at h; cases h) (by rw [f2]; exact hkC) (by rw [f2]; exact va_assign ⟨hfc, kC, hkC, hkind⟩) rfl rfl hd fun H1 e1 e2 e3 => ?_
              refine kk ls H1 _ hl (hH.rp ha e2 e3 ?_) (hS.put e2 e3 (Nat.le_add_right _ _))
              refine ov_ar (by decide) g1 g2c ?_ (fun z => by cases z)
              rw [e1, arrV_store]
              congr 2
              funext q
              exact ov_updcv (v := .ref (va + 1)) q
            · cases hw
          · cases hw
      · cases h
    · cases h
  · cases h
theorem ov_s_alen (X : ov_X p s m args meth c D M) (hd : decode (ov_byt M) pc = .ok (.arraylength, 1)) (h : ov_al pc lv st μ = some x') (kk : ov_W p l e R s m args below meth c Q D b h0 n0 z0 M x') : ov_W p l e R s m args below meth c Q D b h0 n0 z0 M (pc, lv, st, μ) := by
  unfold ov_al at h
  split at h
  · rename_i r
    split at h
    · rename_i y n ha
      cases h
      intro ls H locs hl hH hS
      have hH' := hH
      obtain ⟨h1, h2, ⟨h5, h3⟩, h6⟩ := hH
      rcases h3 with ⟨h3, h4⟩ | h3
      case inr =>
        have e2 : (8 : Nat) = 9 := congrArg Prod.fst (Option.some.inj (h3.symm.trans ha))
        cases e2
      have e : D.2.1 = n := congrArg (fun z => z.2.2) (Option.some.inj (h3.symm.trans ha))
      subst e
      obtain ⟨scr, g1, g2, g3, g4, g5⟩ := h5
      exact W.alen X.1 X.2.1 g1 g2 (by rw [g4]) rfl rfl hd (kk ls H locs hl hH' hS)
    · cases h
  · cases h
theorem ov_s_oi (X : ov_X p s m args meth c D M) {idx : Nat} (hRf : 1 ≤ R.frames) (hRl : 64 ≤ R.locals) (hd : decode (ov_byt M) pc = .ok (.invokespecial idx, 3)) (h : ov_oi (ov_oc M) idx pc lv st μ = some x') (kk : ov_W p l e R s m args below meth c Q D b h0 n0 z0 M x') : ov_W p l e R s m args below meth c Q D b h0 n0 z0 M (pc, lv, st, μ) := by
  unfold ov_oi at h
  split at h
  · rename_i a r v hf
    split at h
    · rename_i hr
      cases h
      intro ls H locs hl hH hS
      have h1 := ov_ixm (List.all_eq_true.mp ov_iall _ (ov_find_mem hf))
      dsimp only at h1
      rw [(ov_key idx M).1, (ov_key idx M).2] at h1
      have hts := X.2.2.2.2.1
      exact W.objInit X.1 X.2.1 X.2.2.2.1 (hts _ h1) (hts _ ov_w_oi) (hts _ ov_w_oc) rfl (by rw [X.2.2.1]; exact hl.1) rfl hd hRf (by
        show 2 * 0 + ((r.map (ov_cv b h0)).map fun v => v.category).sum + 12 ≤ R.locals
        rw [ov_cats]
        omega) (kk ls H locs hl hH hS)
    · cases h
  · cases h
theorem ov_sz_app (a : List ov_Sh) (x : ov_Sh) : ov_sz (a ++ [x]) = ov_sz a + x.2.2 := by simp [ov_sz]
set_option maxHeartbeats 1000000 in
theorem ov_s_new (X : ov_X p s m args meth c D M) {idx : Nat} (hd : decode (ov_byt M) pc = .ok (.new idx, 3)) (h : ov_ne (ov_oc M) idx pc lv st μ = some x') (hn : n0 ≤ μ.1.length) (hz : z0 ≤ ov_sz μ.1) (hc : x'.2.2.2.1.length - n0 ≤ R.cells) (hs : ov_sz x'.2.2.2.1 - z0 ≤ R.slots) (kk : ov_W p l e R s m args below meth c Q D b h0 n0 z0 M x') : ov_W p l e R s m args below meth c Q D b h0 n0 z0 M (pc, lv, st, μ) := by
  unfold ov_ne at h
  split at h
  · rename_i ci i hf
    split at h
    · rename_i q hq
      cases h
      intro ls H locs hl hH hS
      have h1 := List.all_eq_true.mp ov_nall _ (ov_find_mem hf)
      unfold ov_nOK at h1
      dsimp only at h1
      rw [(ov_key idx M).1, (ov_key idx M).2, hq] at h1
      simp only [Bool.and_eq_true] at h1
      obtain ⟨⟨w1, w2⟩, w3⟩ := h1
      have hts := X.2.2.2.2.1
      obtain ⟨hT1, hT2, hT3⟩ := ov_clOK ci q hq
      have hKn := X.2.2.2.2.2.2.1.1 ci _ hq
      have el : (ov_nw μ (0, ci, q.2.2) (fun k => defaultValue (ov_ty ci k))).1.length = μ.1.length + 1 := by
        show (μ.1 ++ [_]).length = _
        simp
      have ez : ov_sz (ov_nw μ (0, ci, q.2.2) (fun k => defaultValue (ov_ty ci k))).1 = ov_sz μ.1 + q.2.2 := ov_sz_app _ _
      have hc : (ov_nw μ (0, ci, q.2.2) (fun k => defaultValue (ov_ty ci k))).1.length - n0 ≤ R.cells := hc
      have hs : ov_sz (ov_nw μ (0, ci, q.2.2) (fun k => defaultValue (ov_ty ci k))).1 - z0 ≤ R.slots := hs
      rw [el] at hc
      rw [ez] at hs
      have eb1 : μ.1.length + 1 - n0 = μ.1.length - n0 + 1 := by omega
      have eb2 : ov_sz μ.1 + q.2.2 - z0 = ov_sz μ.1 - z0 + q.2.2 := by omega
      refine W.newcK X.1 X.2.1 X.2.2.2.1 (hts _ (ov_ixm w1)) (hts _ (ov_ixm w2)) (hts _ (ov_ixm w3)) rfl hd (by rw [← eb1]; exact hc) (by rw [← eb2]; exact hs) hKn.2.1 rfl fun H1 kC hkC e1 z1 o1 => ?_
      have hdv : ∀ ty : FieldType, ov_cv b h0 (defaultValue ty) = defaultValue ty := by intro ty; cases ty <;> rfl
      have hnw := hH.nw (sh := (0, ci, q.2.2)) (g := fun k => defaultValue (ov_ty ci k)) z1 o1 (ov_t1 hq rfl (u_born (ov_ty ci) hts hT1 hKn hkC e1 hT2) (fun k _ => (hdv _).symm))
      have k2 := kk ls H1 locs hl hnw.1 ⟨Nat.le_trans hS.1 (by omega), fun x g1 g2 => (o1 x (Nat.lt_of_lt_of_le g1 hS.1)).trans (hS.2.1 x g1 g2), hS.2.2⟩
      dsimp only at k2
      rw [el, ez, eb1, eb2] at k2
      have e3 : (List.map (ov_cv b h0) (.ref μ.1.length :: st)) = .ref H.size :: st.map (ov_cv b h0) := by
        show Value.ref (ov_ad b h0 μ.1.length) :: _ = _
        rw [hnw.2]
      rw [e3] at k2
      exact k2
    · cases h
  · cases h
theorem ov_arr0 {cA : ClassId} {t y N : Nat} {H H1 : Heap} {v : Value} (ht : t ≠ 0) (hv : ov_cv b h0 v = v) (h4 : t = 1 → ∃ x, v = .int x) (hH : ov_HP D b h0 s μ H) (e1 : H1[H.size]? = some (arrV cA N (fun _ => v))) (z1 : H1.size = H.size + 1) (o1 : ∀ q : Nat, q < H.size → H1[q]? = H[q]?) (g1 : ArrOfT s cA (ov_aty t)) (g2 : va_RA s cA (ov_aty t)) :
    ov_HP D b h0 s (ov_nw μ (t, y, N) (fun _ => v)) H1 ∧ ov_ad b h0 μ.1.length = H.size :=
  hH.nw z1 o1 (ov_ar ht g1 g2 (by rw [e1]; congr 2; funext _; exact hv.symm) (fun z q _ => by
    obtain ⟨x, hx⟩ := h4 z
    exact ⟨x, hv.trans hx⟩))
end ov_S
end
section
-- NEW ROWS, COPIES, MATH; THEN CALLS
section ov_S
variable {p : Program} {l : Launch} {e : Env} {R : Room} {s : State} {m : MethodId} {args : Array Value} {below : List Frame} {meth : Method} {c : Code} {Q : State → Prop}
variable {D : ov_G} {b h0 n0 z0 M : Nat} {pc : Nat} {lv : List (Option Value)} {st : List Value} {μ : ov_Mem} {x' : ov_Cfg}
theorem ov_s_newK (X : ov_X p s m args meth c D M) {t N : Nat} {v : Value} {r : List Value} {ls : Array Slot} {H H1 : Heap} {locs : List Loc} {k : Nat} (ht : t ≠ 0) (hv : ov_cv b h0 v = v) (h4 : t = 1 → ∃ x, v = .int x) {cA : ClassId}
    (hl : ov_LV b h0 ls (ov_mx M) lv) (hH : ov_HP D b h0 s μ H) (hS : va_S (fun q => h0 ≤ q) s.heap H locs) (e1 : H1[H.size]? = some (arrV cA N (fun _ => v))) (z1 : H1.size = H.size + 1) (o1 : ∀ q : Nat, q < H.size → H1[q]? = H[q]?) (g1 : ArrOfT s cA (ov_aty t)) (g2 : va_RA s cA (ov_aty t))
    (hn : n0 ≤ μ.1.length) (hz : z0 ≤ ov_sz μ.1)
    (kk : ov_W p l e R s m args below meth c Q D b h0 n0 z0 M (pc + k, lv, .ref μ.1.length :: r, ov_nw μ (t, 0, N) (fun _ => v))) : W p l e R s m args below meth c H1 locs (μ.1.length - n0 + 1) (ov_sz μ.1 - z0 + N) Q (F0 m (pc + k) ls (.ref H.size :: r.map (ov_cv b h0))) := by
  have hnw := ov_arr0 (y := 0) (N := N) ht hv h4 hH e1 z1 o1 g1 g2
  have el : (ov_nw μ (t, 0, N) (fun _ => v)).1.length = μ.1.length + 1 := by
    show (μ.1 ++ [_]).length = _
    simp
  have ez : ov_sz (ov_nw μ (t, 0, N) (fun _ => v)).1 = ov_sz μ.1 + N := ov_sz_app _ _
  have eb1 : μ.1.length + 1 - n0 = μ.1.length - n0 + 1 := by omega
  have eb2 : ov_sz μ.1 + N - z0 = ov_sz μ.1 - z0 + N := by omega
  have k2 := kk ls H1 locs hl hnw.1 ⟨Nat.le_trans hS.1 (by omega), fun x g1 g2 => (o1 x (Nat.lt_of_lt_of_le g1 hS.1)).trans (hS.2.1 x g1 g2), hS.2.2⟩
  dsimp only at k2
  rw [el, ez, eb1, eb2] at k2
  have e3 : (List.map (ov_cv b h0) (.ref μ.1.length :: r)) = .ref H.size :: r.map (ov_cv b h0) := by
    show Value.ref (ov_ad b h0 μ.1.length) :: _ = _
    rw [hnw.2]
  rw [e3] at k2
  exact k2
theorem ov_nwlen {t N : Nat} {g : Nat → Value} {B n0 : Nat} (h : (ov_nw μ (t, 0, N) g).1.length - n0 ≤ B) (hn : n0 ≤ μ.1.length) : μ.1.length - n0 + 1 ≤ B := by
  have el : (ov_nw μ (t, 0, N) g).1.length = μ.1.length + 1 := by
    show (μ.1 ++ [_]).length = _
    simp
  omega
theorem ov_nwsz {t N : Nat} {g : Nat → Value} {B z0 : Nat} (h : ov_sz (ov_nw μ (t, 0, N) g).1 - z0 ≤ B) (hz : z0 ≤ ov_sz μ.1) : ov_sz μ.1 - z0 + N ≤ B := by
  have ez : ov_sz (ov_nw μ (t, 0, N) g).1 = ov_sz μ.1 + N := ov_sz_app _ _
  omega
set_option maxHeartbeats 1000000 in
theorem ov_s_newarray (X : ov_X p s m args meth c D M) {ty : ArrayType} (hd : decode (ov_byt M) pc = .ok (.newarray ty, 2)) (h : ov_na ty pc lv st μ = some x') (hn : n0 ≤ μ.1.length) (hz : z0 ≤ ov_sz μ.1) (hc : x'.2.2.2.1.length - n0 ≤ R.cells) (hs : ov_sz x'.2.2.2.1 - z0 ≤ R.slots) (kk : ov_W p l e R s m args below meth c Q D b h0 n0 z0 M x') : ov_W p l e R s m args below meth c Q D b h0 n0 z0 M (pc, lv, st, μ) := by
  unfold ov_na at h
  split at h
  · rename_i n r
    split at h
    · cases h
    · rename_i hneg
      split at h
      · rename_i hle
        cases h
        intro ls H locs hl hH hS
        refine va_newaK (atype := .int) X.1 X.2.1 (X.2.2.2.2.1 _ ov_w_ai) rfl hd rfl hneg rfl (show n.toNatClampNeg * 4 ≤ _ by omega) (ov_nwlen hc hn) (ov_nwsz hs hz) rfl fun H1 cA e1 z1 o1 hAr hNm => ?_
        exact ov_s_newK X (t := 1) (by decide) rfl (fun _ => ⟨0, rfl⟩) hl hH hS e1 z1 o1 hAr hNm hn hz kk
      · cases h
  · rename_i n r
    split at h
    · cases h
    · rename_i hneg
      split at h
      · rename_i hle
        cases h
        intro ls H locs hl hH hS
        refine va_newaK (atype := .boolean) X.1 X.2.1 (X.2.2.2.2.1 _ ov_w_az) rfl hd rfl hneg rfl (show n.toNatClampNeg * 1 ≤ _ by omega) (ov_nwlen hc hn) (ov_nwsz hs hz) rfl fun H1 cA e1 z1 o1 hAr hNm => ?_
        exact ov_s_newK X (t := 2) (by decide) rfl (fun z => by cases z) hl hH hS e1 z1 o1 hAr hNm hn hz kk
      · cases h
  · cases h
set_option maxHeartbeats 1000000 in
theorem ov_s_anew (X : ov_X p s m args meth c D M) {idx : Nat} (hd : decode (ov_byt M) pc = .ok (.anewarray idx, 3)) (h : ov_an (ov_oc M) idx pc lv st μ = some x') (hn : n0 ≤ μ.1.length) (hz : z0 ≤ ov_sz μ.1) (hc : x'.2.2.2.1.length - n0 ≤ R.cells) (hs : ov_sz x'.2.2.2.1 - z0 ≤ R.slots) (kk : ov_W p l e R s m args below meth c Q D b h0 n0 z0 M x') : ov_W p l e R s m args below meth c Q D b h0 n0 z0 M (pc, lv, st, μ) := by
  unfold ov_an at h
  split at h
  · rename_i n r i hf
    split at h
    · cases h
    · rename_i hneg
      split at h
      · rename_i hle
        cases h
        intro ls H locs hl hH hS
        have h1 := List.all_eq_true.mp ov_nall _ (ov_find_mem hf)
        unfold ov_nOK at h1
        dsimp only at h1
        rw [(ov_key idx M).1, (ov_key idx M).2] at h1
        have h1 : (ov_ix i.1 (.classLink (ov_cname (ov_oc M)) idx "OnlyEntrances$Stage") && ov_ix i.2.1 (.instantiable "OnlyEntrances$Stage" 5) && ov_ix i.2.2 (.initialized "OnlyEntrances$Stage")) = true := h1
        simp only [Bool.and_eq_true] at h1
        refine W.anew X.1 X.2.1 X.2.2.2.1 (X.2.2.2.2.1 _ (ov_ixm h1.1.1)) (va_AO.use X.2.2.2.2.2.2.2) rfl hd rfl hneg (by omega) (ov_nwlen hc hn) (ov_nwsz hs hz) fun cA kA comp f1 f2 f3 f4 => ?_
        generalize hH1 : H.push ({ cls := cA, slots := Array.replicate n.toNatClampNeg .null, vm := .none } : Cell) = H1
        have z1 : H1.size = H.size + 1 := by rw [← hH1, Array.size_push]
        have e1 : H1[H.size]? = some (arrV cA n.toNatClampNeg (fun _ => .null)) := by rw [← hH1, Array.getElem?_push_size, ← arrV_new]
        have o1 : ∀ q : Nat, q < H.size → H1[q]? = H[q]? := fun q hq => by rw [← hH1, Array.getElem?_push, if_neg (Nat.ne_of_lt hq)]
        have hAr : ArrOfT s cA (.object "OnlyEntrances$Stage") := fun N z => ⟨(fun k h => by cases h), kA, f2, comp, f3⟩
        exact ov_s_newK X (t := 3) (by decide) rfl (fun z => by cases z) hl hH hS e1 z1 o1 hAr ⟨kA, comp, f2, f3, f4, f1⟩ hn hz kk
      · cases h
  · cases h
theorem ov_nn {z : Int32} (hz : ¬ z < 0) : z.toInt = (z.toNatClampNeg : Int) := by
  have hz0 : (0 : Int) ≤ z.toInt := by
    have := Int32.not_lt.mp hz
    simpa using Int32.le_iff_toInt_le.mp this
  show z.toInt = ((z.toInt.toNat : Nat) : Int)
  omega
theorem ov_cvcpy {f g : Nat → Value} {sp dp n : Nat} : (fun j => ov_cv b h0 (va_cpy f g sp dp n j)) = va_cpy (fun j => ov_cv b h0 (f j)) (fun j => ov_cv b h0 (g j)) sp dp n := by
  funext j
  unfold va_cpy
  split <;> rfl
set_option maxHeartbeats 2000000 in
theorem ov_s_cy (X : ov_X p s m args meth c D M) {idx : Nat} (hRf : 1 ≤ R.frames) (hRl : 64 ≤ R.locals) (hd : decode (ov_byt M) pc = .ok (.invokestatic idx, 3)) (h : ov_cy (ov_oc M) idx pc lv st μ = some x') (kk : ov_W p l e R s m args below meth c Q D b h0 n0 z0 M x') : ov_W p l e R s m args below meth c Q D b h0 n0 z0 M (pc, lv, st, μ) := by
  unfold ov_cy at h
  split at h
  · rename_i n dp a sp a0 r i hf
    split at h
    · rename_i y0 k0 y1 k1 ha0 ha1
      split at h
      · cases h
      · rename_i hq
        cases h
        have q1 : ¬ n < 0 := fun z => hq (Or.inl z)
        have q2 : ¬ dp < 0 := fun z => hq (Or.inr (Or.inl z))
        have q3 : ¬ sp < 0 := fun z => hq (Or.inr (Or.inr (Or.inl z)))
        have q4 : sp.toNatClampNeg + n.toNatClampNeg ≤ k0 := Nat.not_lt.mp fun z => hq (Or.inr (Or.inr (Or.inr (Or.inl z))))
        have q5 : dp.toNatClampNeg + n.toNatClampNeg ≤ k1 := Nat.not_lt.mp fun z => hq (Or.inr (Or.inr (Or.inr (Or.inr (Or.inl z)))))
        have q6 : (r.map fun v => v.category).sum ≤ 8 := Nat.not_lt.mp fun z => hq (Or.inr (Or.inr (Or.inr (Or.inr (Or.inr z)))))
        intro ls H locs hl hH hS
        have h1 := ov_ixm (List.all_eq_true.mp ov_call _ (ov_find_mem hf))
        dsimp only at h1
        rw [(ov_key idx M).1, (ov_key idx M).2] at h1
        have hts := X.2.2.2.2.1
        obtain ⟨i0, c0, e0, g1, g2, g3, g4⟩ := hH.arr (by decide) (by decide) ha0
        obtain ⟨i1, c1, e1, f1, f2, f3, f4⟩ := hH.arr (by decide) (by decide) ha1
        cases e0; cases e1
        intro T hT XX
        obtain ⟨-, kc0, hk0, cm0, hkk0⟩ := g1 k0 (fun k => ov_cv b h0 (μ.2 (a0 + 1) k))
        obtain ⟨-, kc1, hk1, cm1, hkk1⟩ := f1 k1 (fun k => ov_cv b h0 (μ.2 (a + 1) k))
        have hc1 : H[h0 + a]? = some (arrV c1 k1 (fun k => ov_cv b h0 (μ.2 (a + 1) k))) := f3
        obtain ⟨vm', X', step⟩ := XX.arraycopy X.1 X.2.2.2.1 (hts _ h1) (hts _ ov_w_nat) (hts _ ov_w_sta) (hts _ ov_w_sys) (src := h0 + a0) (dst := h0 + a) (cs := arrV c0 k0 (fun k => ov_cv b h0 (μ.2 (a0 + 1) k))) (cd := arrV c1 k1 (fun k => ov_cv b h0 (μ.2 (a + 1) k))) (srcPos := sp) (destPos := dp) (n := n) (by rw [hT]; exact g3) (by rw [hT]; exact hc1)
          (fun _ h => by cases h) (fun _ h => by cases h) (fun h => by cases h) (fun h => by cases h) hk0 hk1 hkk0 hkk1 (by rfl) q3 q2 q1
          (by rw [ov_nn q3, ov_nn q1, arrV_size]; omega)
          (by rw [ov_nn q2, ov_nn q1, arrV_size]; omega)
          (fun vm₁ _ i hi => by
            obtain ⟨x, hx⟩ := g4 rfl (sp.toNatClampNeg + i) (by omega)
            have e : (arrV c0 k0 (fun k => ov_cv b h0 (μ.2 (a0 + 1) k))).slots.getD (sp.toNatClampNeg + i) .null = .int x := by
              rw [Array.getD_eq_getD_getElem?, arrV_read _ _ (by omega)]
              exact hx
            refine ⟨?_, ?_⟩
            · rw [e]
              rfl
            · rw [e]
              exact trivial)
          (g := F0 m pc ls (.int n :: .int dp :: .ref (h0 + a) :: .int sp :: .ref (h0 + a0) :: r.map (ov_cv b h0))) rfl (by rw [X.2.2.1]; exact hl.1) (rest := r.map (ov_cv b h0)) rfl (by rw [X.2.1]; exact hd) hRf (by
            show 2 * 0 + ((r.map (ov_cv b h0)).map fun v => v.category).sum + _ ≤ R.locals
            rw [ov_cats]
            have : nativeFrameWords "java/lang/System" "arraycopy" 5 = 7 := by decide
            omega)
        have ec : copied (arrV c0 k0 (fun k => ov_cv b h0 (μ.2 (a0 + 1) k))) (arrV c1 k1 (fun k => ov_cv b h0 (μ.2 (a + 1) k))) sp dp n = arrV c1 k1 (fun j => ov_cv b h0 (va_cpy (μ.2 (a0 + 1)) (μ.2 (a + 1)) sp.toNatClampNeg dp.toNatClampNeg n.toNatClampNeg j)) := by
          rw [ov_cvcpy]
          exact va_copied (fun z => z) c0 c1 (fun k => ov_cv b h0 (μ.2 (a0 + 1) k)) (fun k => ov_cv b h0 (μ.2 (a + 1) k)) q4
        rw [ec] at X' step
        have hla : h0 + a < H.size := (Array.getElem?_eq_some_iff.mp hc1).1
        generalize hZ : arrV c1 k1 (fun j => ov_cv b h0 (va_cpy (μ.2 (a0 + 1)) (μ.2 (a + 1)) sp.toNatClampNeg dp.toNatClampNeg n.toNatClampNeg j)) = Z at X' step
        have hheap : ((T.setVm vm').setCell (h0 + a) Z).heap = H.setIfInBounds (h0 + a) Z := by rw [← hT]; rfl
        have oq : ∀ q : Nat, q ≠ h0 + a → (H.setIfInBounds (h0 + a) Z)[q]? = H[q]? := fun q hq => by simp [Array.getElem?_setIfInBounds, Ne.symm hq]
        have es : (H.setIfInBounds (h0 + a) Z)[h0 + a]? = some Z := by simp [Array.getElem?_setIfInBounds, hla]
        have ez : (H.setIfInBounds (h0 + a) Z).size = H.size := by simp
        obtain ⟨t, a1, b1⟩ := kk ls _ _ hl (hH.rp ha1 ez oq (ov_ar (by decide) f1 f2 (by rw [es, ← hZ]) (fun z q hq => by
          unfold va_cpy
          try dsimp only
          split
          · exact g4 rfl _ (by omega)
          · exact f4 rfl q hq))) ⟨by rw [ez]; exact hS.1, fun q g1 g2 => by
            rw [oq q (fun e => g2 (by rw [e]; exact Nat.le_add_right _ _))]
            exact hS.2.1 q g1 g2, fun q hq => by
            rcases List.mem_append.mp hq with h | h
            · exact hS.2.2 q h
            · obtain ⟨z, -, hz⟩ := List.mem_map.mp h
              rw [← hz]
              exact Nat.le_add_right _ _⟩ _ hheap X'
        exact ⟨t, step t a1, b1⟩
    · cases h
  · cases h
theorem ov_s_mth (X : ov_X p s m args meth c D M) {idx : Nat} (hRf : 1 ≤ R.frames) (hRl : 64 ≤ R.locals) (hc : μ.1.length - n0 ≤ R.cells) (hs : ov_sz μ.1 - z0 ≤ R.slots) (hd : decode (ov_byt M) pc = .ok (.invokestatic idx, 3)) (h : ov_sta (ov_oc M) idx pc lv st μ = some x') (kk : ov_W p l e R s m args below meth c Q D b h0 n0 z0 M x') : ov_W p l e R s m args below meth c Q D b h0 n0 z0 M (pc, lv, st, μ) := by
  unfold ov_sta at h
  split at h
  · rename_i op i hf
    have h1 := ov_ixm (List.all_eq_true.mp ov_xall _ (ov_find_mem hf))
    dsimp only at h1
    rw [(ov_key idx M).1, (ov_key idx M).2] at h1
    have hts := X.2.2.2.2.1
    have room : ∀ r : List Value, ¬ 8 < (r.map fun v => v.category).sum → ((r.map (ov_cv b h0)).map fun v => v.category).sum + 13 ≤ R.locals := by
      intro r hr
      rw [ov_cats]
      omega
    unfold ov_mth at h
    split at h
    · split at h
      · cases h
      · rename_i hr
        cases h
        intro ls H locs hl hH hS
        exact va_mabs X.1 X.2.1 (by rw [X.2.2.1]; exact hl.1.symm) X.2.2.2.1 (hts _ h1) (hts _ ov_w_m0.1) (hts _ ov_w_m) (hts _ ov_w_m0.2) hRf (room _ hr) hc hs hd (kk ls H locs hl hH hS)
    · split at h
      · cases h
      · rename_i hr
        cases h
        intro ls H locs hl hH hS
        exact va_mmax X.1 X.2.1 (by rw [X.2.2.1]; exact hl.1.symm) X.2.2.2.1 (hts _ h1) (hts _ ov_w_m1.1) (hts _ ov_w_m) (hts _ ov_w_m1.2) hRf (room _ hr) hc hs hd (kk ls H locs hl hH hS)
    · split at h
      · cases h
      · rename_i hr
        cases h
        intro ls H locs hl hH hS
        exact va_mabs_long X.1 X.2.1 (by rw [X.2.2.1]; exact hl.1.symm) X.2.2.2.1 (hts _ h1) (hts _ ov_w_m2.1) (hts _ ov_w_m) (hts _ ov_w_m2.2) hRf (room _ hr) hc hs hd (kk ls H locs hl hH hS)
    · cases h
  · exact ov_s_cy X hRf hRl hd h kk
end ov_S
end
section
-- THE STEPS TOGETHER
theorem ov_grow1 {oc : Nat} {ini : Bool} {i : Instr} {pc : Nat} {lv : List (Option Value)} {st : List Value} {μ : ov_Mem} {z : ov_Cfg} (h : ov_step1 oc ini i pc lv st μ = some z) : μ.1.length ≤ z.2.2.2.1.length ∧ ov_sz μ.1 ≤ ov_sz z.2.2.2.1 := by
  have nw : ∀ (sh : ov_Sh) (g : Nat → Value), μ.1.length ≤ (ov_nw μ sh g).1.length ∧ ov_sz μ.1 ≤ ov_sz (ov_nw μ sh g).1 := by
    intro sh g
    have e1 : (ov_nw μ sh g).1.length = μ.1.length + 1 := by
      show (μ.1 ++ [sh]).length = _
      simp
    have e2 : ov_sz (ov_nw μ sh g).1 = ov_sz μ.1 + sh.2.2 := ov_sz_app _ _
    omega
  cases i <;> first
    | (cases h; done)
    | (simp only [ov_step1, ov_ldI, ov_ldL, ov_ldA, ov_stI, ov_stL, ov_stA, ov_inc, ov_ii, ov_iz, ov_ll, ov_lz, ov_li, ov_i1, ov_l1, ov_cm, ov_dup, ov_dup2, ov_pop, ov_if, ov_cmp, ov_go, ov_ts, ov_lk, ov_gf, ov_pf, ov_al, ov_rdI, ov_rd, ov_wr, ov_na, ov_an, ov_ne, ov_oi, ov_sta, ov_mth, ov_cy, Option.map_eq_some_iff, cond_eq_ite] at h
       (repeat' split at h) <;> first
        | (cases h; done)
        | (cases h; exact ⟨Nat.le_refl _, Nat.le_refl _⟩)
        | (cases h; exact nw _ _)
        | (obtain ⟨w, _, rfl⟩ := h; exact ⟨Nat.le_refl _, Nat.le_refl _⟩))
theorem ov_grow {M : Nat} {x z : ov_Cfg} (h : ov_step M x = some z) : x.2.2.2.1.length ≤ z.2.2.2.1.length ∧ ov_sz x.2.2.2.1 ≤ ov_sz z.2.2.2.1 := by
  unfold ov_step at h
  split at h
  · rename_i i n hd
    cases hb : (ov_sw i || Nat.beq n (ov_len i)) with
    | false => rw [hb] at h; cases h
    | true => rw [hb] at h; exact ov_grow1 h
  · cases h
theorem ov_growC : ∀ (d : Nat) (M : Nat) (as : List Value) (μ : ov_Mem) (rv : Option Value) (μ' : ov_Mem), ov_C d M as μ rv μ' → μ.1.length ≤ μ'.1.length ∧ ov_sz μ.1 ≤ ov_sz μ'.1
  | 0, _, _, _, _, _, h => h.elim
  | d + 1, M, as, μ, rv, μ', h => by
    obtain ⟨k, x, hN, -, rfl⟩ := h
    have key : ∀ (k : Nat) (x y : ov_Cfg), ov_N (ov_C d) M k x y → x.2.2.2.1.length ≤ y.2.2.2.1.length ∧ ov_sz x.2.2.2.1 ≤ ov_sz y.2.2.2.1 := by
      intro k
      induction k with
      | zero => intro x y h; cases h; exact ⟨Nat.le_refl _, Nat.le_refl _⟩
      | succ k ih =>
        intro x y h
        obtain ⟨z, hI, hN⟩ := h
        have h2 := ih z y hN
        rcases hI with hs | ⟨y', as', r, rv', μ1, -, hC, rfl⟩
        · have h1 := ov_grow hs
          omega
        · have h1 := ov_growC d _ _ _ _ _ hC
          dsimp only at h2
          omega
    exact key k _ _ hN
theorem ov_growN {d M k : Nat} {x y : ov_Cfg} (h : ov_N (ov_C d) M k x y) : x.2.2.2.1.length ≤ y.2.2.2.1.length ∧ ov_sz x.2.2.2.1 ≤ ov_sz y.2.2.2.1 := by
  induction k generalizing x with
  | zero => cases h; exact ⟨Nat.le_refl _, Nat.le_refl _⟩
  | succ k ih =>
    obtain ⟨z, hI, hN⟩ := h
    have h2 := ih hN
    rcases hI with hs | ⟨y', as', r, rv', μ1, -, hC, rfl⟩
    · have h1 := ov_grow hs
      omega
    · have h1 := ov_growC d _ _ _ _ _ hC
      dsimp only at h2
      omega
section ov_S
variable {p : Program} {l : Launch} {e : Env} {R : Room} {s : State} {m : MethodId} {args : Array Value} {below : List Frame} {meth : Method} {c : Code} {Q : State → Prop}
variable {D : ov_G} {b h0 n0 z0 M : Nat}
set_option maxHeartbeats 2000000 in
theorem ov_step_sound (X : ov_X p s m args meth c D M) (hRf : 1 ≤ R.frames) (hRl : 64 ≤ R.locals) {x z : ov_Cfg} (h : ov_step M x = some z) (hn : n0 ≤ x.2.2.2.1.length) (hz : z0 ≤ ov_sz x.2.2.2.1) (hc : z.2.2.2.1.length - n0 ≤ R.cells) (hs : ov_sz z.2.2.2.1 - z0 ≤ R.slots)
    (kk : ov_W p l e R s m args below meth c Q D b h0 n0 z0 M z) : ov_W p l e R s m args below meth c Q D b h0 n0 z0 M x := by
  have hg := ov_grow h
  obtain ⟨pc, lv, st, μ⟩ := x
  unfold ov_step at h
  split at h
  · rename_i i n hd
    cases hb : (ov_sw i || Nat.beq n (ov_len i)) with
    | false => rw [hb] at h; cases h
    | true =>
      rw [hb] at h
      cases i with
      | iconst k => cases ov_beq hb; exact ov_s_iconst X hd h kk
      | bipush k => cases ov_beq hb; exact ov_s_bipush X hd h kk
      | sipush k => cases ov_beq hb; exact ov_s_sipush X hd h kk
      | lconst k => cases ov_beq hb; exact ov_s_lconst X hd h kk
      | ldc k => cases ov_beq hb; exact ov_s_ldc X hd h kk
      | ldc_w k => cases ov_beq hb; exact ov_s_ldc_w X hd h kk
      | ldc2_w k => cases ov_beq hb; exact ov_s_ldc2_w X hd h kk
      | iload k => cases ov_beq hb; exact ov_s_iload X hd h kk
      | iload_n k => cases ov_beq hb; exact ov_s_iload_n X hd h kk
      | lload k => cases ov_beq hb; exact ov_s_lload X hd h kk
      | lload_n k => cases ov_beq hb; exact ov_s_lload_n X hd h kk
      | aload k => cases ov_beq hb; exact ov_s_aload X hd h kk
      | aload_n k => cases ov_beq hb; exact ov_s_aload_n X hd h kk
      | istore k => cases ov_beq hb; exact ov_s_istore X hd h kk
      | istore_n k => cases ov_beq hb; exact ov_s_istore_n X hd h kk
      | lstore k => cases ov_beq hb; exact ov_s_lstore X hd h kk
      | lstore_n k => cases ov_beq hb; exact ov_s_lstore_n X hd h kk
      | astore k => cases ov_beq hb; exact ov_s_astore X hd h kk
      | astore_n k => cases ov_beq hb; exact ov_s_astore_n X hd h kk
      | iadd => cases ov_beq hb; exact ov_s_iadd X hd h kk
      | isub => cases ov_beq hb; exact ov_s_isub X hd h kk
      | imul => cases ov_beq hb; exact ov_s_imul X hd h kk
      | iand => cases ov_beq hb; exact ov_s_iand X hd h kk
      | ior => cases ov_beq hb; exact ov_s_ior X hd h kk
      | ixor => cases ov_beq hb; exact ov_s_ixor X hd h kk
      | ishl => cases ov_beq hb; exact ov_s_ishl X hd h kk
      | ishr => cases ov_beq hb; exact ov_s_ishr X hd h kk
      | iushr => cases ov_beq hb; exact ov_s_iushr X hd h kk
      | idiv => cases ov_beq hb; exact ov_s_idiv X hd h kk
      | irem => cases ov_beq hb; exact ov_s_irem X hd h kk
      | ineg => cases ov_beq hb; exact ov_s_ineg X hd h kk
      | ladd => cases ov_beq hb; exact ov_s_ladd X hd h kk
      | lsub => cases ov_beq hb; exact ov_s_lsub X hd h kk
      | lmul => cases ov_beq hb; exact ov_s_lmul X hd h kk
      | land => cases ov_beq hb; exact ov_s_land X hd h kk
      | lor => cases ov_beq hb; exact ov_s_lor X hd h kk
      | ldiv => cases ov_beq hb; exact ov_s_ldiv X hd h kk
      | lrem => cases ov_beq hb; exact ov_s_lrem X hd h kk
      | lneg => cases ov_beq hb; exact ov_s_lneg X hd h kk
      | lshl => cases ov_beq hb; exact ov_s_lshl X hd h kk
      | lushr => cases ov_beq hb; exact ov_s_lushr X hd h kk
      | i2l => cases ov_beq hb; exact ov_s_i2l X hd h kk
      | l2i => cases ov_beq hb; exact ov_s_l2i X hd h kk
      | lcmp => cases ov_beq hb; exact ov_s_lcmp X hd h kk
      | dup => cases ov_beq hb; exact ov_s_dup X hd h kk
      | dup2 => cases ov_beq hb; exact ov_s_dup2 X hd h kk
      | pop => cases ov_beq hb; exact ov_s_pop X hd h kk
      | goto k => cases ov_beq hb; exact ov_s_goto X hd h kk
      | iaload => cases ov_beq hb; exact ov_s_iaload X hd h kk
      | baload => cases ov_beq hb; exact ov_s_baload X hd h kk
      | aaload => cases ov_beq hb; exact ov_s_aaload X hd h kk
      | iastore => cases ov_beq hb; exact ov_s_iastore X hd h kk
      | bastore => cases ov_beq hb; exact ov_s_bastore X hd h kk
      | aastore => cases ov_beq hb; exact ov_s_aastore X hd h kk
      | iinc k n => cases ov_beq hb; exact ov_s_iinc X hd h kk
      | ifCond cnd off =>
        cases ov_beq hb
        cases cnd with
        | eq => exact ov_s_if_eq X hd h kk
        | ne => exact ov_s_if_ne X hd h kk
        | lt => exact ov_s_if_lt X hd h kk
        | ge => exact ov_s_if_ge X hd h kk
        | gt => exact ov_s_if_gt X hd h kk
        | le => exact ov_s_if_le X hd h kk
      | if_icmp cnd off =>
        cases ov_beq hb
        cases cnd with
        | eq => exact ov_s_icmp_eq X hd h kk
        | ne => exact ov_s_icmp_ne X hd h kk
        | lt => exact ov_s_icmp_lt X hd h kk
        | ge => exact ov_s_icmp_ge X hd h kk
        | gt => exact ov_s_icmp_gt X hd h kk
        | le => exact ov_s_icmp_le X hd h kk
      | tableswitch dd lo hi offs => exact ov_s_tsw X hd h kk
      | lookupswitch dd ps => exact ov_s_lsw X hd h kk
      | getfield idx => cases ov_beq hb; exact ov_s_gf X hd h kk
      | putfield idx => cases ov_beq hb; exact ov_s_pf X hd h kk
      | arraylength => cases ov_beq hb; exact ov_s_alen X hd h kk
      | newarray ty => cases ov_beq hb; exact ov_s_newarray X hd h hn hz hc hs kk
      | anewarray idx => cases ov_beq hb; exact ov_s_anew X hd h hn hz hc hs kk
      | new idx => cases ov_beq hb; exact ov_s_new X hd h hn hz hc hs kk
      | invokespecial idx => cases ov_beq hb; exact ov_s_oi X hRf hRl hd h kk
      | invokestatic idx => cases ov_beq hb; exact ov_s_mth X hRf hRl (by dsimp only at hg; omega) (by dsimp only at hg; omega) hd h kk
      | _ => cases h
  · cases h
end ov_S
end
section
-- CALLS, AND THE CONTRACT OF EVERY METHOD
def ov_ws (M : Nat) : List Cond := Cond.code (ov_nm M) (ov_byt M) (ov_mx M) (ov_rt M) :: ov_tt
def ov_rm (d mc ms : Nat) : Room := { frames := d, cells := mc, slots := ms, locals := 64 * d }
def ov_Pc (D : ov_G) (b h0 : Nat) (as : List Value) (μ : ov_Mem) : Array Value → State → Prop := va_Pc (as.map (ov_cv b h0)) (fun U => ov_HP D b h0 U μ U.heap ∧ ov_KK D U)
def ov_Qc (D : ov_G) (b h0 : Nat) (rv : Option Value) (μ : ov_Mem) : Array Value → State → Outcome → State → Prop := fun _ st o t =>
  o = .returned (rv.map (ov_cv b h0)) ∧ ov_HP D b h0 t μ t.heap ∧ st.heap.size ≤ t.heap.size ∧ ∀ q : Nat, q < h0 → q < st.heap.size → t.heap[q]? = st.heap[q]?
def ov_Ok (d : Nat) (l : Launch) (D : ov_G) (b h0 : Nat) : Prop := ∀ (y : Nat) (as : List Value) (μ : ov_Mem) (rv : Option Value) (μ' : ov_Mem), y ∈ ov_ml → (ov_as as).length ≤ ov_mx y → ov_C d y as μ rv μ' →
  Met l (ov_nm y) (ov_ws y) (ov_rm d (μ'.1.length - μ.1.length) (ov_sz μ'.1 - ov_sz μ.1)) (ov_Pc D b h0 as μ) (ov_Qc D b h0 rv μ') (μ'.1.length - μ.1.length) (ov_sz μ'.1 - ov_sz μ.1) (fun q => h0 ≤ q)
theorem ov_goodT (y : Nat) (hy : y ∈ ov_ml) : GoodIn ov_tt (ov_ws y) := by
  intro w hw
  have h2 : w ∈ ov_tt := by
    rcases List.mem_cons.mp hw with h | h
    · rw [h]; exact ov_mlP y hy
    · exact h
  exact ⟨h2, good_of_word (List.mem_filter.mp h2).2⟩
theorem ov_mfacts {y : Nat} (hy : y ∈ ov_ml) : plainName (ov_nm y).cls = true ∧ Cond.initialized (ov_nm y).cls ∈ ov_tt ∧ ((ov_nm y).cls ≠ "java/lang/invoke/MethodHandle" ∧ (ov_nm y).cls ≠ "java/lang/invoke/VarHandle") ∧ (parseMethodDescriptor (ov_nm y).desc).map (fun d => d.parameters.length) = some (ov_np y) ∧ ov_mx y ≤ 40 := by
  have h := List.all_eq_true.mp ov_mlOK y hy
  unfold ov_mOK at h
  simp only [Bool.and_eq_true, decide_eq_true_eq] at h
  obtain ⟨⟨⟨⟨h1, h2⟩, h3⟩, h4⟩, h5⟩ := h
  exact ⟨h1, ov_ixm h2, h3, h4, Nat.le_of_ble_eq_true h5⟩
theorem ov_link {M idx k y : Nat} {w : Nat × Nat × Nat} (hf : ov_find ov_lt (idx * 32 + ov_oc M) = some (k, y, w)) : Cond.methodLink (ov_cname (ov_oc M)) idx (ov_nm y) ∈ ov_tt ∧ y ∈ ov_ml ∧ (k = 0 → Cond.static (ov_nm y) ∈ ov_tt) ∧
    (k = 1 → Cond.instanceMethod (ov_nm y) ∈ ov_tt ∧ Cond.selects (ov_nm y).cls (ov_nm y) (ov_nm y) ∈ ov_tt) ∧ (k = 2 → Cond.instanceMethod (ov_nm y) ∈ ov_tt ∧ (ov_nm y).name = "<init>" ∧ ov_rt y = none) := by
  have h := List.all_eq_true.mp ov_lall _ (ov_find_mem hf)
  unfold ov_lOK at h
  dsimp only at h
  rw [(ov_key idx M).1, (ov_key idx M).2] at h
  simp only [Bool.and_eq_true] at h
  obtain ⟨⟨h1, h2⟩, h3⟩ := h
  obtain ⟨y', hy1, hy2⟩ := List.any_eq_true.mp h2
  cases ov_beq hy2
  refine ⟨ov_ixm h1, hy1, fun z => ?_, fun z => ?_, fun z => ?_⟩
  · subst z
    exact ov_ixm h3
  · subst z
    simp only [Bool.and_eq_true] at h3
    exact ⟨ov_ixm h3.1, ov_ixm h3.2⟩
  · subst z
    simp only [Bool.and_eq_true, decide_eq_true_eq] at h3
    exact ⟨ov_ixm h3.1.1, h3.1.2, h3.2⟩
theorem ov_as_cons (v : Value) (vs : List Value) : ov_as (v :: vs) = (if v.category = 2 then [some v, none] else [some v]) ++ ov_as vs := rfl
section ov_S
variable {p : Program} {l : Launch} {e : Env} {R : Room} {s : State} {m : MethodId} {args : Array Value} {below : List Frame} {meth : Method} {c : Code} {Q : State → Prop}
variable {D : ov_G} {b h0 n0 z0 M : Nat}
theorem ov_blind {as : List Value} {μ : ov_Mem} : FrameBlind (ov_Pc D b h0 as μ) := by
  intro a U g mk q
  obtain ⟨q1, q2, q3⟩ := q
  exact ⟨q1, q2.moved (u := U) (U := U.calling g mk a) (Vm.Alike.refl U.vm), q3.moved (u := U) (U := U.calling g mk a) (Vm.Alike.refl U.vm)⟩
theorem ov_cb {d mc ms idx y : Nat} (X : ov_X p s m args meth c D M) (hRf : d + 1 ≤ R.frames) (hRl : 64 * (d + 1) ≤ R.locals) (hy : y ∈ ov_ml) (hl : Cond.methodLink (ov_cname (ov_oc M)) idx (ov_nm y) ∈ ov_tt) :
    CallB R s args (ov_cname (ov_oc M)) idx (ov_nm y) (ov_byt y) (ov_mx y) (ov_rt y) (ov_ws y) (ov_rm d mc ms) mc ms (ov_np y) := by
  obtain ⟨h1, h2, h3, h4, h5⟩ := ov_mfacts hy
  have hts := X.2.2.2.2.1
  exact callB_of (Ts := ov_tt) (ov_np y) hts (ov_goodT y hy) rfl rfl rfl (hts _ h2) (hts _ hl) ⟨h3.1, h3.2, h4⟩ ⟨hRf, by show 8 + (ov_mx y + 11) + 64 * d ≤ R.locals; omega⟩
/-- behind a call -/
theorem ov_after {pc : Nat} {rv : Option Value} {μ μ' : ov_Mem} {ls : Array Slot} {H : Heap} {locs : List Loc} {st rest : List Value} {lv : List (Option Value)} {a : Array Value}
    (hr : va_Run p l e R s m args below meth c H locs (μ.1.length - n0) (ov_sz μ.1 - z0) (μ'.1.length - μ.1.length) (ov_sz μ'.1 - ov_sz μ.1) (F0 m pc ls (st.map (ov_cv b h0))) (rest.map (ov_cv b h0)) (ov_Qc D b h0 rv μ' a) (fun q => h0 ≤ q))
    (hl : ov_LV b h0 ls (ov_mx M) lv) (hS : va_S (fun q => h0 ≤ q) s.heap H locs) (g1 : μ.1.length ≤ μ'.1.length) (g2 : ov_sz μ.1 ≤ ov_sz μ'.1) (hn : n0 ≤ μ.1.length) (hz : z0 ≤ ov_sz μ.1) 
    (kk : ov_W p l e R s m args below meth c Q D b h0 n0 z0 M (pc + 3, lv, rv.toList ++ rest, μ')) : W p l e R s m args below meth c H locs (μ.1.length - n0) (ov_sz μ.1 - z0) Q (F0 m pc ls (st.map (ov_cv b h0))) := by
  intro T hT XX
  obtain ⟨v, st₀, t, T', L, hh, X', hL, e1, e2, ⟨hv, hH, hzz, hk⟩, stp⟩ := hr T hT XX
  have hv : v = rv.map (ov_cv b h0) := by injection hv
  subst hv
  rw [hh] at hzz hk
  have hvm : t.vm.Alike s.vm := (by rw [← e2]; exact X'.warmed.alike : s.vm.Alike t.vm).symm
  have k2 := kk ls t.heap (locs ++ L) hl (hH.moved hvm) ⟨Nat.le_trans hS.1 hzz, fun q w1 w2 => by
      rw [hk q (Nat.not_le.mp w2) (Nat.lt_of_lt_of_le w1 hS.1)]
      exact hS.2.1 q w1 w2, fun q hq => by
      rcases List.mem_append.mp hq with h | h
      · exact hS.2.2 q h
      · exact hL q h⟩
  dsimp only at k2
  have eb1 : μ.1.length - n0 + (μ'.1.length - μ.1.length) = μ'.1.length - n0 := by omega
  have eb2 : ov_sz μ.1 - z0 + (ov_sz μ'.1 - ov_sz μ.1) = ov_sz μ'.1 - z0 := by omega
  rw [eb1, eb2] at X'
  obtain ⟨t2, a1, b1⟩ := k2 T' e1 X'
  refine ⟨t2, stp t2 ?_, b1⟩
  have e5 : (rv.toList ++ rest).map (ov_cv b h0) = (rv.map (ov_cv b h0)).toList ++ rest.map (ov_cv b h0) := by
    rw [List.map_append]
    cases rv <;> rfl
  rw [e5] at a1
  exact a1
theorem ov_split {st : List Value} {n : Nat} : st.map (ov_cv b h0) = (((st.take n).reverse).map (ov_cv b h0)).reverse ++ (st.drop n).map (ov_cv b h0) := by
  rw [List.map_reverse, List.reverse_reverse, ← List.map_append, List.take_append_drop]
set_option maxHeartbeats 2000000 in
theorem ov_inv_sound {d : Nat} (hOk : ov_Ok d l D b h0) (X : ov_X p s m args meth c D M) (hRf : d + 1 ≤ R.frames) (hRl : 64 * (d + 1) ≤ R.locals) {x : ov_Cfg} {y : Nat} {as r : List Value} {rv : Option Value} {μ' : ov_Mem} (h : ov_inv M x = some (y, as, r)) (hC : ov_C d y as x.2.2.2 rv μ') (hn : n0 ≤ x.2.2.2.1.length) (hz : z0 ≤ ov_sz x.2.2.2.1) (hc : μ'.1.length - n0 ≤ R.cells) (hs : ov_sz μ'.1 - z0 ≤ R.slots)
    (kk : ov_W p l e R s m args below meth c Q D b h0 n0 z0 M (x.1 + 3, x.2.1, rv.toList ++ r, μ')) : ov_W p l e R s m args below meth c Q D b h0 n0 z0 M x := by
  obtain ⟨pc, lv, st, μ⟩ := x
  obtain ⟨g1, g2⟩ := ov_growC d _ _ _ _ _ hC
  dsimp only at g1 g2 hn hz
  intro ls H locs hl hH hS
  have hS0 : CallFix p m c (ov_byt M) (ov_mx M) s args ov_tt (ov_cname (ov_oc M)) := ⟨X.1, X.2.1, X.2.2.1, X.2.2.2.1, X.2.2.2.2.1⟩
  have hcells : μ.1.length - n0 + (μ'.1.length - μ.1.length) ≤ R.cells ∧ ov_sz μ.1 - z0 + (ov_sz μ'.1 - ov_sz μ.1) ≤ R.slots := by omega
  have hKK := X.2.2.2.2.2.2
  have hpc : ∀ (as : List Value) (U : State), U.heap = H → s.WarmedH U.vm → ov_Pc D b h0 as μ ((as.map (ov_cv b h0))).toArray U := fun as U hU hW => ⟨rfl, by rw [hU]; exact hH.moved hW.alike, hKK.moved hW.alike⟩
  unfold ov_inv at h
  split at h
  · rename_i idx hd
    unfold ov_lkd at h
    split at h
    · rename_i k y' w hf
      cases hk : Nat.beq k 0 with
      | false => rw [hk] at h; cases h
      | true =>
        rw [hk] at h
        cases ov_beq hk
        obtain ⟨w1, w2, w3, -, -⟩ := ov_link hf
        unfold ov_ca at h
        cases hb : (Nat.ble (ov_np y') st.length && Nat.ble (ov_as ((st.take (ov_np y')).reverse)).length (ov_mx y' - (if 0 = 0 then 0 else 1))) with
        | false => rw [hb] at h; cases h
        | true =>
          rw [hb] at h
          simp only [cond_true] at h
          cases hb2 : Nat.ble ((st.drop (ov_np y')).map fun v => v.category).sum 8 with
          | false => rw [hb2] at h; cases h
          | true =>
            rw [hb2] at h
            cases h
            simp only [Bool.and_eq_true] at hb
            have hlen := Nat.le_of_ble_eq_true hb.1
            have hmx : (ov_as ((st.take (ov_np y)).reverse)).length ≤ ov_mx y := Nat.le_of_ble_eq_true hb.2
            have hM := hOk y _ μ rv μ' w2 hmx hC
            refine ov_after (rest := st.drop (ov_np y)) (va_runS hS0 hM ⟨ov_cb X hRf hRl w2 w1, X.2.2.2.2.1 _ (w3 rfl)⟩ ⟨ov_blind, hpc _⟩ rfl (by simp; omega) hl.1 ov_split (lv_room (by rw [ov_cats]; exact Nat.le_of_ble_eq_true hb2)) hd hcells) hl hS g1 g2 hn hz kk
    · cases h
  · rename_i idx hd
    unfold ov_lkd at h
    split at h
    · rename_i k y' w hf
      cases hk : Nat.beq k 1 with
      | false => rw [hk] at h; cases h
      | true =>
        rw [hk] at h
        cases ov_beq hk
        obtain ⟨w1, w2, -, w3, -⟩ := ov_link hf
        unfold ov_ca at h
        cases hb : (Nat.ble (ov_np y') st.length && Nat.ble (ov_as ((st.take (ov_np y')).reverse)).length (ov_mx y' - (if 1 = 0 then 0 else 1))) with
        | false => rw [hb] at h; cases h
        | true =>
          rw [hb] at h
          simp only [cond_true] at h
          simp only [Bool.and_eq_true] at hb
          generalize hst : List.drop (ov_np y') st = rr at h
          rcases rr with _ | ⟨v0, r'⟩
          · cases h
          rcases v0 with _ | _ | _ | _ | _ | a | _
          case ref =>
            rcases a with _ | a
            · cases h
            rcases ha : μ.1[a + 1]? with _ | ⟨u, ci, k1⟩
            · replace h : (match μ.1[a + 1]? with
                | some (0, c, _) => bif Nat.beq (ov_oc y') (c + 1) && Nat.ble (r'.map fun v => v.category).sum 8 && Nat.blt 0 (ov_mx y') then some (y', .ref (a + 1) :: (st.take (ov_np y')).reverse, r') else none
                | _ => none) = some (y, as, r) := h
              rw [ha] at h
              cases h
            rcases u with _ | u
            · replace h : (match μ.1[a + 1]? with
                | some (0, c, _) => bif Nat.beq (ov_oc y') (c + 1) && Nat.ble (r'.map fun v => v.category).sum 8 && Nat.blt 0 (ov_mx y') then some (y', .ref (a + 1) :: (st.take (ov_np y')).reverse, r') else none
                | _ => none) = some (y, as, r) := h
              rw [ha] at h
              replace h : (bif Nat.beq (ov_oc y') (ci + 1) && Nat.ble (r'.map fun v => v.category).sum 8 && Nat.blt 0 (ov_mx y') then some (y', .ref (a + 1) :: (st.take (ov_np y')).reverse, r') else none) = some (y, as, r) := h
              cases hb2 : (Nat.beq (ov_oc y') (ci + 1) && Nat.ble (r'.map fun v => v.category).sum 8 && Nat.blt 0 (ov_mx y')) with
              | false => rw [hb2] at h; cases h
              | true =>
                rw [hb2] at h
                cases h
                simp only [Bool.and_eq_true] at hb2
                obtain ⟨⟨hb3, hb4⟩, hb5⟩ := hb2
                have hlen := Nat.le_of_ble_eq_true hb.1
                have hmx0 : (ov_as ((st.take (ov_np y)).reverse)).length ≤ ov_mx y - 1 := Nat.le_of_ble_eq_true hb.2
                have hpos : 0 < ov_mx y := Nat.le_of_ble_eq_true hb5
                have hmx : (ov_as (.ref (a + 1) :: (st.take (ov_np y)).reverse)).length ≤ ov_mx y := by
                  rw [ov_as_cons, List.length_append]
                  show 1 + _ ≤ _
                  omega
                have hM := hOk y _ μ rv μ' w2 hmx hC
                obtain ⟨i, hi, hcell⟩ := hH.obj ha
                cases hi
                obtain ⟨q, hq, hqn, cellV, f1, f2, f3, -⟩ := hcell.1 rfl
                have hKn := hKK.1.1 ci _ hq
                have hcls : s.vm.findClass (ov_nm y).cls = some cellV.cls := by
                  rw [f2]
                  have e1 : (ov_nm y).cls = q.1 := by
                    show ov_cname (ov_oc y) = q.1
                    rw [ov_beq hb3]
                    match ci, hq with
                    | 0, hq => cases hq; rfl
                    | 1, hq => cases hq; rfl
                    | 2, hq => cases hq; rfl
                    | 3, hq => cases hq; rfl
                    | 4, hq => cases hq; rfl
                    | 5, hq => cases hq; rfl
                    | 6, hq => cases hq; rfl
                    | 7, hq => cases hq; rfl
                    | 8, hq => cases hq; rfl
                    | k + 9, hq => simp [ov_cl] at hq
                  rw [e1]
                  exact hKn.2.1
                have es : st.map (ov_cv b h0) = (((st.take (ov_np y)).reverse).map (ov_cv b h0)).reverse ++ .ref (h0 + a) :: r.map (ov_cv b h0) := by
                  rw [ov_split (n := ov_np y), hst]
                  rfl
                have hts := X.2.2.2.2.1
                refine ov_after (rest := r) (va_runV hS0 hM ⟨ov_cb X hRf hRl w2 w1, hts _ (w3 rfl).1, hts _ (w3 rfl).2⟩ ⟨ov_blind, ⟨cellV, f1, by rw [f3]; rfl, hcls⟩, hpc _⟩ rfl (by simp; omega) hl.1 es (lv_room (by rw [ov_cats]; exact Nat.le_of_ble_eq_true hb4)) hd hcells) hl hS g1 g2 hn hz kk
            · replace h : (match μ.1[a + 1]? with
                | some (0, c, _) => bif Nat.beq (ov_oc y') (c + 1) && Nat.ble (r'.map fun v => v.category).sum 8 && Nat.blt 0 (ov_mx y') then some (y', .ref (a + 1) :: (st.take (ov_np y')).reverse, r') else none
                | _ => none) = some (y, as, r) := h
              rw [ha] at h
              cases h
          all_goals cases h
    · cases h
  · rename_i idx hd
    unfold ov_lkd at h
    split at h
    · rename_i k y' w hf
      cases hk : Nat.beq k 2 with
      | false => rw [hk] at h; cases h
      | true =>
        rw [hk] at h
        cases ov_beq hk
        obtain ⟨w1, w2, -, -, w3⟩ := ov_link hf
        unfold ov_ca at h
        cases hb : (Nat.ble (ov_np y') st.length && Nat.ble (ov_as ((st.take (ov_np y')).reverse)).length (ov_mx y' - (if 2 = 0 then 0 else 1))) with
        | false => rw [hb] at h; cases h
        | true =>
          rw [hb] at h
          simp only [cond_true] at h
          simp only [Bool.and_eq_true] at hb
          generalize hst : List.drop (ov_np y') st = rr at h
          rcases rr with _ | ⟨v0, r'⟩
          · cases h
          rcases v0 with _ | _ | _ | _ | _ | a | _
          case ref =>
            rcases a with _ | a
            · cases h
            replace h : (bif Nat.ble (r'.map fun v => v.category).sum 8 && Nat.blt 0 (ov_mx y') then some (y', .ref (a + 1) :: (st.take (ov_np y')).reverse, r') else none) = some (y, as, r) := h
            cases hb2 : (Nat.ble (r'.map fun v => v.category).sum 8 && Nat.blt 0 (ov_mx y')) with
            | false => rw [hb2] at h; cases h
            | true =>
              rw [hb2] at h
              cases h
              simp only [Bool.and_eq_true] at hb2
              obtain ⟨hb4, hb5⟩ := hb2
              have hlen := Nat.le_of_ble_eq_true hb.1
              have hmx0 : (ov_as ((st.take (ov_np y)).reverse)).length ≤ ov_mx y - 1 := Nat.le_of_ble_eq_true hb.2
              have hpos : 0 < ov_mx y := Nat.le_of_ble_eq_true hb5
              have hmx : (ov_as (.ref (a + 1) :: (st.take (ov_np y)).reverse)).length ≤ ov_mx y := by
                rw [ov_as_cons, List.length_append]
                show 1 + _ ≤ _
                omega
              have hM := hOk y _ μ rv μ' w2 hmx hC
              have es : st.map (ov_cv b h0) = (((st.take (ov_np y)).reverse).map (ov_cv b h0)).reverse ++ .ref (h0 + a) :: r.map (ov_cv b h0) := by
                rw [ov_split (n := ov_np y), hst]
                rfl
              have hts := X.2.2.2.2.1
              obtain ⟨w4, w5, w6⟩ := w3 rfl
              have hcb := ov_cb (mc := μ'.1.length - μ.1.length) (ms := ov_sz μ'.1 - ov_sz μ.1) X hRf hRl w2 w1
              rw [w6] at hcb
              refine ov_after (rest := r) (va_runI hS0 hM ⟨hcb, w5, hts _ w4⟩ ⟨ov_blind, hpc _⟩ rfl (by simp; omega) hl.1 es (lv_room (by rw [ov_cats]; exact Nat.le_of_ble_eq_true hb4)) hd hcells) hl hS g1 g2 hn hz kk
          all_goals cases h
    · cases h
  · cases h
theorem ov_run_sound {d : Nat} (hOk : ov_Ok d l D b h0) (X : ov_X p s m args meth c D M) (hRf : d + 1 ≤ R.frames) (hRl : 64 * (d + 1) ≤ R.locals) {x' : ov_Cfg} (hc : x'.2.2.2.1.length - n0 ≤ R.cells) (hs : ov_sz x'.2.2.2.1 - z0 ≤ R.slots)
    (kk : ov_W p l e R s m args below meth c Q D b h0 n0 z0 M x') : ∀ (k : Nat) (x : ov_Cfg), ov_N (ov_C d) M k x x' → n0 ≤ x.2.2.2.1.length → z0 ≤ ov_sz x.2.2.2.1 → ov_W p l e R s m args below meth c Q D b h0 n0 z0 M x
  | 0, x, h, _, _ => by cases h; exact kk
  | k + 1, x, h, hn, hz => by
    obtain ⟨z, hI, hN⟩ := h
    have h2 := ov_growN hN
    rcases hI with hst | ⟨y, as, r, rv, μ1, hi, hC, rfl⟩
    · have h1 := ov_grow hst
      exact ov_step_sound X (by omega) (by omega) hst hn hz (by omega) (by omega) (ov_run_sound hOk X hRf hRl hc hs kk k z hN (by omega) (by omega))
    · have h1 := ov_growC d _ _ _ _ _ hC
      dsimp only at h2
      exact ov_inv_sound hOk X hRf hRl hi hC hn hz (by omega) (by omega) (ov_run_sound hOk X hRf hRl hc hs kk k _ hN (by dsimp only; omega) (by dsimp only; omega))
end ov_S
end
section
-- EVERY METHOD MEETS ITS CONTRACT; THE LAW OUT OF A PURE RUN
theorem ov_ent_av {b h0 : Nat} : ∀ (vs : List Value) (k i : Nat) (v : Value), (ov_as vs)[i]? = some (some v) → (k + i, ov_cv b h0 v) ∈ lv_args k (vs.map (ov_cv b h0))
  | [], k, i, v, h => by simp [ov_as] at h
  | w :: vs, k, i, v, h => by
    rw [ov_as_cons] at h
    show _ ∈ (k, ov_cv b h0 w) :: lv_args (if (ov_cv b h0 w).category = 2 then k + 2 else k + 1) (vs.map (ov_cv b h0))
    rw [ov_cat]
    by_cases hc : w.category = 2
    · rw [if_pos hc] at h ⊢
      match i, h with
      | 0, h =>
        simp at h
        subst h
        exact List.mem_cons_self
      | 1, h => simp at h
      | i + 2, h =>
        have h : (ov_as vs)[i]? = some (some v) := by simpa using h
        have := ov_ent_av (b := b) (h0 := h0) vs (k + 2) i v h
        rw [show k + (i + 2) = k + 2 + i by omega]
        exact List.mem_cons_of_mem _ this
    · rw [if_neg hc] at h ⊢
      match i, h with
      | 0, h =>
        simp at h
        subst h
        exact List.mem_cons_self
      | i + 1, h =>
        have h : (ov_as vs)[i]? = some (some v) := by simpa using h
        have := ov_ent_av (b := b) (h0 := h0) vs (k + 1) i v h
        rw [show k + (i + 1) = k + 1 + i by omega]
        exact List.mem_cons_of_mem _ this
theorem ov_as_len {b h0 : Nat} (vs : List Value) : (lg_sl (vs.map (ov_cv b h0))).length = (ov_as vs).length := by
  induction vs with
  | nil => rfl
  | cons w vs ih =>
    rw [ov_as_cons, List.length_append, ← ih]
    show ((if (ov_cv b h0 w).category = 2 then [Slot.val (ov_cv b h0 w), Slot.second] else [Slot.val (ov_cv b h0 w)]) ++ lg_sl (vs.map (ov_cv b h0))).length = _
    rw [List.length_append, ov_cat]
    split <;> rfl
theorem ov_LV_ent {b h0 n : Nat} {as : List Value} {ls : Array Slot} (h : lv_has ls n (lv_args 0 (as.map (ov_cv b h0)))) (hn : (ov_as as).length ≤ n) : ov_LV b h0 ls n (ov_as as ++ List.replicate (n - (ov_as as).length) none) := by
  refine ⟨h.1, h.2.1, by rw [List.length_append, List.length_replicate]; omega, fun i v hi => ?_⟩
  by_cases hl : i < (ov_as as).length
  · rw [List.getElem?_append_left hl] at hi
    have := ov_ent_av (b := b) (h0 := h0) as 0 i v hi
    rw [Nat.zero_add] at this
    exact h.2.2 _ this
  · rw [List.getElem?_append_right (by omega), List.getElem?_replicate] at hi
    split at hi <;> cases hi
set_option maxHeartbeats 2000000 in
theorem ov_ok (l : Launch) (D : ov_G) (b h0 : Nat) : ∀ d, ov_Ok d l D b h0
  | 0 => fun _ _ _ _ _ _ _ h => h.elim
  | d + 1 => by
    intro y as μ rv μ' hy hmx hC
    obtain ⟨k, x, hN, hret, rfl⟩ := hC
    refine Met.ofW (cc := ov_byt y) (maxL := ov_mx y) (ret := ov_rt y) (ov_mfacts hy).1 rfl ?_
    intro p e s m args below meth c s₁ B hml hv
    obtain ⟨rfl, hH, hKK⟩ := hv
    have hts := atoms_spec (ws := ov_ws y) B.pre
    have X : ov_X p s m (as.map (ov_cv b h0)).toArray meth c D y := ⟨B.exec, B.bytes, hml, findClass_of_methodNamed B.named, fun w hw => hts w (List.mem_cons_of_mem _ hw), fun h => (name_of_methodNamed B.named B.method).1.trans h, hKK⟩
    have hl := lv_entry (as.map (ov_cv b h0)) (n := ov_mx y) (by rw [ov_as_len]; exact hmx)
    rw [lg_entry_eq]
    generalize (lg_sl (as.map (ov_cv b h0)) ++ List.replicate (ov_mx y - (lg_sl (as.map (ov_cv b h0))).length) Slot.unset).toArray = ls at hl ⊢
    have hLV := ov_LV_ent hl hmx
    have hgr := ov_growN hN
    have hfin : ov_W p l e (ov_rm (d + 1) (x.2.2.2.1.length - μ.1.length) (ov_sz x.2.2.2.1 - ov_sz μ.1)) s m (as.map (ov_cv b h0)).toArray below meth c (MQ below (ov_Qc D b h0 rv x.2.2.2) (as.map (ov_cv b h0)).toArray s (x.2.2.2.1.length - μ.1.length) (ov_sz x.2.2.2.1 - ov_sz μ.1) (fun q => h0 ≤ q)) D b h0 μ.1.length (ov_sz μ.1) y x := by
      intro ls H locs hl hH hS
      obtain ⟨pc, lv, st, μ'⟩ := x
      have hq : ∀ t : State, t.heap = H → s.WarmedH t.vm → ov_Qc D b h0 rv μ' (as.map (ov_cv b h0)).toArray s (.returned (rv.map (ov_cv b h0))) t := fun t ht hW =>
        ⟨rfl, by rw [ht]; exact hH.moved hW.alike, by rw [ht]; exact hS.1, fun q h1 h2 => by rw [ht]; exact hS.2.1 q h2 (Nat.not_le.mpr h1)⟩
      have hlk := B.notSynchronized
      unfold ov_ret at hret
      split at hret
      · rename_i v hd hrt hst
        cases hret
        dsimp only at hst
        subst hst
        exact W.iret X.1 X.2.1 (B.returns.trans hrt) hq hS.2.2 hd hlk
      · rename_i v hd hrt hst
        split at hret
        · rename_i hv
          cases hret
          dsimp only at hst
          subst hst
          exact W.zret X.1 X.2.1 (B.returns.trans hrt) (by rcases hv with rfl | rfl <;> rfl) hq hS.2.2 hd hlk
        · cases hret
      · rename_i v hd hrt hst
        cases hret
        dsimp only at hst
        subst hst
        exact W.lret X.1 X.2.1 (B.returns.trans hrt) hq hS.2.2 hd hlk
      · rename_i hd hrt hst
        cases hret
        dsimp only at hst
        subst hst
        exact W.vret X.1 X.2.1 (B.returns.trans hrt) hq hS.2.2 hd hlk
      · cases hret
    have hrun := ov_run_sound (ov_ok l D b h0 d) X (R := ov_rm (d + 1) (x.2.2.2.1.length - μ.1.length) (ov_sz x.2.2.2.1 - ov_sz μ.1)) (Nat.le_refl _) (Nat.le_refl _) (Nat.le_refl _) (Nat.le_refl _) hfin k _ hN (Nat.le_refl _) (Nat.le_refl _) ls s.heap [] hLV hH va_S.rf
    dsimp only [ov_ent] at hrun
    rw [Nat.sub_self, Nat.sub_self] at hrun
    exact hrun
def ov_eqm (L : Nat) (xs : Nat → Int32) (μ ν : ov_Mem) : Prop := μ.1.length = ν.1.length ∧ ν.1[0]? = some (9, 0, L) ∧ (∀ j, j < L → ν.2 0 j = .int (xs j)) ∧
  ∀ (i : Nat) (sh : ov_Sh), ν.1[i + 1]? = some sh → μ.1[i + 1]? = some sh ∧ ∀ k, k < sh.2.2 → μ.2 (i + 1) k = ν.2 (i + 1) k
theorem ov_HP.eqm {D : ov_G} {b h0 : Nat} {s : State} {μ ν : ov_Mem} {H : Heap} (h : ov_HP D b h0 s μ H) (e : ov_eqm D.2.1 D.2.2 μ ν) : ov_HP D b h0 s ν H := by
  obtain ⟨h1, h2, ⟨h5, h3⟩, h6⟩ := h
  obtain ⟨e1, e0, e2, e3⟩ := e
  refine ⟨by rw [← e1]; exact h1, h2, ⟨h5, Or.inl ⟨e0, e2⟩⟩, fun i sh hi => ?_⟩
  obtain ⟨hi, hv⟩ := e3 i sh hi
  have hc := h6 i sh hi
  refine ⟨fun z => ?_, fun z => ?_, fun z j hj => ?_⟩
  · obtain ⟨r, g1, g2, g3⟩ := hc.1 z
    exact ⟨r, g1, g2, g3.to (fun k hk => congrArg (ov_cv b h0) (hv k hk))⟩
  · obtain ⟨cA, g1, g2, g3⟩ := hc.2.1 z
    refine ⟨cA, g1, g2, ?_⟩
    rw [g3]
    unfold arrV
    congr 3
    funext j
    dsimp only
    rw [hv j.val j.isLt]
  · obtain ⟨x, hx⟩ := hc.2.2 z j hj
    exact ⟨x, (congrArg (ov_cv b h0) (hv j hj).symm).trans hx⟩
def ov_m1 : ov_Mem := ([(8, 0, 0)], fun _ _ => .null)
/-- what is left: a pure run of the law -/
def ov_Law (L : Nat) (xs : Nat → Int32) : Prop := ∃ (d k1 k2 : Nat) (x1 x2 : ov_Cfg) (μ : ov_Mem), d ≤ 1000 ∧ ov_N (ov_C d) 0 k1 (0, [some (.ref 0), none, none, none], [], ov_m1) x1 ∧ ov_sz x1.2.2.2.1 ≤ ov_sz μ.1 ∧ ov_eqm L xs x1.2.2.2 μ ∧ ov_N (ov_C d) 0 k2 (x1.1, x1.2.1, x1.2.2.1, μ) x2 ∧
  decode code x2.1 = .ok (.ireturn, 1) ∧ x2.2.2.1 = [.int 1] ∧ x2.2.2.2.1.length ≤ 1000 ∧ ov_sz x2.2.2.2.1 ≤ 10000
theorem ov_in_tbl {w : Cond} (h : w ∈ ov_tt) : w ∈ lw_tbl := (List.mem_filter.mp h).1
def R_law : String := "OnlyEntrancesLaw"
def lw_P (b : Addr) (xs : List Int32) (args : Array Value) (s : State) : Prop := args = #[.ref b] ∧ s.IntsAt b xs ∧ xs.length ≤ 256 ∧ (Jvm.Cond.and given_1 narrow_1).before args s = true
def lw_Q (_ : Array Value) (s : State) (o : Outcome) (t : State) : Prop := o = .returned (some (.int 1)) ∧ Framed s o t [] 600000 7302250
def lw_Z (below : List Frame) (a : Array Value) (s : State) : State → Prop := fun t => ∃ o, t.status = .running ∧ Ended t below o ∧ lw_Q a s o t
/-- the law's own end, with 1 on the stack, nothing written that was there before, its room as the claim has it -/
theorem lw_ret {p : Program} {l : Launch} {e : Env} {s : State} {m : MethodId} {below : List Frame} {meth : Method} {c : Code} {b : Nat} (hx : p.tables.exec = Jvm.exec) (hb : c.code = code) (hr : meth.sig.returnType = ret) (hlocks : meth.locks = false) {pc : Nat} {H : Heap} {ls : Array Slot} (hdg : decode code pc = .ok (.ireturn, 1)) : W p l e room_1 s m #[Value.ref b] below meth c H [] 600000 7302250 (lw_Z below #[Value.ref b] s) (F0 m pc ls [.int 1]) := by
  intro T hT X
  obtain ⟨fs, hret, hrun, hended, hW, hframe⟩ := X.leave (v := some (.int 1)) (hlocks := hlocks) (fun h => by rw [hr] at h; cases h)
  have hmeth' : T.vm.method? m = some meth := X.method'
  refine ⟨T.setFrames fs, ?_, .returned (some (.int 1)), hrun, hended, rfl, ⟨_, rfl⟩, hW, hframe⟩
  jvm_step X.here [X.here.top, hx, hb, hdg, hmeth', hr, ret, narrow_b1]
  (try refine ⟨rfl, ?_⟩); (try refine ⟨rfl, ?_⟩)
  first | (intro acts; rw [hret _ acts rfl rfl rfl]) | rw [hret _ _ rfl rfl rfl]
  exact Steps.refl _
/-- what holds at the law's entry: the machine, the code, the tables' words (any of lw_tbl by 'hts w (by decide +kernel)'), the script of L ints xs at the cell b, what the Statement gives of the start (any of its parts by flat_of_before) -/
def lw_At (p : Program) (s : State) (m : MethodId) (meth : Method) (c : Code) (b L : Nat) (xs : Nat → Int32) : Prop :=
  p.tables.exec = Jvm.exec ∧ c.code = code ∧ meth.sig.returnType = ret ∧ c.maxLocals = 4 ∧ s.vm.findClass R_law = some m.cls ∧ (∀ w ∈ lw_tbl, w.before #[Value.ref b] s = true) ∧ va_X b L xs s s.heap ∧ b < s.heap.size ∧ meth.locks = false ∧ (Jvm.Cond.and given_1 narrow_1).before #[Value.ref b] s = true
-- ===== YOUR PART BEGINS =====
set_option maxHeartbeats 2000000 in
theorem whole_start {p : Program} {e : Env} {s : State} {m : MethodId} {below : List Frame} {meth : Method} {c : Code} (l : Launch) (hflags : l.flags = flags0) {b L : Nat} {xs : Nat → Int32} (hL : L ≤ 256) (C0 : lw_At p s m meth c b L xs) (hLaw : ov_Law L xs) : W p l e room_1 s m #[Value.ref b] below meth c s.heap [] 0 0 (lw_Z below #[Value.ref b] s) (entryFrame m ([Value.ref b] : List Value).toArray 4) := by
  obtain ⟨hx, hb, hr, hml, hown, hts, hX, hbl, hlocks, hgv⟩ := id C0
  have hts2 : ∀ w ∈ ov_tt, w.before #[Value.ref b] s = true := fun w hw => hts w (ov_in_tbl hw)
  have hkn : ∀ (k : Nat) (q : vw_C), ov_cl[k]? = some q → ∃ z : ClassId × (Nat → Nat), u_Kn s q.1 q.2.1 q.2.2 z.1 z.2 := by
    intro k q hq
    have hcl := (ov_clOK k q hq).1
    have hins : (Cond.instantiable q.1 q.2.2).before #[Value.ref b] s = true := by
      have hall : ov_cl.all (fun r => ov_nt.any fun e => match ov_cl[e.2.1]? with
        | some r' => decide (r'.1 = r.1) && decide (r'.2.2 = r.2.2) && ov_nOK e
        | none => false) = true := by decide +kernel
      have h1 := List.all_eq_true.mp hall q (List.mem_of_getElem? hq)
      obtain ⟨en, hen, h2⟩ := List.any_eq_true.mp h1
      split at h2
      · rename_i r' hr'
        simp only [Bool.and_eq_true, decide_eq_true_eq] at h2
        obtain ⟨⟨h3, h4⟩, h5⟩ := h2
        unfold ov_nOK at h5
        rw [hr'] at h5
        simp only [Bool.and_eq_true] at h5
        rw [← h3, ← h4]
        exact hts2 _ (ov_ixm h5.1.2)
      · cases h2
    obtain ⟨cC, iS, h⟩ := u_known (ws := ov_tt) hts2 hcl hins
    exact ⟨(cC, iS), h⟩
  obtain ⟨D0, hD⟩ : ∃ D : va_G, ∀ (k : Nat) (q : vw_C), ov_cl[k]? = some q → u_Kn s q.1 q.2.1 q.2.2 (D.1 k) (D.2 k) := by
    have : ∀ k : Nat, ∃ z : ClassId × (Nat → Nat), ∀ q : vw_C, ov_cl[k]? = some q → u_Kn s q.1 q.2.1 q.2.2 z.1 z.2 := by
      intro k
      cases hq : ov_cl[k]? with
      | none => exact ⟨(0, fun _ => 0), fun q h => by cases h⟩
      | some q =>
        obtain ⟨z, hz⟩ := hkn k q hq
        exact ⟨z, fun q' h => by cases h; exact hz⟩
    exact ⟨(fun k => (Classical.choose (this k)).1, fun k => (Classical.choose (this k)).2), fun k q hq => Classical.choose_spec (this k) q hq⟩
  obtain ⟨D, hDD⟩ : ∃ D : ov_G, D = (D0, L, xs) := ⟨_, rfl⟩
  have hKK : ov_KK D s := by subst hDD; exact ⟨⟨hD, fun k q h => by simp at h⟩, va_AO.of (hts _ ov_w_ao)⟩
  have X : ov_X p s m #[Value.ref b] meth c D 0 := ⟨hx, hb, hml, hown, hts2, fun h => absurd h (by decide +kernel), hKK⟩
  have hH : ov_HP D b s.heap.size s ov_m1 s.heap := by
    subst hDD
    refine ⟨rfl, hbl, ⟨hX, Or.inr rfl⟩, fun i sh h => ?_⟩
    simp [ov_m1] at h
  have hl := lv_entry (([.ref 0] : List Value).map (ov_cv b s.heap.size)) (n := 4) (Nat.le_of_ble_eq_true rfl)
  rw [show ([Value.ref b] : List Value) = ([.ref 0] : List Value).map (ov_cv b s.heap.size) from rfl, lg_entry_eq]
  generalize (lg_sl (([.ref 0] : List Value).map (ov_cv b s.heap.size)) ++ List.replicate (4 - (lg_sl (([.ref 0] : List Value).map (ov_cv b s.heap.size))).length) Slot.unset).toArray = ls at hl ⊢
  have hLV : ov_LV b s.heap.size ls 4 [some (.ref 0), none, none, none] := ov_LV_ent (as := [.ref 0]) hl (Nat.le_of_ble_eq_true rfl)
  obtain ⟨d, k1, k2, x1, x2, μ, hd, hN1, hz1, hE, hN2, hdec, hst, hlen, hsz⟩ := hLaw
  have g2 := ov_growN hN2
  have g1 := ov_growN hN1
  have hfin : ov_W p l e room_1 s m #[Value.ref b] below meth c (lw_Z below #[Value.ref b] s) D b s.heap.size 1 0 0 x2 := by
    intro ls H locs hl hH hS
    rw [hst]
    refine va_forget hS.2.2 ?_
    refine W.widen (k := 600000) (n := 7302250) (by omega) (by omega) ?_
    exact lw_ret hx hb hr hlocks hdec
  have e1 : x1.2.2.2.1.length = μ.1.length := hE.1
  have hm1 : ov_m1.1.length = 1 := rfl
  have hm2 : ov_sz ov_m1.1 = 0 := rfl
  have hR1 : d + 1 ≤ room_1.frames := by show d + 1 ≤ 2048; omega
  have hR2 : 64 * (d + 1) ≤ room_1.locals := by show 64 * (d + 1) ≤ 84000; omega
  have hB1 : x2.2.2.2.1.length - 1 ≤ room_1.cells := by show _ ≤ 600000; omega
  have hB2 : ov_sz x2.2.2.2.1 - 0 ≤ room_1.slots := by show _ ≤ 7302250; omega
  dsimp only at g1 g2
  rw [hm1, hm2] at g1
  have hmid := ov_run_sound (ov_ok l D b s.heap.size d) X hR1 hR2 hB1 hB2 hfin k2 _ hN2 (by dsimp only; omega) (Nat.zero_le _)
  have hmid2 : ov_W p l e room_1 s m #[Value.ref b] below meth c (lw_Z below #[Value.ref b] s) D b s.heap.size 1 0 0 x1 := by
    intro ls H locs hl hH hS
    have := hmid ls H locs hl (hH.eqm (by rw [hDD]; exact hE)) hS
    dsimp only at this
    refine W.widen (k := μ.1.length - 1) (n := ov_sz μ.1 - 0) (by omega) (by omega) ?_
    exact this
  have hrun := ov_run_sound (ov_ok l D b s.heap.size d) X hR1 hR2 (by show _ ≤ 600000; omega) (by show _ ≤ 7302250; omega) hmid2 k1 _ hN1 (by dsimp only; omega) (Nat.zero_le _) ls s.heap [] hLV hH va_S.rf
  dsimp only at hrun
  rw [hm1, hm2] at hrun
  exact hrun
end
section
-- CLOSED RUNS BY EVALUATION
def ov_runF : Nat → Nat → Nat → ov_Cfg → Option (Option Value × ov_Mem)
  | 0, _, _, _ => none
  | F + 1, d, M, x => match ov_ret M x with
    | some rv => some (rv, x.2.2.2)
    | none => match ov_inv M x with
      | some (y, as, r) => (match d with
        | 0 => none
        | d' + 1 => (match ov_runF F d' y (ov_ent y as x.2.2.2) with
          | some (rv, μ') => ov_runF F (d' + 1) M (x.1 + 3, x.2.1, rv.toList ++ r, μ')
          | none => none))
      | none => (match ov_step M x with
        | some z => ov_runF F d M z
        | none => none)
theorem ov_runF_ok : ∀ (F d M : Nat) (x : ov_Cfg) (rv : Option Value) (μ' : ov_Mem), ov_runF F d M x = some (rv, μ') → ∃ (k : Nat) (x' : ov_Cfg), ov_N (ov_C d) M k x x' ∧ ov_ret M x' = some rv ∧ x'.2.2.2 = μ'
  | 0, _, _, _, _, _, h => by cases h
  | F + 1, d, M, x, rv, μ', h => by
    unfold ov_runF at h
    split at h
    · rename_i rv' hr
      cases h
      exact ⟨0, x, rfl, hr, rfl⟩
    · split at h
      · rename_i y as r hi
        cases d with
        | zero => cases h
        | succ d' =>
          dsimp only at h
          split at h
          · rename_i rv1 μ1 hc
            obtain ⟨k1, x1, g1, g2, g3⟩ := ov_runF_ok F d' y _ _ _ hc
            obtain ⟨k, x', e1, e2, e3⟩ := ov_runF_ok F (d' + 1) M _ _ _ h
            exact ⟨k + 1, x', ⟨_, Or.inr ⟨y, as, r, rv1, μ1, hi, ⟨k1, x1, g1, g2, g3⟩, rfl⟩, e1⟩, e2, e3⟩
          · cases h
      · split at h
        · rename_i z hz
          obtain ⟨k, x', e1, e2, e3⟩ := ov_runF_ok F d M z _ _ h
          exact ⟨k + 1, x', ⟨z, Or.inl hz, e1⟩, e2, e3⟩
        · cases h
def ov_runS (stop : Nat) : Nat → Nat → Nat → ov_Cfg → Option ov_Cfg
  | 0, _, _, _ => none
  | F + 1, d, M, x => bif Nat.beq x.1 stop then some x else match ov_inv M x with
      | some (y, as, r) => (match d with
        | 0 => none
        | d' + 1 => (match ov_runF F d' y (ov_ent y as x.2.2.2) with
          | some (rv, μ') => ov_runS stop F (d' + 1) M (x.1 + 3, x.2.1, rv.toList ++ r, μ')
          | none => none))
      | none => (match ov_step M x with
        | some z => ov_runS stop F d M z
        | none => none)
theorem ov_runS_ok {stop : Nat} : ∀ (F d M : Nat) (x x' : ov_Cfg), ov_runS stop F d M x = some x' → ∃ (k : Nat), ov_N (ov_C d) M k x x'
  | 0, _, _, _, _, h => by cases h
  | F + 1, d, M, x, x', h => by
    unfold ov_runS at h
    cases hb : Nat.beq x.1 stop with
    | true => rw [hb] at h; cases h; exact ⟨0, rfl⟩
    | false =>
      rw [hb, cond_false] at h
      split at h
      · rename_i y as r hi
        cases d with
        | zero => cases h
        | succ d' =>
          dsimp only at h
          split at h
          · rename_i rv1 μ1 hc
            obtain ⟨k1, x1, g1, g2, g3⟩ := ov_runF_ok F d' y _ _ _ hc
            obtain ⟨k, e1⟩ := ov_runS_ok F (d' + 1) M _ _ h
            exact ⟨k + 1, _, Or.inr ⟨y, as, r, rv1, μ1, hi, ⟨k1, x1, g1, g2, g3⟩, rfl⟩, e1⟩
          · cases h
      · split at h
        · rename_i z hz
          obtain ⟨k, e1⟩ := ov_runS_ok F d M z _ h
          exact ⟨k + 1, z, Or.inl hz, e1⟩
        · cases h
def ov_x0 : ov_Cfg := (0, [some (.ref 0), none, none, none], [], ov_m1)
def ov_x1o : Option ov_Cfg := ov_runS 18 1000 8 0 ov_x0
def ov_x1 : ov_Cfg := ov_x1o.getD ov_x0
theorem ov_x1s : ov_x1o.isSome = true := by decide +kernel
theorem ov_x1r : ∃ k, ov_N (ov_C 8) 0 k ov_x0 ov_x1 := by
  have h := ov_x1s
  unfold ov_x1
  cases hq : ov_x1o with
  | none => rw [hq] at h; cases h
  | some x => exact ov_runS_ok _ _ _ _ _ hq
def ov_sht : List ov_Sh := [(0, 0, 12), (0, 1, 2), (1, 0, 60),
  (0, 2, 12), (1, 0, 3), (1, 0, 4), (1, 0, 6), (1, 0, 6), (1, 0, 6), (1, 0, 6),
  (0, 2, 12), (1, 0, 3), (1, 0, 4), (1, 0, 6), (1, 0, 6), (1, 0, 6), (1, 0, 6),
  (0, 3, 5), (1, 0, 6), (1, 0, 4), (0, 3, 5), (1, 0, 6), (1, 0, 4),
  (0, 4, 4), (1, 0, 14), (1, 0, 14), (1, 0, 14), (0, 5, 3), (1, 0, 6), (1, 0, 6), (0, 6, 4),
  (0, 7, 7), (1, 0, 9), (1, 0, 9), (3, 0, 2), (0, 3, 5), (1, 0, 6), (1, 0, 4), (0, 3, 5), (1, 0, 6), (1, 0, 4),
  (0, 8, 43), (1, 0, 60), (1, 0, 3), (1, 0, 6), (1, 0, 6), (1, 0, 6), (1, 0, 6), (1, 0, 3), (1, 0, 4), (1, 0, 6), (1, 0, 6), (1, 0, 6), (1, 0, 6),
  (1, 0, 12), (1, 0, 12), (1, 0, 12), (1, 0, 168), (1, 0, 24), (2, 0, 2), (1, 0, 6), (1, 0, 6), (1, 0, 18), (1, 0, 6), (1, 0, 18), (1, 0, 64)]
theorem ov_x1sh : ov_x1.2.2.2.1 = (8, 0, 0) :: ov_sht := by decide +kernel
theorem ov_x1a : ov_x1.1 = 18 ∧ ov_x1.2.1 = [some (.ref 0), some (.ref 1), some (.ref 42), some (.int 0)] ∧ ov_x1.2.2.1 = [] := by decide +kernel
end
section
-- THE HEAP WHILE THE LAW RUNS: numbers in S, the two seeds in G, all else fixed
def ov_st : List (List Nat) := [[], [4, 6, 13, 20, 23, 26, 30, 33, 34, 37, 0, 1], [5, 0], [],
  [0, 0, 0, 0, 7, 8, 9, 10, 11, 12, 0, 0], [], [], [], [], [], [],
  [0, 0, 0, 0, 14, 15, 16, 17, 18, 19, 0, 0], [], [], [], [], [], [],
  [6, 21, 22, 0, 0], [], [], [6, 24, 25, 0, 0], [], [],
  [27, 28, 29, 0], [], [], [], [31, 32, 0], [], [], [6, 23, 0, 0],
  [6, 20, 23, 35, 36, 0, 0], [], [], [38, 41], [6, 39, 40, 0, 0], [], [], [6, 42, 43, 0, 0], [], [],
  [0, 45, 0, 0, 0, 46, 0, 0, 47, 48, 0, 49, 50, 0, 51, 0, 52, 0, 53, 54, 0, 55, 56, 57, 58, 59, 60, 0, 61, 62, 0, 63, 64, 1, 65, 0, 0, 0, 66, 0, 0, 67, 68]]
def ov_cd (a k : Nat) : Nat := (ov_st.getD a []).getD k 0
abbrev ov_S : Type := Nat → Nat → Int32
abbrev ov_L2 : Type := Nat → Int64
def ov_vv (S : ov_S) (G : ov_L2) (a k : Nat) : Value := match ov_cd a k with
  | 0 => .int (S a k)
  | 1 => .long (G a)
  | r + 2 => .ref r
def ov_mm (L : Nat) (S : ov_S) (G : ov_L2) : ov_Mem := ((9, 0, L) :: ov_sht, ov_vv S G)
def ov_up (S : ov_S) (a k : Nat) (x : Int32) : ov_S := fun i j => if i = a ∧ j = k then x else S i j
def ov_ug (G : ov_L2) (a : Nat) (x : Int64) : ov_L2 := fun i => if i = a then x else G i
def ov_R (L d M : Nat) (as : List Value) (S : ov_S) (G : ov_L2) (rv : Option Value) (S' : ov_S) (G' : ov_L2) : Prop := ov_C d M as (ov_mm L S G) rv (ov_mm L S' G')
-- fewer known locals
def ov_le : List (Option Value) → List (Option Value) → Prop
  | [], [] => True
  | none :: r, _ :: s => ov_le r s
  | some v :: r, o :: s => o = some v ∧ ov_le r s
  | _, _ => False
theorem ov_le_rf : ∀ l : List (Option Value), ov_le l l
  | [] => trivial
  | none :: r => ov_le_rf r
  | some _ :: r => ⟨rfl, ov_le_rf r⟩
theorem ov_le_tr : ∀ {a b c : List (Option Value)}, ov_le a b → ov_le b c → ov_le a c
  | [], [], [], _, _ => trivial
  | none :: a, none :: b, o :: c, h1, h2 => ov_le_tr (a := a) (b := b) (c := c) h1 h2
  | none :: a, some v :: b, o :: c, h1, h2 => ov_le_tr (a := a) (b := b) (c := c) h1 h2.2
  | some v :: a, o :: b, o' :: c, h1, h2 => by
    obtain ⟨e, h1⟩ := h1
    subst e
    exact ⟨h2.1, ov_le_tr h1 h2.2⟩
theorem ov_le_len : ∀ {a b : List (Option Value)}, ov_le a b → a.length = b.length
  | [], [], _ => rfl
  | none :: a, o :: b, h => by simp [ov_le_len (a := a) (b := b) h]
  | some v :: a, o :: b, h => by simp [ov_le_len h.2]
theorem ov_le_get : ∀ {a b : List (Option Value)} (k : Nat) {v : Value}, ov_le a b → a.getD k none = some v → b.getD k none = some v
  | [], [], k, v, _, h => by simp at h
  | none :: a, o :: b, 0, v, _, h => by simp at h
  | none :: a, o :: b, k + 1, v, h1, h => by
    simp only [List.getD_cons_succ] at h ⊢
    exact ov_le_get (a := a) (b := b) k h1 h
  | some w :: a, o :: b, 0, v, h1, h => by
    simp only [List.getD_cons_zero] at h ⊢
    exact h1.1.trans h
  | some w :: a, o :: b, k + 1, v, h1, h => by
    simp only [List.getD_cons_succ] at h ⊢
    exact ov_le_get k h1.2 h
theorem ov_le_cut {a b : List (Option Value)} (w : Bool) (h : ov_le a b) : ov_le (ov_cut w a) (ov_cut w b) := by
  cases w with
  | false => cases a <;> cases b <;> exact h
  | true =>
    match a, b, h with
    | [], [], h => exact h
    | none :: a, o :: b, h => exact h
    | some v :: a, o :: b, h => exact h.2
theorem ov_le_cs (x : Option Value) {a b : List (Option Value)} (h : ov_le a b) : ov_le (x :: a) (x :: b) := by
  cases x with
  | none => exact h
  | some v => exact ⟨rfl, h⟩
theorem ov_le_ls : ∀ {a b : List (Option Value)} (k : Nat) (v : Value), ov_le a b → ov_le (ov_ls a k v) (ov_ls b k v)
  | [], [], k, v, _ => trivial
  | none :: a, o :: b, 0, v, h => ⟨rfl, ov_le_cut _ h⟩
  | some w :: a, o :: b, 0, v, h => ⟨rfl, ov_le_cut _ h.2⟩
  | none :: a, o :: b, k + 1, v, h => by
    show ov_le ((match k, ov_two none with | 0, true => none | _, _ => none) :: ov_ls a k v) (_ :: ov_ls b k v)
    have e : (match k, ov_two none with | 0, true => none | _, _ => (none : Option Value)) = none := by cases k <;> rfl
    rw [e]
    exact ov_le_ls (a := a) (b := b) k v h
  | some w :: a, o :: b, k + 1, v, h => by
    obtain ⟨e, h⟩ := h
    subst e
    exact ov_le_cs _ (ov_le_ls k v h)
-- the judgement: from here the method comes to an answer that P tells
def ov_J (L d M pc : Nat) (lv : List (Option Value)) (st : List Value) (S : ov_S) (G : ov_L2) (P : Option Value → ov_S → ov_L2 → Prop) : Prop :=
  ∀ lv', ov_le lv lv' → ∃ (k : Nat) (x : ov_Cfg) (rv : Option Value) (S' : ov_S) (G' : ov_L2), ov_N (ov_C d) M k (pc, lv', st, ov_mm L S G) x ∧ ov_ret M x = some rv ∧ x.2.2.2 = ov_mm L S' G' ∧ P rv S' G'
section ov_E
variable {L d M pc : Nat} {lv : List (Option Value)} {st : List Value} {S S1 : ov_S} {G G1 : ov_L2} {P : Option Value → ov_S → ov_L2 → Prop}
theorem ev_fg {lv0 : List (Option Value)} (h : ov_le lv0 lv) (kk : ov_J L d M pc lv0 st S G P) : ov_J L d M pc lv st S G P := fun lv' hl => kk lv' (ov_le_tr h hl)
theorem ev_ret {rv : Option Value} (h : ∀ lv', ov_ret M (pc, lv', st, ov_mm L S G) = some rv) (hP : P rv S G) : ov_J L d M pc lv st S G P := fun lv' _ => ⟨0, _, rv, S, G, rfl, h lv', rfl, hP⟩
theorem ev_st {pc' : Nat} {st' : List Value} (h : ∀ lv', ov_step M (pc, lv', st, ov_mm L S G) = some (pc', lv', st', ov_mm L S1 G1)) (kk : ov_J L d M pc' lv st' S1 G1 P) : ov_J L d M pc lv st S G P := by
  intro lv' hl
  obtain ⟨k, x, rv, S', G', h1, h2⟩ := kk lv' hl
  exact ⟨k + 1, x, rv, S', G', ⟨_, Or.inl (h lv'), h1⟩, h2⟩
theorem ev_stk {pc' k : Nat} {v : Value} {st' : List Value} (h : ∀ lv', ov_le lv lv' → ov_step M (pc, lv', st, ov_mm L S G) = some (pc', ov_ls lv' k v, st', ov_mm L S G)) (kk : ov_J L d M pc' (ov_ls lv k v) st' S G P) : ov_J L d M pc lv st S G P := by
  intro lv' hl
  obtain ⟨n, x, rv, S', G', h1, h2⟩ := kk _ (ov_le_ls k v hl)
  exact ⟨n + 1, x, rv, S', G', ⟨_, Or.inl (h lv' hl), h1⟩, h2⟩
theorem ev_ld {pc' : Nat} {st' : List Value} (h : ∀ lv', ov_le lv lv' → ov_step M (pc, lv', st, ov_mm L S G) = some (pc', lv', st', ov_mm L S G)) (kk : ov_J L d M pc' lv st' S G P) : ov_J L d M pc lv st S G P := by
  intro lv' hl
  obtain ⟨k, x, rv, S', G', h1, h2⟩ := kk lv' hl
  exact ⟨k + 1, x, rv, S', G', ⟨_, Or.inl (h lv' hl), h1⟩, h2⟩
theorem ov_sd {i : Instr} {n : Nat} {μ : ov_Mem} (hd : decode (ov_byt M) pc = .ok (i, n)) (hb : (ov_sw i || Nat.beq n (ov_len i)) = true) : ov_step M (pc, lv, st, μ) = ov_step1 (ov_oc M) (ov_ini M) i pc lv st μ := by
  unfold ov_step
  dsimp only
  rw [hd]
  dsimp only
  rw [hb]
  rfl
/-- a plain instruction: no local is read or written -/
theorem ev_i {i : Instr} {n pc' : Nat} {st' : List Value} (hd : decode (ov_byt M) pc = .ok (i, n)) (hb : (ov_sw i || Nat.beq n (ov_len i)) = true) (h : ∀ lv', ov_step1 (ov_oc M) (ov_ini M) i pc lv' st (ov_mm L S G) = some (pc', lv', st', ov_mm L S1 G1)) (kk : ov_J L d M pc' lv st' S1 G1 P) : ov_J L d M pc lv st S G P :=
  ev_st (fun lv' => (ov_sd hd hb).trans (h lv')) kk
theorem ev_iconst {k : Int} {v : Int32} (hd : decode (ov_byt M) pc = .ok (.iconst k, 1)) (hv : Int32.ofInt k = v) (kk : ov_J L d M (pc + 1) lv (.int v :: st) S G P) : ov_J L d M pc lv (st) S G P := ev_i hd rfl (fun _ => by subst hv; rfl) kk
theorem ev_bipush {k : Int} {v : Int32} (hd : decode (ov_byt M) pc = .ok (.bipush k, 2)) (hv : (Int8.ofInt k).toInt32 = v) (kk : ov_J L d M (pc + 2) lv (.int v :: st) S G P) : ov_J L d M pc lv (st) S G P := ev_i hd rfl (fun _ => by subst hv; rfl) kk
theorem ev_sipush {k : Int} {v : Int32} (hd : decode (ov_byt M) pc = .ok (.sipush k, 3)) (hv : (Int16.ofInt k).toInt32 = v) (kk : ov_J L d M (pc + 3) lv (.int v :: st) S G P) : ov_J L d M pc lv (st) S G P := ev_i hd rfl (fun _ => by subst hv; rfl) kk
theorem ev_lconst {k : Fin 2} {v : Int64} (hd : decode (ov_byt M) pc = .ok (.lconst k, 1)) (hv : Int64.ofNat (k : Nat) = v) (kk : ov_J L d M (pc + 1) lv (.long v :: st) S G P) : ov_J L d M pc lv (st) S G P := ev_i hd rfl (fun _ => by subst hv; rfl) kk
theorem ev_iadd {x y : Int32} (hd : decode (ov_byt M) pc = .ok (.iadd, 1)) (kk : ov_J L d M (pc + 1) lv (.int (x + y) :: st) S G P) : ov_J L d M pc lv (.int y :: .int x :: st) S G P := ev_i hd rfl (fun _ => rfl) kk
theorem ev_isub {x y : Int32} (hd : decode (ov_byt M) pc = .ok (.isub, 1)) (kk : ov_J L d M (pc + 1) lv (.int (x - y) :: st) S G P) : ov_J L d M pc lv (.int y :: .int x :: st) S G P := ev_i hd rfl (fun _ => rfl) kk
theorem ev_imul {x y : Int32} (hd : decode (ov_byt M) pc = .ok (.imul, 1)) (kk : ov_J L d M (pc + 1) lv (.int (x * y) :: st) S G P) : ov_J L d M pc lv (.int y :: .int x :: st) S G P := ev_i hd rfl (fun _ => rfl) kk
theorem ev_iand {x y : Int32} (hd : decode (ov_byt M) pc = .ok (.iand, 1)) (kk : ov_J L d M (pc + 1) lv (.int (x &&& y) :: st) S G P) : ov_J L d M pc lv (.int y :: .int x :: st) S G P := ev_i hd rfl (fun _ => rfl) kk
theorem ev_ior {x y : Int32} (hd : decode (ov_byt M) pc = .ok (.ior, 1)) (kk : ov_J L d M (pc + 1) lv (.int (x ||| y) :: st) S G P) : ov_J L d M pc lv (.int y :: .int x :: st) S G P := ev_i hd rfl (fun _ => rfl) kk
theorem ev_ixor {x y : Int32} (hd : decode (ov_byt M) pc = .ok (.ixor, 1)) (kk : ov_J L d M (pc + 1) lv (.int (x ^^^ y) :: st) S G P) : ov_J L d M pc lv (.int y :: .int x :: st) S G P := ev_i hd rfl (fun _ => rfl) kk
theorem ev_ishl {x y : Int32} (hd : decode (ov_byt M) pc = .ok (.ishl, 1)) (kk : ov_J L d M (pc + 1) lv (.int (x <<< (y &&& 31)) :: st) S G P) : ov_J L d M pc lv (.int y :: .int x :: st) S G P := ev_i hd rfl (fun _ => rfl) kk
theorem ev_ishr {x y : Int32} (hd : decode (ov_byt M) pc = .ok (.ishr, 1)) (kk : ov_J L d M (pc + 1) lv (.int (x >>> (y &&& 31)) :: st) S G P) : ov_J L d M pc lv (.int y :: .int x :: st) S G P := ev_i hd rfl (fun _ => rfl) kk
theorem ev_iushr {x y : Int32} (hd : decode (ov_byt M) pc = .ok (.iushr, 1)) (kk : ov_J L d M (pc + 1) lv (.int ((x.toUInt32 >>> (y.toUInt32 &&& Int32.toUInt32 31)).toInt32) :: st) S G P) : ov_J L d M pc lv (.int y :: .int x :: st) S G P := ev_i hd rfl (fun _ => rfl) kk
theorem ev_idiv {x y : Int32} (hd : decode (ov_byt M) pc = .ok (.idiv, 1)) (hy : ¬ y = 0) (kk : ov_J L d M (pc + 1) lv (.int (x / y) :: st) S G P) : ov_J L d M pc lv (.int y :: .int x :: st) S G P := ev_i hd rfl (fun _ => by simp only [ov_step1, ov_iz]; rw [if_neg hy]) kk
theorem ev_irem {x y : Int32} (hd : decode (ov_byt M) pc = .ok (.irem, 1)) (hy : ¬ y = 0) (kk : ov_J L d M (pc + 1) lv (.int (x - x / y * y) :: st) S G P) : ov_J L d M pc lv (.int y :: .int x :: st) S G P := ev_i hd rfl (fun _ => by simp only [ov_step1, ov_iz]; rw [if_neg hy]) kk
theorem ev_ladd {x y : Int64} (hd : decode (ov_byt M) pc = .ok (.ladd, 1)) (kk : ov_J L d M (pc + 1) lv (.long (x + y) :: st) S G P) : ov_J L d M pc lv (.long y :: .long x :: st) S G P := ev_i hd rfl (fun _ => rfl) kk
theorem ev_lsub {x y : Int64} (hd : decode (ov_byt M) pc = .ok (.lsub, 1)) (kk : ov_J L d M (pc + 1) lv (.long (x - y) :: st) S G P) : ov_J L d M pc lv (.long y :: .long x :: st) S G P := ev_i hd rfl (fun _ => rfl) kk
theorem ev_lmul {x y : Int64} (hd : decode (ov_byt M) pc = .ok (.lmul, 1)) (kk : ov_J L d M (pc + 1) lv (.long (x * y) :: st) S G P) : ov_J L d M pc lv (.long y :: .long x :: st) S G P := ev_i hd rfl (fun _ => rfl) kk
theorem ev_land {x y : Int64} (hd : decode (ov_byt M) pc = .ok (.land, 1)) (kk : ov_J L d M (pc + 1) lv (.long (x &&& y) :: st) S G P) : ov_J L d M pc lv (.long y :: .long x :: st) S G P := ev_i hd rfl (fun _ => rfl) kk
theorem ev_lor {x y : Int64} (hd : decode (ov_byt M) pc = .ok (.lor, 1)) (kk : ov_J L d M (pc + 1) lv (.long (x ||| y) :: st) S G P) : ov_J L d M pc lv (.long y :: .long x :: st) S G P := ev_i hd rfl (fun _ => rfl) kk
theorem ev_ldiv {x y : Int64} (hd : decode (ov_byt M) pc = .ok (.ldiv, 1)) (hy : ¬ y = 0) (kk : ov_J L d M (pc + 1) lv (.long (x / y) :: st) S G P) : ov_J L d M pc lv (.long y :: .long x :: st) S G P := ev_i hd rfl (fun _ => by simp only [ov_step1, ov_lz]; rw [if_neg hy]) kk
theorem ev_lrem {x y : Int64} (hd : decode (ov_byt M) pc = .ok (.lrem, 1)) (hy : ¬ y = 0) (kk : ov_J L d M (pc + 1) lv (.long (x - x / y * y) :: st) S G P) : ov_J L d M pc lv (.long y :: .long x :: st) S G P := ev_i hd rfl (fun _ => by simp only [ov_step1, ov_lz]; rw [if_neg hy]) kk
theorem ev_ineg {x : Int32} (hd : decode (ov_byt M) pc = .ok (.ineg, 1)) (kk : ov_J L d M (pc + 1) lv (.int (-x) :: st) S G P) : ov_J L d M pc lv (.int x :: st) S G P := ev_i hd rfl (fun _ => rfl) kk
theorem ev_lneg {x : Int64} (hd : decode (ov_byt M) pc = .ok (.lneg, 1)) (kk : ov_J L d M (pc + 1) lv (.long (-x) :: st) S G P) : ov_J L d M pc lv (.long x :: st) S G P := ev_i hd rfl (fun _ => rfl) kk
theorem ev_i2l {x : Int32} (hd : decode (ov_byt M) pc = .ok (.i2l, 1)) (kk : ov_J L d M (pc + 1) lv (.long x.toInt64 :: st) S G P) : ov_J L d M pc lv (.int x :: st) S G P := ev_i hd rfl (fun _ => rfl) kk
theorem ev_l2i {x : Int64} (hd : decode (ov_byt M) pc = .ok (.l2i, 1)) (kk : ov_J L d M (pc + 1) lv (.int x.toInt32 :: st) S G P) : ov_J L d M pc lv (.long x :: st) S G P := ev_i hd rfl (fun _ => rfl) kk
theorem ev_lshl {x : Int64} {y : Int32} (hd : decode (ov_byt M) pc = .ok (.lshl, 1)) (kk : ov_J L d M (pc + 1) lv (.long (x <<< (y.toInt64 &&& 63)) :: st) S G P) : ov_J L d M pc lv (.int y :: .long x :: st) S G P := ev_i hd rfl (fun _ => rfl) kk
theorem ev_lushr {x : Int64} {y : Int32} (hd : decode (ov_byt M) pc = .ok (.lushr, 1)) (kk : ov_J L d M (pc + 1) lv (.long ((x.toUInt64 >>> (y.toInt64.toUInt64 &&& Int64.toUInt64 63)).toInt64) :: st) S G P) : ov_J L d M pc lv (.int y :: .long x :: st) S G P := ev_i hd rfl (fun _ => rfl) kk
theorem ev_lcmp {x y : Int64} (hd : decode (ov_byt M) pc = .ok (.lcmp, 1)) (kk : ov_J L d M (pc + 1) lv (.int (lg_cmp x y) :: st) S G P) : ov_J L d M pc lv (.long y :: .long x :: st) S G P := ev_i hd rfl (fun _ => rfl) kk
theorem ev_dup {v : Value} (hd : decode (ov_byt M) pc = .ok (.dup, 1)) (hv : v.category = 1) (kk : ov_J L d M (pc + 1) lv (v :: v :: st) S G P) : ov_J L d M pc lv (v :: st) S G P := ev_i hd rfl (fun _ => by simp only [ov_step1, ov_dup]; rw [if_pos hv]) kk
theorem ev_dup2 {v w : Value} (hd : decode (ov_byt M) pc = .ok (.dup2, 1)) (hv : v.category = 1) (hw : w.category = 1) (kk : ov_J L d M (pc + 1) lv (v :: w :: v :: w :: st) S G P) : ov_J L d M pc lv (v :: w :: st) S G P := ev_i hd rfl (fun _ => by simp only [ov_step1, ov_dup2]; rw [if_pos hv, if_pos hw]) kk
theorem ev_pop {v : Value} (hd : decode (ov_byt M) pc = .ok (.pop, 1)) (hv : v.category = 1) (kk : ov_J L d M (pc + 1) lv st S G P) : ov_J L d M pc lv (v :: st) S G P := ev_i hd rfl (fun _ => by simp only [ov_step1, ov_pop]; rw [if_pos hv]) kk
theorem ov_tg_of {pc t : Nat} {off : Int} (h : (pc : Int) + off = (t : Int)) : ov_tg pc off = some t := by
  unfold ov_tg
  rw [if_neg (by omega), h]
  rfl
theorem ev_goto {off : Int} {t : Nat} (hd : decode (ov_byt M) pc = .ok (.goto off, 3)) (ht : (pc : Int) + off = (t : Int)) (kk : ov_J L d M t lv st S G P) : ov_J L d M pc lv st S G P := ev_i hd rfl (fun _ => by show ov_go _ _ _ _ _ = _; unfold ov_go; rw [ov_tg_of ht]) kk
theorem ev_if_eq {x : Int32} {off : Int} {t : Nat} (hd : decode (ov_byt M) pc = .ok (.ifCond .eq off, 3)) (ht : (pc : Int) + off = (t : Int)) (kt : x = 0 → ov_J L d M t lv st S G P) (kf : ¬ x = 0 → ov_J L d M (pc + 3) lv st S G P) : ov_J L d M pc lv (.int x :: st) S G P := by
  by_cases hc : x = 0
  · refine ev_i (pc' := t) (st' := st) hd rfl (fun _ => ?_) (kt hc)
    show ov_if _ _ _ _ _ _ = _
    unfold ov_if
    rw [ov_tg_of ht]
    have e : ov_cc .eq x 0 = true := by simp [ov_cc, hc]
    simp only [e, cond_true, cond_false]
  · refine ev_i (pc' := (pc + 3)) (st' := st) hd rfl (fun _ => ?_) (kf hc)
    show ov_if _ _ _ _ _ _ = _
    unfold ov_if
    rw [ov_tg_of ht]
    have e : ov_cc .eq x 0 = false := by simp [ov_cc, hc]
    simp only [e, cond_true, cond_false]
theorem ev_icmp_eq {x y : Int32} {off : Int} {t : Nat} (hd : decode (ov_byt M) pc = .ok (.if_icmp .eq off, 3)) (ht : (pc : Int) + off = (t : Int)) (kt : x = y → ov_J L d M t lv st S G P) (kf : ¬ x = y → ov_J L d M (pc + 3) lv st S G P) : ov_J L d M pc lv (.int y :: .int x :: st) S G P := by
  by_cases hc : x = y
  · refine ev_i (pc' := t) (st' := st) hd rfl (fun _ => ?_) (kt hc)
    show ov_cmp _ _ _ _ _ _ = _
    unfold ov_cmp
    rw [ov_tg_of ht]
    have e : ov_cc .eq x y = true := by simp [ov_cc, hc]
    simp only [e, cond_true, cond_false]
  · refine ev_i (pc' := (pc + 3)) (st' := st) hd rfl (fun _ => ?_) (kf hc)
    show ov_cmp _ _ _ _ _ _ = _
    unfold ov_cmp
    rw [ov_tg_of ht]
    have e : ov_cc .eq x y = false := by simp [ov_cc, hc]
    simp only [e, cond_true, cond_false]
theorem ev_if_ne {x : Int32} {off : Int} {t : Nat} (hd : decode (ov_byt M) pc = .ok (.ifCond .ne off, 3)) (ht : (pc : Int) + off = (t : Int)) (kt : ¬ x = 0 → ov_J L d M t lv st S G P) (kf : x = 0 → ov_J L d M (pc + 3) lv st S G P) : ov_J L d M pc lv (.int x :: st) S G P := by
  by_cases hc : x = 0
  · refine ev_i (pc' := (pc + 3)) (st' := st) hd rfl (fun _ => ?_) (kf hc)
    show ov_if _ _ _ _ _ _ = _
    unfold ov_if
    rw [ov_tg_of ht]
    have e : ov_cc .ne x 0 = false := by simp [ov_cc, hc]
    simp only [e, cond_true, cond_false]
  · refine ev_i (pc' := t) (st' := st) hd rfl (fun _ => ?_) (kt hc)
    show ov_if _ _ _ _ _ _ = _
    unfold ov_if
    rw [ov_tg_of ht]
    have e : ov_cc .ne x 0 = true := by simp [ov_cc, hc]
    simp only [e, cond_true, cond_false]
theorem ev_icmp_ne {x y : Int32} {off : Int} {t : Nat} (hd : decode (ov_byt M) pc = .ok (.if_icmp .ne off, 3)) (ht : (pc : Int) + off = (t : Int)) (kt : ¬ x = y → ov_J L d M t lv st S G P) (kf : x = y → ov_J L d M (pc + 3) lv st S G P) : ov_J L d M pc lv (.int y :: .int x :: st) S G P := by
  by_cases hc : x = y
  · refine ev_i (pc' := (pc + 3)) (st' := st) hd rfl (fun _ => ?_) (kf hc)
    show ov_cmp _ _ _ _ _ _ = _
    unfold ov_cmp
    rw [ov_tg_of ht]
    have e : ov_cc .ne x y = false := by simp [ov_cc, hc]
    simp only [e, cond_true, cond_false]
  · refine ev_i (pc' := t) (st' := st) hd rfl (fun _ => ?_) (kt hc)
    show ov_cmp _ _ _ _ _ _ = _
    unfold ov_cmp
    rw [ov_tg_of ht]
    have e : ov_cc .ne x y = true := by simp [ov_cc, hc]
    simp only [e, cond_true, cond_false]
theorem ev_if_lt {x : Int32} {off : Int} {t : Nat} (hd : decode (ov_byt M) pc = .ok (.ifCond .lt off, 3)) (ht : (pc : Int) + off = (t : Int)) (kt : x < 0 → ov_J L d M t lv st S G P) (kf : ¬ x < 0 → ov_J L d M (pc + 3) lv st S G P) : ov_J L d M pc lv (.int x :: st) S G P := by
  by_cases hc : x < 0
  · refine ev_i (pc' := t) (st' := st) hd rfl (fun _ => ?_) (kt hc)
    show ov_if _ _ _ _ _ _ = _
    unfold ov_if
    rw [ov_tg_of ht]
    have e : ov_cc .lt x 0 = true := by simp [ov_cc, hc]
    simp only [e, cond_true, cond_false]
  · refine ev_i (pc' := (pc + 3)) (st' := st) hd rfl (fun _ => ?_) (kf hc)
    show ov_if _ _ _ _ _ _ = _
    unfold ov_if
    rw [ov_tg_of ht]
    have e : ov_cc .lt x 0 = false := by simp [ov_cc, hc]
    simp only [e, cond_true, cond_false]
theorem ev_icmp_lt {x y : Int32} {off : Int} {t : Nat} (hd : decode (ov_byt M) pc = .ok (.if_icmp .lt off, 3)) (ht : (pc : Int) + off = (t : Int)) (kt : x < y → ov_J L d M t lv st S G P) (kf : ¬ x < y → ov_J L d M (pc + 3) lv st S G P) : ov_J L d M pc lv (.int y :: .int x :: st) S G P := by
  by_cases hc : x < y
  · refine ev_i (pc' := t) (st' := st) hd rfl (fun _ => ?_) (kt hc)
    show ov_cmp _ _ _ _ _ _ = _
    unfold ov_cmp
    rw [ov_tg_of ht]
    have e : ov_cc .lt x y = true := by simp [ov_cc, hc]
    simp only [e, cond_true, cond_false]
  · refine ev_i (pc' := (pc + 3)) (st' := st) hd rfl (fun _ => ?_) (kf hc)
    show ov_cmp _ _ _ _ _ _ = _
    unfold ov_cmp
    rw [ov_tg_of ht]
    have e : ov_cc .lt x y = false := by simp [ov_cc, hc]
    simp only [e, cond_true, cond_false]
theorem ev_if_ge {x : Int32} {off : Int} {t : Nat} (hd : decode (ov_byt M) pc = .ok (.ifCond .ge off, 3)) (ht : (pc : Int) + off = (t : Int)) (kt : 0 ≤ x → ov_J L d M t lv st S G P) (kf : ¬ 0 ≤ x → ov_J L d M (pc + 3) lv st S G P) : ov_J L d M pc lv (.int x :: st) S G P := by
  by_cases hc : 0 ≤ x
  · refine ev_i (pc' := t) (st' := st) hd rfl (fun _ => ?_) (kt hc)
    show ov_if _ _ _ _ _ _ = _
    unfold ov_if
    rw [ov_tg_of ht]
    have e : ov_cc .ge x 0 = true := by simp [ov_cc, hc]
    simp only [e, cond_true, cond_false]
  · refine ev_i (pc' := (pc + 3)) (st' := st) hd rfl (fun _ => ?_) (kf hc)
    show ov_if _ _ _ _ _ _ = _
    unfold ov_if
    rw [ov_tg_of ht]
    have e : ov_cc .ge x 0 = false := by simp [ov_cc, hc]
    simp only [e, cond_true, cond_false]
theorem ev_icmp_ge {x y : Int32} {off : Int} {t : Nat} (hd : decode (ov_byt M) pc = .ok (.if_icmp .ge off, 3)) (ht : (pc : Int) + off = (t : Int)) (kt : y ≤ x → ov_J L d M t lv st S G P) (kf : ¬ y ≤ x → ov_J L d M (pc + 3) lv st S G P) : ov_J L d M pc lv (.int y :: .int x :: st) S G P := by
  by_cases hc : y ≤ x
  · refine ev_i (pc' := t) (st' := st) hd rfl (fun _ => ?_) (kt hc)
    show ov_cmp _ _ _ _ _ _ = _
    unfold ov_cmp
    rw [ov_tg_of ht]
    have e : ov_cc .ge x y = true := by simp [ov_cc, hc]
    simp only [e, cond_true, cond_false]
  · refine ev_i (pc' := (pc + 3)) (st' := st) hd rfl (fun _ => ?_) (kf hc)
    show ov_cmp _ _ _ _ _ _ = _
    unfold ov_cmp
    rw [ov_tg_of ht]
    have e : ov_cc .ge x y = false := by simp [ov_cc, hc]
    simp only [e, cond_true, cond_false]
theorem ev_if_gt {x : Int32} {off : Int} {t : Nat} (hd : decode (ov_byt M) pc = .ok (.ifCond .gt off, 3)) (ht : (pc : Int) + off = (t : Int)) (kt : 0 < x → ov_J L d M t lv st S G P) (kf : ¬ 0 < x → ov_J L d M (pc + 3) lv st S G P) : ov_J L d M pc lv (.int x :: st) S G P := by
  by_cases hc : 0 < x
  · refine ev_i (pc' := t) (st' := st) hd rfl (fun _ => ?_) (kt hc)
    show ov_if _ _ _ _ _ _ = _
    unfold ov_if
    rw [ov_tg_of ht]
    have e : ov_cc .gt x 0 = true := by simp [ov_cc, hc]
    simp only [e, cond_true, cond_false]
  · refine ev_i (pc' := (pc + 3)) (st' := st) hd rfl (fun _ => ?_) (kf hc)
    show ov_if _ _ _ _ _ _ = _
    unfold ov_if
    rw [ov_tg_of ht]
    have e : ov_cc .gt x 0 = false := by simp [ov_cc, hc]
    simp only [e, cond_true, cond_false]
theorem ev_icmp_gt {x y : Int32} {off : Int} {t : Nat} (hd : decode (ov_byt M) pc = .ok (.if_icmp .gt off, 3)) (ht : (pc : Int) + off = (t : Int)) (kt : y < x → ov_J L d M t lv st S G P) (kf : ¬ y < x → ov_J L d M (pc + 3) lv st S G P) : ov_J L d M pc lv (.int y :: .int x :: st) S G P := by
  by_cases hc : y < x
  · refine ev_i (pc' := t) (st' := st) hd rfl (fun _ => ?_) (kt hc)
    show ov_cmp _ _ _ _ _ _ = _
    unfold ov_cmp
    rw [ov_tg_of ht]
    have e : ov_cc .gt x y = true := by simp [ov_cc, hc]
    simp only [e, cond_true, cond_false]
  · refine ev_i (pc' := (pc + 3)) (st' := st) hd rfl (fun _ => ?_) (kf hc)
    show ov_cmp _ _ _ _ _ _ = _
    unfold ov_cmp
    rw [ov_tg_of ht]
    have e : ov_cc .gt x y = false := by simp [ov_cc, hc]
    simp only [e, cond_true, cond_false]
theorem ev_if_le {x : Int32} {off : Int} {t : Nat} (hd : decode (ov_byt M) pc = .ok (.ifCond .le off, 3)) (ht : (pc : Int) + off = (t : Int)) (kt : x ≤ 0 → ov_J L d M t lv st S G P) (kf : ¬ x ≤ 0 → ov_J L d M (pc + 3) lv st S G P) : ov_J L d M pc lv (.int x :: st) S G P := by
  by_cases hc : x ≤ 0
  · refine ev_i (pc' := t) (st' := st) hd rfl (fun _ => ?_) (kt hc)
    show ov_if _ _ _ _ _ _ = _
    unfold ov_if
    rw [ov_tg_of ht]
    have e : ov_cc .le x 0 = true := by simp [ov_cc, hc]
    simp only [e, cond_true, cond_false]
  · refine ev_i (pc' := (pc + 3)) (st' := st) hd rfl (fun _ => ?_) (kf hc)
    show ov_if _ _ _ _ _ _ = _
    unfold ov_if
    rw [ov_tg_of ht]
    have e : ov_cc .le x 0 = false := by simp [ov_cc, hc]
    simp only [e, cond_true, cond_false]
theorem ev_icmp_le {x y : Int32} {off : Int} {t : Nat} (hd : decode (ov_byt M) pc = .ok (.if_icmp .le off, 3)) (ht : (pc : Int) + off = (t : Int)) (kt : x ≤ y → ov_J L d M t lv st S G P) (kf : ¬ x ≤ y → ov_J L d M (pc + 3) lv st S G P) : ov_J L d M pc lv (.int y :: .int x :: st) S G P := by
  by_cases hc : x ≤ y
  · refine ev_i (pc' := t) (st' := st) hd rfl (fun _ => ?_) (kt hc)
    show ov_cmp _ _ _ _ _ _ = _
    unfold ov_cmp
    rw [ov_tg_of ht]
    have e : ov_cc .le x y = true := by simp [ov_cc, hc]
    simp only [e, cond_true, cond_false]
  · refine ev_i (pc' := (pc + 3)) (st' := st) hd rfl (fun _ => ?_) (kf hc)
    show ov_cmp _ _ _ _ _ _ = _
    unfold ov_cmp
    rw [ov_tg_of ht]
    have e : ov_cc .le x y = false := by simp [ov_cc, hc]
    simp only [e, cond_true, cond_false]
theorem ev_ts {dd lo hi : Int} {offs : Array Int} {ln : Nat} {x : Int32} {off : Int} {t : Nat} (hd : decode (ov_byt M) pc = .ok (.tableswitch dd lo hi offs, ln)) (h : if x.toInt < lo ∨ hi < x.toInt then off = dd else offs[(x.toInt - lo).toNat]? = some off) (ht : (pc : Int) + off = (t : Int)) (kk : ov_J L d M t lv st S G P) : ov_J L d M pc lv (.int x :: st) S G P := by
  refine ev_i hd rfl (fun lv' => ?_) kk
  simp only [ov_step1, ov_ts, ov_go]
  split at h
  · rename_i hc
    subst h
    rw [if_pos hc, ov_tg_of ht]
  · rename_i hc
    rw [if_neg hc, h]
    dsimp only
    rw [ov_tg_of ht]
theorem ev_lk {dd : Int} {ps : Array (Int × Int)} {ln : Nat} {x : Int32} {off : Int} {t : Nat} (hd : decode (ov_byt M) pc = .ok (.lookupswitch dd ps, ln)) (hp : (ps.toList.zip (ps.toList.drop 1)).all (fun (a, next) => a.1 < next.1) = true) (h : Op.lookupswitch.offset ps.toList dd x.toInt = off) (ht : (pc : Int) + off = (t : Int)) (kk : ov_J L d M t lv st S G P) : ov_J L d M pc lv (.int x :: st) S G P := by
  refine ev_i hd rfl (fun lv' => ?_) kk
  simp only [ov_step1, ov_lk, ov_go]
  rw [if_pos hp, h, ov_tg_of ht]
theorem ev_ldc {idx : Nat} {v : Int32} {w : Nat} (hd : decode (ov_byt M) pc = .ok (.ldc idx, 2)) (hf : ov_find ov_kt (idx * 32 + ov_oc M) = some (v, w)) (kk : ov_J L d M (pc + 2) lv (.int v :: st) S G P) : ov_J L d M pc lv st S G P := ev_i hd rfl (fun _ => by show Option.map _ _ = _; rw [hf]; rfl) kk
theorem ev_ldc_w {idx : Nat} {v : Int32} {w : Nat} (hd : decode (ov_byt M) pc = .ok (.ldc_w idx, 3)) (hf : ov_find ov_kt (idx * 32 + ov_oc M) = some (v, w)) (kk : ov_J L d M (pc + 3) lv (.int v :: st) S G P) : ov_J L d M pc lv st S G P := ev_i hd rfl (fun _ => by show Option.map _ _ = _; rw [hf]; rfl) kk
theorem ev_ldc2_w {idx : Nat} {v : Int64} {w : Nat} (hd : decode (ov_byt M) pc = .ok (.ldc2_w idx, 3)) (hf : ov_find ov_k2t (idx * 32 + ov_oc M) = some (v, w)) (kk : ov_J L d M (pc + 3) lv (.long v :: st) S G P) : ov_J L d M pc lv st S G P := ev_i hd rfl (fun _ => by show Option.map _ _ = _; rw [hf]; rfl) kk
theorem ev_iload {k : Nat} {x : Int32} (hd : decode (ov_byt M) pc = .ok (.iload k, 2)) (hl : lv.getD k none = some (.int x)) (kk : ov_J L d M (pc + 2) lv (.int x :: st) S G P) : ov_J L d M pc lv st S G P :=
  ev_ld (fun lv' h => (ov_sd hd rfl).trans (by show ov_ldI _ _ _ _ _ _ = _; unfold ov_ldI; rw [ov_le_get _ h hl])) kk
theorem ev_istore {k : Nat} {x : Int32} {lv1 : List (Option Value)} (hd : decode (ov_byt M) pc = .ok (.istore k, 2)) (hk : Nat.blt (k) lv.length = true) (hl : ov_ls lv k (.int x) = lv1) (kk : ov_J L d M (pc + 2) lv1 st S G P) : ov_J L d M pc lv (.int x :: st) S G P := by
  subst hl
  refine ev_stk (fun lv' h => (ov_sd hd rfl).trans ?_) kk
  rw [ov_le_len h] at hk
  show ov_stI _ _ _ _ _ _ = _
  unfold ov_stI
  rw [hk]
theorem ev_iload_n {k : Fin 4} {x : Int32} (hd : decode (ov_byt M) pc = .ok (.iload_n k, 1)) (hl : lv.getD k none = some (.int x)) (kk : ov_J L d M (pc + 1) lv (.int x :: st) S G P) : ov_J L d M pc lv st S G P :=
  ev_ld (fun lv' h => (ov_sd hd rfl).trans (by show ov_ldI _ _ _ _ _ _ = _; unfold ov_ldI; rw [ov_le_get _ h hl])) kk
theorem ev_istore_n {k : Fin 4} {x : Int32} {lv1 : List (Option Value)} (hd : decode (ov_byt M) pc = .ok (.istore_n k, 1)) (hk : Nat.blt ((k : Nat)) lv.length = true) (hl : ov_ls lv k (.int x) = lv1) (kk : ov_J L d M (pc + 1) lv1 st S G P) : ov_J L d M pc lv (.int x :: st) S G P := by
  subst hl
  refine ev_stk (fun lv' h => (ov_sd hd rfl).trans ?_) kk
  rw [ov_le_len h] at hk
  show ov_stI _ _ _ _ _ _ = _
  unfold ov_stI
  rw [hk]
theorem ev_lload {k : Nat} {x : Int64} (hd : decode (ov_byt M) pc = .ok (.lload k, 2)) (hl : lv.getD k none = some (.long x)) (kk : ov_J L d M (pc + 2) lv (.long x :: st) S G P) : ov_J L d M pc lv st S G P :=
  ev_ld (fun lv' h => (ov_sd hd rfl).trans (by show ov_ldL _ _ _ _ _ _ = _; unfold ov_ldL; rw [ov_le_get _ h hl])) kk
theorem ev_lstore {k : Nat} {x : Int64} {lv1 : List (Option Value)} (hd : decode (ov_byt M) pc = .ok (.lstore k, 2)) (hk : Nat.blt (k + 1) lv.length = true) (hl : ov_ls lv k (.long x) = lv1) (kk : ov_J L d M (pc + 2) lv1 st S G P) : ov_J L d M pc lv (.long x :: st) S G P := by
  subst hl
  refine ev_stk (fun lv' h => (ov_sd hd rfl).trans ?_) kk
  rw [ov_le_len h] at hk
  show ov_stL _ _ _ _ _ _ = _
  unfold ov_stL
  rw [hk]
theorem ev_lload_n {k : Fin 4} {x : Int64} (hd : decode (ov_byt M) pc = .ok (.lload_n k, 1)) (hl : lv.getD k none = some (.long x)) (kk : ov_J L d M (pc + 1) lv (.long x :: st) S G P) : ov_J L d M pc lv st S G P :=
  ev_ld (fun lv' h => (ov_sd hd rfl).trans (by show ov_ldL _ _ _ _ _ _ = _; unfold ov_ldL; rw [ov_le_get _ h hl])) kk
theorem ev_lstore_n {k : Fin 4} {x : Int64} {lv1 : List (Option Value)} (hd : decode (ov_byt M) pc = .ok (.lstore_n k, 1)) (hk : Nat.blt ((k : Nat) + 1) lv.length = true) (hl : ov_ls lv k (.long x) = lv1) (kk : ov_J L d M (pc + 1) lv1 st S G P) : ov_J L d M pc lv (.long x :: st) S G P := by
  subst hl
  refine ev_stk (fun lv' h => (ov_sd hd rfl).trans ?_) kk
  rw [ov_le_len h] at hk
  show ov_stL _ _ _ _ _ _ = _
  unfold ov_stL
  rw [hk]
theorem ev_aload {k : Nat} {x : Nat} (hd : decode (ov_byt M) pc = .ok (.aload k, 2)) (hl : lv.getD k none = some (.ref x)) (kk : ov_J L d M (pc + 2) lv (.ref x :: st) S G P) : ov_J L d M pc lv st S G P :=
  ev_ld (fun lv' h => (ov_sd hd rfl).trans (by show ov_ldA _ _ _ _ _ _ = _; unfold ov_ldA; rw [ov_le_get _ h hl])) kk
theorem ev_astore {k : Nat} {x : Nat} {lv1 : List (Option Value)} (hd : decode (ov_byt M) pc = .ok (.astore k, 2)) (hk : Nat.blt (k) lv.length = true) (hl : ov_ls lv k (.ref x) = lv1) (kk : ov_J L d M (pc + 2) lv1 st S G P) : ov_J L d M pc lv (.ref x :: st) S G P := by
  subst hl
  refine ev_stk (fun lv' h => (ov_sd hd rfl).trans ?_) kk
  rw [ov_le_len h] at hk
  show ov_stA _ _ _ _ _ _ = _
  unfold ov_stA
  rw [hk]
theorem ev_aload_n {k : Fin 4} {x : Nat} (hd : decode (ov_byt M) pc = .ok (.aload_n k, 1)) (hl : lv.getD k none = some (.ref x)) (kk : ov_J L d M (pc + 1) lv (.ref x :: st) S G P) : ov_J L d M pc lv st S G P :=
  ev_ld (fun lv' h => (ov_sd hd rfl).trans (by show ov_ldA _ _ _ _ _ _ = _; unfold ov_ldA; rw [ov_le_get _ h hl])) kk
theorem ev_astore_n {k : Fin 4} {x : Nat} {lv1 : List (Option Value)} (hd : decode (ov_byt M) pc = .ok (.astore_n k, 1)) (hk : Nat.blt ((k : Nat)) lv.length = true) (hl : ov_ls lv k (.ref x) = lv1) (kk : ov_J L d M (pc + 1) lv1 st S G P) : ov_J L d M pc lv (.ref x :: st) S G P := by
  subst hl
  refine ev_stk (fun lv' h => (ov_sd hd rfl).trans ?_) kk
  rw [ov_le_len h] at hk
  show ov_stA _ _ _ _ _ _ = _
  unfold ov_stA
  rw [hk]
theorem ev_iinc {k : Nat} {n : Int} {x v : Int32} {lv1 : List (Option Value)} (hd : decode (ov_byt M) pc = .ok (.iinc k n, 3)) (hx : lv.getD k none = some (.int x)) (hv : x + Int32.ofInt n = v) (hl : ov_ls lv k (.int v) = lv1) (kk : ov_J L d M (pc + 3) lv1 st S G P) : ov_J L d M pc lv st S G P := by
  subst hl
  subst hv
  refine ev_stk (fun lv' h => (ov_sd hd rfl).trans ?_) kk
  show ov_inc _ _ _ _ _ _ = _
  unfold ov_inc
  rw [ov_le_get _ h hx]
-- fields and arrays
def ov_GF (M pc ci k : Nat) : Prop := ∃ (idx : Nat) (fin : Bool) (i : Nat), decode (ov_byt M) pc = .ok (.getfield idx, 3) ∧ ov_find ov_ft (idx * 32 + ov_oc M) = some (ci, k, fin, i)
def ov_PF (M pc ci k : Nat) : Prop := ∃ (idx : Nat) (i : Nat), decode (ov_byt M) pc = .ok (.putfield idx, 3) ∧ ov_find ov_ft (idx * 32 + ov_oc M) = some (ci, k, false, i)
def ov_O (a ci : Nat) : Prop := ∃ n, ov_sht[a - 1]? = some (0, ci, n) ∧ a ≠ 0
theorem ov_shO {a : Nat} {sh : ov_Sh} (h : ov_sht[a - 1]? = some sh) (h0 : a ≠ 0) : ((9, 0, L) :: ov_sht)[a]? = some sh := by
  cases a with
  | zero => exact absurd rfl h0
  | succ i => exact h
theorem ev_gf {a ci k : Nat} {v : Value} (hg : ov_GF M pc ci k) (ho : ov_O a ci) (hv : ov_vv S G a k = v) (kk : ov_J L d M (pc + 3) lv (v :: st) S G P) : ov_J L d M pc lv (.ref a :: st) S G P := by
  obtain ⟨idx, fin, i, hd, hf⟩ := hg
  obtain ⟨n, ho, h0⟩ := ho
  subst hv
  refine ev_i hd rfl (fun lv' => ?_) kk
  show ov_gf _ _ _ _ _ _ = _
  unfold ov_gf
  rw [hf]
  try dsimp only
  rw [show (ov_mm L S G).1[a]? = some (0, ci, n) from ov_shO ho h0]
  show (bif Nat.beq ci ci then some (pc + 3, lv', (ov_mm L S G).2 a k :: st, ov_mm L S G) else none) = _
  rw [Nat.beq_refl ci]
  rfl
theorem ov_updS {a k : Nat} {x : Int32} (h : ov_cd a k = 0) : ov_rp (ov_mm L S G) a (updV ((ov_mm L S G).2 a) k (.int x)) = ov_mm L (ov_up S a k x) G := by
  unfold ov_rp ov_mm
  congr 1
  funext i j
  try dsimp only
  by_cases hi : i = a
  · subst hi
    rw [if_pos rfl]
    unfold updV
    by_cases hj : j = k
    · subst hj
      rw [if_pos rfl]
      unfold ov_vv
      rw [h]
      try dsimp only
      unfold ov_up
      rw [if_pos ⟨rfl, rfl⟩]
    · rw [if_neg hj]
      unfold ov_vv ov_up
      rw [if_neg (fun q => hj q.2)]
  · rw [if_neg hi]
    unfold ov_vv ov_up
    rw [if_neg (fun q => hi q.1)]
theorem ov_updG {a k : Nat} {x : Int64} (h : ov_cd a k = 1) (h2 : ∀ j, ov_cd a j = 1 → j = k) : ov_rp (ov_mm L S G) a (updV ((ov_mm L S G).2 a) k (.long x)) = ov_mm L S (ov_ug G a x) := by
  unfold ov_rp ov_mm
  congr 1
  funext i j
  try dsimp only
  by_cases hi : i = a
  · subst hi
    rw [if_pos rfl]
    unfold updV
    by_cases hj : j = k
    · subst hj
      rw [if_pos rfl]
      unfold ov_vv
      rw [h]
      try dsimp only
      unfold ov_ug
      rw [if_pos rfl]
    · rw [if_neg hj]
      unfold ov_vv ov_ug
      cases hc : ov_cd i j with
      | zero => rfl
      | succ q =>
        cases q with
        | zero => exact absurd (h2 j hc) hj
        | succ q => rfl
  · rw [if_neg hi]
    unfold ov_vv ov_ug
    rw [if_neg hi]
theorem ev_pf {a ci k : Nat} {x : Int32} (hg : ov_PF M pc ci k) (ho : ov_O a ci) (hc : ov_cd a k = 0) (hty : ov_fit (ov_ty ci k) (.int 0) = true) (kk : ov_J L d M (pc + 3) lv st (ov_up S a k x) G P) : ov_J L d M pc lv (.int x :: .ref a :: st) S G P := by
  obtain ⟨idx, i, hd, hf⟩ := hg
  obtain ⟨n, ho, h0⟩ := ho
  refine ev_i hd rfl (fun lv' => ?_) kk
  show ov_pf _ _ _ _ _ _ _ = _
  unfold ov_pf
  rw [hf]
  try dsimp only
  have e : ov_fit (ov_ty ci k) (.int x) = true := by
    revert hty
    cases ov_ty ci k <;> intro h <;> exact h
  rw [show (ov_mm L S G).1[a]? = some (0, ci, n) from ov_shO ho h0]
  show (bif Nat.beq ci ci && ov_fit (ov_ty ci k) (.int x) && (!false || (ov_ini M && Nat.beq (ov_oc M) (ci + 1))) then some (pc + 3, lv', st, ov_rp (ov_mm L S G) a (updV ((ov_mm L S G).2 a) k (.int x))) else none) = _
  rw [Nat.beq_refl ci, e, ov_updS hc]
  rfl
theorem ev_pfl {a ci k : Nat} {x : Int64} (hg : ov_PF M pc ci k) (ho : ov_O a ci) (hc : ov_cd a k = 1) (h2 : ∀ j, ov_cd a j = 1 → j = k) (hty : ov_fit (ov_ty ci k) (.long 0) = true) (kk : ov_J L d M (pc + 3) lv st S (ov_ug G a x) P) : ov_J L d M pc lv (.long x :: .ref a :: st) S G P := by
  obtain ⟨idx, i, hd, hf⟩ := hg
  obtain ⟨n, ho, h0⟩ := ho
  refine ev_i hd rfl (fun lv' => ?_) kk
  show ov_pf _ _ _ _ _ _ _ = _
  unfold ov_pf
  rw [hf]
  try dsimp only
  have e : ov_fit (ov_ty ci k) (.long x) = true := by
    revert hty
    cases ov_ty ci k <;> intro h <;> exact h
  rw [show (ov_mm L S G).1[a]? = some (0, ci, n) from ov_shO ho h0]
  show (bif Nat.beq ci ci && ov_fit (ov_ty ci k) (.long x) && (!false || (ov_ini M && Nat.beq (ov_oc M) (ci + 1))) then some (pc + 3, lv', st, ov_rp (ov_mm L S G) a (updV ((ov_mm L S G).2 a) k (.long x))) else none) = _
  rw [Nat.beq_refl ci, e, ov_updG hc h2]
  rfl
def ov_ln (a : Nat) : Nat := (ov_sht.getD (a - 1) (0, 0, 0)).2.2
/-- an array of kind t -/
def ov_A (t a : Nat) : Prop := ov_sht[a - 1]? = some (t, 0, ov_ln a) ∧ a ≠ 0 ∧ ov_st.getD a [] = []
def ov_ib (j : Int32) (n : Nat) : Prop := ¬ (j < 0 ∨ n ≤ j.toNatClampNeg)
theorem ov_A.cd {t a : Nat} (h : ov_A t a) (k : Nat) : ov_cd a k = 0 := by
  unfold ov_cd
  rw [h.2.2]
  rfl
theorem ov_A.vv {t a : Nat} (h : ov_A t a) (k : Nat) : ov_vv S G a k = .int (S a k) := by
  unfold ov_vv
  rw [h.cd k]
theorem ov_rd_of {t a : Nat} {j : Int32} {lv' : List (Option Value)} (ha : ov_A t a) (hj : ov_ib j (ov_ln a)) : ov_rd t pc lv' (.int j :: .ref a :: st) (ov_mm L S G) = some (pc + 1, lv', .int (S a j.toNatClampNeg) :: st, ov_mm L S G) := by
  unfold ov_rd
  try dsimp only
  rw [show (ov_mm L S G).1[a]? = some (t, 0, ov_ln a) from ov_shO ha.1 ha.2.1]
  try dsimp only
  rw [if_pos rfl, if_neg hj, show (ov_mm L S G).2 a j.toNatClampNeg = .int (S a j.toNatClampNeg) from ha.vv _]
theorem ev_iald {a : Nat} {j : Int32} (hd : decode (ov_byt M) pc = .ok (.iaload, 1)) (ha : ov_A 1 a) (hj : ov_ib j (ov_ln a)) (kk : ov_J L d M (pc + 1) lv (.int (S a j.toNatClampNeg) :: st) S G P) : ov_J L d M pc lv (.int j :: .ref a :: st) S G P := by
  refine ev_i hd rfl (fun lv' => ?_) kk
  show ov_rdI _ _ _ _ = _
  unfold ov_rdI
  split
  · rename_i j' r h
    have h1 := (List.cons.inj (List.cons.inj h).2).1
    cases h1
    exact absurd rfl ha.2.1
  · exact ov_rd_of ha hj
theorem ev_bald {a : Nat} {j : Int32} (hd : decode (ov_byt M) pc = .ok (.baload, 1)) (ha : ov_A 2 a) (hj : ov_ib j (ov_ln a)) (kk : ov_J L d M (pc + 1) lv (.int (S a j.toNatClampNeg) :: st) S G P) : ov_J L d M pc lv (.int j :: .ref a :: st) S G P :=
  ev_i hd rfl (fun _ => ov_rd_of ha hj) kk
theorem ov_wr_of {t a : Nat} {j x : Int32} {v : Value} {f : Value → Option Value} {lv' : List (Option Value)} (ha : ov_A t a) (hj : ov_ib j (ov_ln a)) (hf : f v = some (.int x)) : ov_wr t f pc lv' (v :: .int j :: .ref a :: st) (ov_mm L S G) = some (pc + 1, lv', st, ov_mm L (ov_up S a j.toNatClampNeg x) G) := by
  unfold ov_wr
  try dsimp only
  rw [show (ov_mm L S G).1[a]? = some (t, 0, ov_ln a) from ov_shO ha.1 ha.2.1, hf]
  try dsimp only
  rw [if_pos rfl, if_neg hj, ov_updS (ha.cd _)]
theorem ev_iast {a : Nat} {j x : Int32} (hd : decode (ov_byt M) pc = .ok (.iastore, 1)) (ha : ov_A 1 a) (hj : ov_ib j (ov_ln a)) (kk : ov_J L d M (pc + 1) lv st (ov_up S a j.toNatClampNeg x) G P) : ov_J L d M pc lv (.int x :: .int j :: .ref a :: st) S G P :=
  ev_i hd rfl (fun _ => ov_wr_of ha hj rfl) kk
theorem ev_bast {a : Nat} {j x y : Int32} (hd : decode (ov_byt M) pc = .ok (.bastore, 1)) (ha : ov_A 2 a) (hj : ov_ib j (ov_ln a)) (hx : narrow .boolean (.int x) = .int y) (kk : ov_J L d M (pc + 1) lv st (ov_up S a j.toNatClampNeg y) G P) : ov_J L d M pc lv (.int x :: .int j :: .ref a :: st) S G P :=
  ev_i hd rfl (fun _ => ov_wr_of ha hj (congrArg some hx)) kk
theorem ev_aald {a r : Nat} {j : Int32} (hd : decode (ov_byt M) pc = .ok (.aaload, 1)) (ha : ov_sht[a - 1]? = some (3, 0, ov_ln a) ∧ a ≠ 0) (hj : ov_ib j (ov_ln a)) (hr : ov_vv S G a j.toNatClampNeg = .ref r) (kk : ov_J L d M (pc + 1) lv (.ref r :: st) S G P) : ov_J L d M pc lv (.int j :: .ref a :: st) S G P := by
  refine ev_i hd rfl (fun lv' => ?_) kk
  simp only [ov_step1, ov_rd]
  rw [show (ov_mm L S G).1[a]? = some (3, 0, ov_ln a) from ov_shO ha.1 ha.2]
  try dsimp only
  rw [if_pos rfl, if_neg hj, show (ov_mm L S G).2 a j.toNatClampNeg = .ref r from hr]
-- calls
def ov_CL (M pc kind y : Nat) : Prop := ∃ (idx : Nat) (w : Nat × Nat × Nat), (match kind with
  | 0 => decode (ov_byt M) pc = .ok (.invokestatic idx, 3)
  | _ => decode (ov_byt M) pc = .ok (.invokevirtual idx, 3)) ∧ ov_find ov_lt (idx * 32 + ov_oc M) = some (kind, y, w)
theorem ev_call {y : Nat} {as r : List Value} {rv : Option Value} (hi : ∀ lv', ov_inv M (pc, lv', st, ov_mm L S G) = some (y, as, r)) (hC : ov_R L d y as S G rv S1 G1) (kk : ov_J L d M (pc + 3) lv (rv.toList ++ r) S1 G1 P) : ov_J L d M pc lv st S G P := by
  intro lv' hl
  obtain ⟨k, x, rv', S', G', h1, h2⟩ := kk lv' hl
  exact ⟨k + 1, x, rv', S', G', ⟨_, Or.inr ⟨y, as, r, rv, _, hi lv', hC, rfl⟩, h1⟩, h2⟩
theorem ov_monoN {C C' : ov_CT} (h : ∀ y as μ rv μ', C y as μ rv μ' → C' y as μ rv μ') {M : Nat} : ∀ (k : Nat) (x z : ov_Cfg), ov_N C M k x z → ov_N C' M k x z
  | 0, _, _, hx => hx
  | k + 1, _, _, ⟨w, hI, hN⟩ => ⟨w, (match hI with
    | Or.inl a => Or.inl a
    | Or.inr ⟨y, as, r, rv, μ', h1, h2, h3⟩ => Or.inr ⟨y, as, r, rv, μ', h1, h _ _ _ _ _ h2, h3⟩), ov_monoN h k _ _ hN⟩
theorem ov_mono1 : ∀ (d : Nat) {y : Nat} {as : List Value} {μ : ov_Mem} {rv : Option Value} {μ' : ov_Mem}, ov_C d y as μ rv μ' → ov_C (d + 1) y as μ rv μ'
  | 0, _, _, _, _, _, h => h.elim
  | d + 1, _, _, _, _, _, ⟨k, x, hN, h2⟩ => ⟨k, x, ov_monoN (fun _ _ _ _ _ h => ov_mono1 d h) k _ _ hN, h2⟩
theorem ov_mono {d d' : Nat} (hd : d ≤ d') {y : Nat} {as : List Value} {μ : ov_Mem} {rv : Option Value} {μ' : ov_Mem} (h : ov_C d y as μ rv μ') : ov_C d' y as μ rv μ' := by
  induction hd with
  | refl => exact h
  | step _ ih => exact ov_mono1 _ ih
/-- a static call of n arguments -/
theorem ev_cs {y n dc : Nat} {as rest : List Value} {rv : Option Value} (hc : ov_CL M pc 0 y) (hn : ov_np y = n) (hst : st = as.reverse ++ rest) (hl : as.length = n) (hm : Nat.ble (ov_as as).length (ov_mx y) = true) (hr : Nat.ble (rest.map fun v => v.category).sum 8 = true) (hd : dc ≤ d) (hC : ov_R L dc y as S G rv S1 G1) (kk : ov_J L d M (pc + 3) lv (rv.toList ++ rest) S1 G1 P) : ov_J L d M pc lv st S G P := by
  obtain ⟨idx, w, hdec, hf⟩ := hc
  refine ev_call (y := y) (as := as) (r := rest) (fun lv' => ?_) (ov_mono hd hC) kk
  unfold ov_inv
  try dsimp only
  rw [show decode (ov_byt M) pc = .ok (.invokestatic idx, 3) from hdec]
  show ov_lkd M idx 0 st (ov_mm L S G) = _
  unfold ov_lkd
  rw [hf]
  try dsimp only
  have e1 : List.take n st = as.reverse := by rw [hst, List.take_append_of_le_length (by simp [hl])]; rw [List.take_of_length_le (by simp [hl])]
  have e2 : List.drop n st = rest := by rw [hst, List.drop_append_of_le_length (by simp [hl])]; rw [List.drop_of_length_le (by simp [hl])]; rfl
  have e3 : Nat.ble n st.length = true := Nat.ble_eq_true_of_le (by rw [hst]; simp [hl])
  unfold ov_ca
  rw [hn, e1, e2, List.reverse_reverse, e3]
  rw [show Nat.beq 0 0 = true from rfl]
  simp only [if_pos, Nat.sub_zero, hm, hr, Bool.and_self, cond_true]
/-- a call of n arguments of an object -/
theorem ev_cv {y n dc a c : Nat} {as rest : List Value} {rv : Option Value} (hc : ov_CL M pc 1 y) (hn : ov_np y = n) (hst : st = as.reverse ++ .ref a :: rest) (hl : as.length = n) (ho : ov_O a c) (hoc : Nat.beq (ov_oc y) (c + 1) = true) (hm : Nat.ble (ov_as as).length (ov_mx y - 1) = true) (h0 : Nat.blt 0 (ov_mx y) = true) (hr : Nat.ble (rest.map fun v => v.category).sum 8 = true) (hd : dc ≤ d) (hC : ov_R L dc y (.ref a :: as) S G rv S1 G1) (kk : ov_J L d M (pc + 3) lv (rv.toList ++ rest) S1 G1 P) : ov_J L d M pc lv st S G P := by
  obtain ⟨idx, w, hdec, hf⟩ := hc
  obtain ⟨sz, ho, ha0⟩ := ho
  refine ev_call (y := y) (as := .ref a :: as) (r := rest) (fun lv' => ?_) (ov_mono hd hC) kk
  unfold ov_inv
  try dsimp only
  rw [show decode (ov_byt M) pc = .ok (.invokevirtual idx, 3) from hdec]
  show ov_lkd M idx 1 st (ov_mm L S G) = _
  unfold ov_lkd
  rw [hf]
  try dsimp only
  have e1 : List.take n st = as.reverse := by rw [hst, List.take_append_of_le_length (by simp [hl])]; rw [List.take_of_length_le (by simp [hl])]
  have e2 : List.drop n st = .ref a :: rest := by rw [hst, List.drop_append_of_le_length (by simp [hl])]; rw [List.drop_of_length_le (by simp [hl])]; rfl
  have e3 : Nat.ble n st.length = true := Nat.ble_eq_true_of_le (by rw [hst]; simp [hl])
  cases a with
  | zero => exact absurd rfl ha0
  | succ i =>
    unfold ov_ca
    rw [hn, e1, e2, List.reverse_reverse, e3]
    rw [show Nat.beq 1 1 = true from rfl, show (if (1 : Nat) = 0 then 0 else 1) = 1 from rfl, hm]
    have e4 : (ov_mm L S G).1[i + 1]? = some (0, c, sz) := ho
    simp only [Bool.and_self, cond_true, e4, hoc, hr, h0]
/-- a method's run out of its body -/
theorem ov_Rof {as : List Value} {rv : Option Value} (h : ov_J L d M 0 (ov_as as ++ List.replicate (ov_mx M - (ov_as as).length) none) [] S G (fun r s g => r = rv ∧ s = S1 ∧ g = G1)) : ov_R L (d + 1) M as S G rv S1 G1 := by
  obtain ⟨k, x, rv', S', G', h1, h2, h3, rfl, rfl, rfl⟩ := h _ (ov_le_rf _)
  exact ⟨k, x, h1, h2, h3⟩
end ov_E
end
section
-- WORDS OF THE READ-OFF FUNCTIONS: none is a fault (an index out of its row, no end in sight)
def ov_ck {α : Type} (b : Bool) (x : Option α) : Option α := match b with
  | true => x
  | false => none
theorem ov_ck_ok {α : Type} {b : Bool} {x : Option α} {y : α} (h : ov_ck b x = some y) : b = true ∧ x = some y := by
  cases b with
  | true => exact ⟨rfl, h⟩
  | false => cases h
theorem ov_ck_t {α : Type} {b : Bool} {x : Option α} (h : b = true) : ov_ck b x = x := by rw [h]; rfl
def ov_ibb (j : Int32) (n : Nat) : Bool := !(decide (j < 0) || decide (n ≤ j.toNatClampNeg))
theorem ov_ibk {j : Int32} {n : Nat} (h : ov_ibb j n = true) : ov_ib j n := by
  unfold ov_ibb at h
  unfold ov_ib
  simpa using h
def ov_b01 (v : Int32) : Bool := decide (v = 0) || decide (v = 1)
theorem ov_b01k {v : Int32} (h : ov_b01 v = true) : v = 0 ∨ v = 1 := by
  unfold ov_b01 at h
  simpa using h
def ov_nz (v : Int32) : Bool := !decide (v = 0)
theorem ov_nzk {v : Int32} (h : ov_nz v = true) : ¬ v = 0 := by
  unfold ov_nz at h
  simpa using h
def ov_nzl (v : Int64) : Bool := !decide (v = 0)
theorem ov_nzlk {v : Int64} (h : ov_nzl v = true) : ¬ v = 0 := by
  unfold ov_nzl at h
  simpa using h
theorem ov_bd {α β : Type} {x : Option α} {f : α → Option β} {y : β} (h : x.bind f = some y) : ∃ r, x = some r ∧ f r = some y := by
  cases x with
  | none => cases h
  | some r => exact ⟨r, rfl, h⟩
def ov_lp {σ ε : Type} (body : σ → Option (σ ⊕ ε)) : Nat → σ → Option ε
  | 0, _ => none
  | n + 1, s => match body s with
    | none => none
    | some (.inl s') => ov_lp body n s'
    | some (.inr e) => some e
theorem ov_lp_J {σ ε : Type} {body : σ → Option (σ ⊕ ε)} {head : σ → Prop} {exit : ε → Prop} (hb : ∀ s r, body s = some r → (match r with | .inl s' => head s' | .inr e => exit e) → head s) : ∀ (n : Nat) (s : σ) (e : ε), ov_lp body n s = some e → exit e → head s
  | 0, _, _, h, _ => by cases h
  | n + 1, s, e, h, hx => by
    unfold ov_lp at h
    cases hq : body s with
    | none => rw [hq] at h; cases h
    | some r =>
      rw [hq] at h
      refine hb s r hq ?_
      cases r with
      | inl s' => exact ov_lp_J hb n s' e h hx
      | inr e' => cases h; exact hx
-- the pooled kinds of objects: stages and plays
def ov_St (a : Nat) : Prop := a = 18 ∨ a = 21 ∨ a = 36 ∨ a = 39
def ov_Pl (a : Nat) : Prop := a = 4 ∨ a = 11
section ov_E
variable {L d M pc : Nat} {lv : List (Option Value)} {st : List Value} {S S1 : ov_S} {G G1 : ov_L2} {P : Option Value → ov_S → ov_L2 → Prop} {a : Nat}
theorem st_O (h : ov_St a) : ov_O a 3 := by rcases h with rfl | rfl | rfl | rfl <;> exact ⟨5, rfl, by decide⟩
theorem pl_O (h : ov_Pl a) : ov_O a 2 := by rcases h with rfl | rfl <;> exact ⟨12, rfl, by decide⟩
theorem st_v0 (h : ov_St a) : ov_vv S G a 0 = .ref 4 := by rcases h with rfl | rfl | rfl | rfl <;> rfl
theorem st_v1 (h : ov_St a) : ov_vv S G a 1 = .ref (a + 1) := by rcases h with rfl | rfl | rfl | rfl <;> rfl
theorem st_v2 (h : ov_St a) : ov_vv S G a 2 = .ref (a + 2) := by rcases h with rfl | rfl | rfl | rfl <;> rfl
theorem st_v3 (h : ov_St a) : ov_vv S G a 3 = .int (S a 3) := by rcases h with rfl | rfl | rfl | rfl <;> rfl
theorem st_v4 (h : ov_St a) : ov_vv S G a 4 = .int (S a 4) := by rcases h with rfl | rfl | rfl | rfl <;> rfl
theorem st_c3 (h : ov_St a) : ov_cd a 3 = 0 := by rcases h with rfl | rfl | rfl | rfl <;> rfl
theorem st_c4 (h : ov_St a) : ov_cd a 4 = 0 := by rcases h with rfl | rfl | rfl | rfl <;> rfl
theorem st_A1 (h : ov_St a) : ov_A 1 (a + 1) := by rcases h with rfl | rfl | rfl | rfl <;> exact ⟨rfl, by decide, rfl⟩
theorem st_A2 (h : ov_St a) : ov_A 1 (a + 2) := by rcases h with rfl | rfl | rfl | rfl <;> exact ⟨rfl, by decide, rfl⟩
theorem st_i1 (h : ov_St a) {j : Int32} (hj : ov_ibb j 6 = true) : ov_ib j (ov_ln (a + 1)) := by rcases h with rfl | rfl | rfl | rfl <;> exact ov_ibk hj
theorem st_i2 (h : ov_St a) {j : Int32} (hj : ov_ibb j 4 = true) : ov_ib j (ov_ln (a + 2)) := by rcases h with rfl | rfl | rfl | rfl <;> exact ov_ibk hj
theorem pl_v0 (h : ov_Pl a) : ov_vv S G a 0 = .int (S a 0) := by rcases h with rfl | rfl <;> rfl
theorem pl_c0 (h : ov_Pl a) : ov_cd a 0 = 0 := by rcases h with rfl | rfl <;> rfl
theorem pl_v1 (h : ov_Pl a) : ov_vv S G a 1 = .int (S a 1) := by rcases h with rfl | rfl <;> rfl
theorem pl_c1 (h : ov_Pl a) : ov_cd a 1 = 0 := by rcases h with rfl | rfl <;> rfl
theorem pl_v2 (h : ov_Pl a) : ov_vv S G a 2 = .int (S a 2) := by rcases h with rfl | rfl <;> rfl
theorem pl_c2 (h : ov_Pl a) : ov_cd a 2 = 0 := by rcases h with rfl | rfl <;> rfl
theorem pl_v3 (h : ov_Pl a) : ov_vv S G a 3 = .int (S a 3) := by rcases h with rfl | rfl <;> rfl
theorem pl_c3 (h : ov_Pl a) : ov_cd a 3 = 0 := by rcases h with rfl | rfl <;> rfl
theorem pl_v10 (h : ov_Pl a) : ov_vv S G a 10 = .int (S a 10) := by rcases h with rfl | rfl <;> rfl
theorem pl_c10 (h : ov_Pl a) : ov_cd a 10 = 0 := by rcases h with rfl | rfl <;> rfl
theorem pl_v11 (h : ov_Pl a) : ov_vv S G a 11 = .int (S a 11) := by rcases h with rfl | rfl <;> rfl
theorem pl_c11 (h : ov_Pl a) : ov_cd a 11 = 0 := by rcases h with rfl | rfl <;> rfl
theorem pl_v4 (h : ov_Pl a) : ov_vv S G a 4 = .ref (a + 1) := by rcases h with rfl | rfl <;> rfl
theorem pl_A1 (h : ov_Pl a) : ov_A 1 (a + 1) := by rcases h with rfl | rfl <;> exact ⟨rfl, by decide, rfl⟩
theorem pl_i1 (h : ov_Pl a) {j : Int32} (hj : ov_ibb j 3 = true) : ov_ib j (ov_ln (a + 1)) := by rcases h with rfl | rfl <;> exact ov_ibk hj
theorem pl_v5 (h : ov_Pl a) : ov_vv S G a 5 = .ref (a + 2) := by rcases h with rfl | rfl <;> rfl
theorem pl_A2 (h : ov_Pl a) : ov_A 1 (a + 2) := by rcases h with rfl | rfl <;> exact ⟨rfl, by decide, rfl⟩
theorem pl_i2 (h : ov_Pl a) {j : Int32} (hj : ov_ibb j 4 = true) : ov_ib j (ov_ln (a + 2)) := by rcases h with rfl | rfl <;> exact ov_ibk hj
theorem pl_v6 (h : ov_Pl a) : ov_vv S G a 6 = .ref (a + 3) := by rcases h with rfl | rfl <;> rfl
theorem pl_A3 (h : ov_Pl a) : ov_A 1 (a + 3) := by rcases h with rfl | rfl <;> exact ⟨rfl, by decide, rfl⟩
theorem pl_i3 (h : ov_Pl a) {j : Int32} (hj : ov_ibb j 6 = true) : ov_ib j (ov_ln (a + 3)) := by rcases h with rfl | rfl <;> exact ov_ibk hj
theorem pl_v7 (h : ov_Pl a) : ov_vv S G a 7 = .ref (a + 4) := by rcases h with rfl | rfl <;> rfl
theorem pl_A4 (h : ov_Pl a) : ov_A 1 (a + 4) := by rcases h with rfl | rfl <;> exact ⟨rfl, by decide, rfl⟩
theorem pl_i4 (h : ov_Pl a) {j : Int32} (hj : ov_ibb j 6 = true) : ov_ib j (ov_ln (a + 4)) := by rcases h with rfl | rfl <;> exact ov_ibk hj
theorem pl_v8 (h : ov_Pl a) : ov_vv S G a 8 = .ref (a + 5) := by rcases h with rfl | rfl <;> rfl
theorem pl_A5 (h : ov_Pl a) : ov_A 1 (a + 5) := by rcases h with rfl | rfl <;> exact ⟨rfl, by decide, rfl⟩
theorem pl_i5 (h : ov_Pl a) {j : Int32} (hj : ov_ibb j 6 = true) : ov_ib j (ov_ln (a + 5)) := by rcases h with rfl | rfl <;> exact ov_ibk hj
theorem pl_v9 (h : ov_Pl a) : ov_vv S G a 9 = .ref (a + 6) := by rcases h with rfl | rfl <;> rfl
theorem pl_A6 (h : ov_Pl a) : ov_A 1 (a + 6) := by rcases h with rfl | rfl <;> exact ⟨rfl, by decide, rfl⟩
theorem pl_i6 (h : ov_Pl a) {j : Int32} (hj : ov_ibb j 6 = true) : ov_ib j (ov_ln (a + 6)) := by rcases h with rfl | rfl <;> exact ov_ibk hj
theorem oO_1 : ov_O 1 0 := ⟨12, rfl, by decide⟩
theorem oO_2 : ov_O 2 1 := ⟨2, rfl, by decide⟩
theorem oA_3 : ov_A 1 3 := ⟨rfl, by decide, rfl⟩
theorem oO_4 : ov_O 4 2 := ⟨12, rfl, by decide⟩
theorem oA_5 : ov_A 1 5 := ⟨rfl, by decide, rfl⟩
theorem oA_6 : ov_A 1 6 := ⟨rfl, by decide, rfl⟩
theorem oA_7 : ov_A 1 7 := ⟨rfl, by decide, rfl⟩
theorem oA_8 : ov_A 1 8 := ⟨rfl, by decide, rfl⟩
theorem oA_9 : ov_A 1 9 := ⟨rfl, by decide, rfl⟩
theorem oA_10 : ov_A 1 10 := ⟨rfl, by decide, rfl⟩
theorem oO_11 : ov_O 11 2 := ⟨12, rfl, by decide⟩
theorem oA_12 : ov_A 1 12 := ⟨rfl, by decide, rfl⟩
theorem oA_13 : ov_A 1 13 := ⟨rfl, by decide, rfl⟩
theorem oA_14 : ov_A 1 14 := ⟨rfl, by decide, rfl⟩
theorem oA_15 : ov_A 1 15 := ⟨rfl, by decide, rfl⟩
theorem oA_16 : ov_A 1 16 := ⟨rfl, by decide, rfl⟩
theorem oA_17 : ov_A 1 17 := ⟨rfl, by decide, rfl⟩
theorem oO_18 : ov_O 18 3 := ⟨5, rfl, by decide⟩
theorem oA_19 : ov_A 1 19 := ⟨rfl, by decide, rfl⟩
theorem oA_20 : ov_A 1 20 := ⟨rfl, by decide, rfl⟩
theorem oO_21 : ov_O 21 3 := ⟨5, rfl, by decide⟩
theorem oA_22 : ov_A 1 22 := ⟨rfl, by decide, rfl⟩
theorem oA_23 : ov_A 1 23 := ⟨rfl, by decide, rfl⟩
theorem oO_24 : ov_O 24 4 := ⟨4, rfl, by decide⟩
theorem oA_25 : ov_A 1 25 := ⟨rfl, by decide, rfl⟩
theorem oA_26 : ov_A 1 26 := ⟨rfl, by decide, rfl⟩
theorem oA_27 : ov_A 1 27 := ⟨rfl, by decide, rfl⟩
theorem oO_28 : ov_O 28 5 := ⟨3, rfl, by decide⟩
theorem oA_29 : ov_A 1 29 := ⟨rfl, by decide, rfl⟩
theorem oA_30 : ov_A 1 30 := ⟨rfl, by decide, rfl⟩
theorem oO_31 : ov_O 31 6 := ⟨4, rfl, by decide⟩
theorem oO_32 : ov_O 32 7 := ⟨7, rfl, by decide⟩
theorem oA_33 : ov_A 1 33 := ⟨rfl, by decide, rfl⟩
theorem oA_34 : ov_A 1 34 := ⟨rfl, by decide, rfl⟩
theorem oO_36 : ov_O 36 3 := ⟨5, rfl, by decide⟩
theorem oA_37 : ov_A 1 37 := ⟨rfl, by decide, rfl⟩
theorem oA_38 : ov_A 1 38 := ⟨rfl, by decide, rfl⟩
theorem oO_39 : ov_O 39 3 := ⟨5, rfl, by decide⟩
theorem oA_40 : ov_A 1 40 := ⟨rfl, by decide, rfl⟩
theorem oA_41 : ov_A 1 41 := ⟨rfl, by decide, rfl⟩
theorem oO_42 : ov_O 42 8 := ⟨43, rfl, by decide⟩
theorem oA_43 : ov_A 1 43 := ⟨rfl, by decide, rfl⟩
theorem oA_44 : ov_A 1 44 := ⟨rfl, by decide, rfl⟩
theorem oA_45 : ov_A 1 45 := ⟨rfl, by decide, rfl⟩
theorem oA_46 : ov_A 1 46 := ⟨rfl, by decide, rfl⟩
theorem oA_47 : ov_A 1 47 := ⟨rfl, by decide, rfl⟩
theorem oA_48 : ov_A 1 48 := ⟨rfl, by decide, rfl⟩
theorem oA_49 : ov_A 1 49 := ⟨rfl, by decide, rfl⟩
theorem oA_50 : ov_A 1 50 := ⟨rfl, by decide, rfl⟩
theorem oA_51 : ov_A 1 51 := ⟨rfl, by decide, rfl⟩
theorem oA_52 : ov_A 1 52 := ⟨rfl, by decide, rfl⟩
theorem oA_53 : ov_A 1 53 := ⟨rfl, by decide, rfl⟩
theorem oA_54 : ov_A 1 54 := ⟨rfl, by decide, rfl⟩
theorem oA_55 : ov_A 1 55 := ⟨rfl, by decide, rfl⟩
theorem oA_56 : ov_A 1 56 := ⟨rfl, by decide, rfl⟩
theorem oA_57 : ov_A 1 57 := ⟨rfl, by decide, rfl⟩
theorem oA_58 : ov_A 1 58 := ⟨rfl, by decide, rfl⟩
theorem oA_59 : ov_A 1 59 := ⟨rfl, by decide, rfl⟩
theorem oA_60 : ov_A 2 60 := ⟨rfl, by decide, rfl⟩
theorem oA_61 : ov_A 1 61 := ⟨rfl, by decide, rfl⟩
theorem oA_62 : ov_A 1 62 := ⟨rfl, by decide, rfl⟩
theorem oA_63 : ov_A 1 63 := ⟨rfl, by decide, rfl⟩
theorem oA_64 : ov_A 1 64 := ⟨rfl, by decide, rfl⟩
theorem oA_65 : ov_A 1 65 := ⟨rfl, by decide, rfl⟩
theorem oA_66 : ov_A 1 66 := ⟨rfl, by decide, rfl⟩
theorem ev_iret {v : Int32} (hd : decode (ov_byt M) pc = .ok (.ireturn, 1)) (hr : ov_rt M = some .int) (hP : P (some (.int v)) S G) : ov_J L d M pc lv [.int v] S G P := ev_ret (fun lv' => by
  unfold ov_ret
  dsimp only
  rw [hd, hr]
  rfl) hP
theorem ev_zret {v : Int32} (hd : decode (ov_byt M) pc = .ok (.ireturn, 1)) (hr : ov_rt M = some .boolean) (hv : v = 0 ∨ v = 1) (hP : P (some (.int v)) S G) : ov_J L d M pc lv [.int v] S G P := ev_ret (fun lv' => by
  unfold ov_ret
  dsimp only
  rw [hd, hr]
  show (if v = 0 ∨ v = 1 then some (some (Value.int v)) else none) = _
  rw [if_pos hv]) hP
theorem ev_lret {v : Int64} (hd : decode (ov_byt M) pc = .ok (.lreturn, 1)) (hr : ov_rt M = some .long) (hP : P (some (.long v)) S G) : ov_J L d M pc lv [.long v] S G P := ev_ret (fun lv' => by
  unfold ov_ret
  dsimp only
  rw [hd, hr]
  rfl) hP
theorem ev_vret (hd : decode (ov_byt M) pc = .ok (.return_, 1)) (hr : ov_rt M = none) (hP : P none S G) : ov_J L d M pc lv [] S G P := ev_ret (fun lv' => by
  unfold ov_ret
  dsimp only
  rw [hd, hr]
  rfl) hP
theorem ev_csi {y n dc : Nat} {as rest : List Value} {r : Int32} (hc : ov_CL M pc 0 y) (hn : ov_np y = n) (hst : st = as.reverse ++ rest) (hl : as.length = n) (hm : Nat.ble (ov_as as).length (ov_mx y) = true) (hr : Nat.ble (rest.map fun v => v.category).sum 8 = true) (hd : dc ≤ d) (hC : ov_R L dc y as S G (some (.int r)) S1 G1) (kk : ov_J L d M (pc + 3) lv (.int r :: rest) S1 G1 P) : ov_J L d M pc lv st S G P := ev_cs hc hn hst hl hm hr hd hC kk
theorem ev_csl {y n dc : Nat} {as rest : List Value} {r : Int64} (hc : ov_CL M pc 0 y) (hn : ov_np y = n) (hst : st = as.reverse ++ rest) (hl : as.length = n) (hm : Nat.ble (ov_as as).length (ov_mx y) = true) (hr : Nat.ble (rest.map fun v => v.category).sum 8 = true) (hd : dc ≤ d) (hC : ov_R L dc y as S G (some (.long r)) S1 G1) (kk : ov_J L d M (pc + 3) lv (.long r :: rest) S1 G1 P) : ov_J L d M pc lv st S G P := ev_cs hc hn hst hl hm hr hd hC kk
theorem ev_csv {y n dc : Nat} {as rest : List Value} (hc : ov_CL M pc 0 y) (hn : ov_np y = n) (hst : st = as.reverse ++ rest) (hl : as.length = n) (hm : Nat.ble (ov_as as).length (ov_mx y) = true) (hr : Nat.ble (rest.map fun v => v.category).sum 8 = true) (hd : dc ≤ d) (hC : ov_R L dc y as S G none S1 G1) (kk : ov_J L d M (pc + 3) lv rest S1 G1 P) : ov_J L d M pc lv st S G P := ev_cs hc hn hst hl hm hr hd hC kk
theorem ev_cvi {y n dc a c : Nat} {as rest : List Value} {r : Int32} (hc : ov_CL M pc 1 y) (hn : ov_np y = n) (hst : st = as.reverse ++ .ref a :: rest) (hl : as.length = n) (ho : ov_O a c) (hoc : Nat.beq (ov_oc y) (c + 1) = true) (hm : Nat.ble (ov_as as).length (ov_mx y - 1) = true) (h0 : Nat.blt 0 (ov_mx y) = true) (hr : Nat.ble (rest.map fun v => v.category).sum 8 = true) (hd : dc ≤ d) (hC : ov_R L dc y (.ref a :: as) S G (some (.int r)) S1 G1) (kk : ov_J L d M (pc + 3) lv (.int r :: rest) S1 G1 P) : ov_J L d M pc lv st S G P := ev_cv hc hn hst hl ho hoc hm h0 hr hd hC kk
theorem ev_cvl {y n dc a c : Nat} {as rest : List Value} {r : Int64} (hc : ov_CL M pc 1 y) (hn : ov_np y = n) (hst : st = as.reverse ++ .ref a :: rest) (hl : as.length = n) (ho : ov_O a c) (hoc : Nat.beq (ov_oc y) (c + 1) = true) (hm : Nat.ble (ov_as as).length (ov_mx y - 1) = true) (h0 : Nat.blt 0 (ov_mx y) = true) (hr : Nat.ble (rest.map fun v => v.category).sum 8 = true) (hd : dc ≤ d) (hC : ov_R L dc y (.ref a :: as) S G (some (.long r)) S1 G1) (kk : ov_J L d M (pc + 3) lv (.long r :: rest) S1 G1 P) : ov_J L d M pc lv st S G P := ev_cv hc hn hst hl ho hoc hm h0 hr hd hC kk
theorem ev_cvv {y n dc a c : Nat} {as rest : List Value} (hc : ov_CL M pc 1 y) (hn : ov_np y = n) (hst : st = as.reverse ++ .ref a :: rest) (hl : as.length = n) (ho : ov_O a c) (hoc : Nat.beq (ov_oc y) (c + 1) = true) (hm : Nat.ble (ov_as as).length (ov_mx y - 1) = true) (h0 : Nat.blt 0 (ov_mx y) = true) (hr : Nat.ble (rest.map fun v => v.category).sum 8 = true) (hd : dc ≤ d) (hC : ov_R L dc y (.ref a :: as) S G none S1 G1) (kk : ov_J L d M (pc + 3) lv rest S1 G1 P) : ov_J L d M pc lv st S G P := ev_cv hc hn hst hl ho hoc hm h0 hr hd hC kk
-- switches at a known number
theorem ev_tsc {dd lo hi : Int} {offs : Array Int} {ln : Nat} {x y : Int32} {off : Int} {t : Nat} (hx : x = y) (hd : decode (ov_byt M) pc = .ok (.tableswitch dd lo hi offs, ln)) (h : if y.toInt < lo ∨ hi < y.toInt then off = dd else offs[(y.toInt - lo).toNat]? = some off) (ht : (pc : Int) + off = (t : Int)) (kk : ov_J L d M t lv st S G P) : ov_J L d M pc lv (.int x :: st) S G P := by
  subst hx
  exact ev_ts hd h ht kk
theorem ev_tsd {dd lo hi : Int} {offs : Array Int} {ln : Nat} {x : Int32} {t : Nat} (hx : x.toInt < lo ∨ hi < x.toInt) (hd : decode (ov_byt M) pc = .ok (.tableswitch dd lo hi offs, ln)) (ht : (pc : Int) + dd = (t : Int)) (kk : ov_J L d M t lv st S G P) : ov_J L d M pc lv (.int x :: st) S G P := ev_ts hd (by rw [if_pos hx]) ht kk
theorem ov_ni {x y : Int32} (h : ¬ x = y) : x.toInt ≠ y.toInt := fun q => h (Int32.toInt_inj.mp q)
-- Math and copies
theorem ev_mth {i op pc' w : Nat} {st' : List Value} (hd : decode (ov_byt M) pc = .ok (.invokestatic i, 3)) (hf : ov_find ov_xt (i * 32 + ov_oc M) = some (op, w)) (h : ∀ lv', ov_mth op pc lv' st (ov_mm L S G) = some (pc', lv', st', ov_mm L S G)) (kk : ov_J L d M pc' lv st' S G P) : ov_J L d M pc lv st S G P := ev_i hd rfl (fun lv' => by
  show ov_sta _ _ _ _ _ _ = _
  unfold ov_sta
  rw [hf]
  exact h lv') kk
def ov_XL (M pc op : Nat) : Prop := ∃ (i w : Nat), decode (ov_byt M) pc = .ok (.invokestatic i, 3) ∧ ov_find ov_xt (i * 32 + ov_oc M) = some (op, w)
theorem ev_mabs {x : Int32} (hc : ov_XL M pc 0) (hr : Nat.ble (st.map fun v => v.category).sum 8 = true) (kk : ov_J L d M (pc + 3) lv (.int (if 0 ≤ x then x else 0 - x) :: st) S G P) : ov_J L d M pc lv (.int x :: st) S G P := by
  obtain ⟨i, w, hd, hf⟩ := hc
  refine ev_mth hd hf (fun lv' => ?_) kk
  simp only [ov_mth]
  rw [if_neg (Nat.not_lt.mpr (Nat.le_of_ble_eq_true hr))]
theorem ev_mmax {x y : Int32} (hc : ov_XL M pc 1) (hr : Nat.ble (st.map fun v => v.category).sum 8 = true) (kk : ov_J L d M (pc + 3) lv (.int (if x < y then y else x) :: st) S G P) : ov_J L d M pc lv (.int y :: .int x :: st) S G P := by
  obtain ⟨i, w, hd, hf⟩ := hc
  refine ev_mth hd hf (fun lv' => ?_) kk
  simp only [ov_mth]
  rw [if_neg (Nat.not_lt.mpr (Nat.le_of_ble_eq_true hr))]
theorem ev_mabsl {x : Int64} (hc : ov_XL M pc 2) (hr : Nat.ble (st.map fun v => v.category).sum 8 = true) (kk : ov_J L d M (pc + 3) lv (.long (if 0 < x then x else -x) :: st) S G P) : ov_J L d M pc lv (.long x :: st) S G P := by
  obtain ⟨i, w, hd, hf⟩ := hc
  refine ev_mth hd hf (fun lv' => ?_) kk
  simp only [ov_mth]
  rw [if_neg (Nat.not_lt.mpr (Nat.le_of_ble_eq_true hr))]
def ov_cp (S : ov_S) (a0 sp a dp n : Nat) : ov_S := fun i j => if i = a ∧ dp ≤ j ∧ j < dp + n then S a0 (sp + (j - dp)) else S i j
def ov_CY (M pc : Nat) : Prop := ∃ (i w : Nat), decode (ov_byt M) pc = .ok (.invokestatic i, 3) ∧ ov_find ov_xt (i * 32 + ov_oc M) = none ∧ ov_find ov_ct (i * 32 + ov_oc M) = some w
def ov_cyb (sp dp n : Int32) (n0 n1 : Nat) : Bool := !(decide (n < 0) || decide (dp < 0) || decide (sp < 0) || decide (n0 < sp.toNatClampNeg + n.toNatClampNeg) || decide (n1 < dp.toNatClampNeg + n.toNatClampNeg))
theorem ev_cy {a0 a1 : Nat} {sp dp n : Int32} (hc : ov_CY M pc) (h0 : ov_A 1 a0) (h1 : ov_A 1 a1) (hb : ov_cyb sp dp n (ov_ln a0) (ov_ln a1) = true) (hr : Nat.ble (st.map fun v => v.category).sum 8 = true) (kk : ov_J L d M (pc + 3) lv st (ov_cp S a0 sp.toNatClampNeg a1 dp.toNatClampNeg n.toNatClampNeg) G P) : ov_J L d M pc lv (.int n :: .int dp :: .ref a1 :: .int sp :: .ref a0 :: st) S G P := by
  obtain ⟨i, w, hd, hf, hf2⟩ := hc
  refine ev_i hd rfl (fun lv' => ?_) kk
  show ov_sta _ _ _ _ _ _ = _
  unfold ov_sta
  rw [hf]
  show ov_cy _ _ _ _ _ _ = _
  cases a0 with
  | zero => exact absurd rfl h0.2.1
  | succ i0 =>
    cases a1 with
    | zero => exact absurd rfl h1.2.1
    | succ i1 =>
      unfold ov_cy
      rw [hf2]
      show (match (ov_mm L S G).1[i0 + 1]?, (ov_mm L S G).1[i1 + 1]? with
        | some (1, _, n0), some (1, _, n1) => if n < 0 ∨ dp < 0 ∨ sp < 0 ∨ n0 < sp.toNatClampNeg + n.toNatClampNeg ∨ n1 < dp.toNatClampNeg + n.toNatClampNeg ∨ 8 < (st.map fun (v : Value) => v.category).sum then none
          else some (pc + 3, lv', st, ov_rp (ov_mm L S G) (i1 + 1) (va_cpy ((ov_mm L S G).2 (i0 + 1)) ((ov_mm L S G).2 (i1 + 1)) sp.toNatClampNeg dp.toNatClampNeg n.toNatClampNeg))
        | _, _ => none) = _
      rw [show (ov_mm L S G).1[i0 + 1]? = some (1, 0, ov_ln (i0 + 1)) from ov_shO h0.1 h0.2.1, show (ov_mm L S G).1[i1 + 1]? = some (1, 0, ov_ln (i1 + 1)) from ov_shO h1.1 h1.2.1]
      show (if n < 0 ∨ dp < 0 ∨ sp < 0 ∨ ov_ln (i0 + 1) < sp.toNatClampNeg + n.toNatClampNeg ∨ ov_ln (i1 + 1) < dp.toNatClampNeg + n.toNatClampNeg ∨ 8 < (st.map fun (v : Value) => v.category).sum then none
        else some (pc + 3, lv', st, ov_rp (ov_mm L S G) (i1 + 1) (va_cpy ((ov_mm L S G).2 (i0 + 1)) ((ov_mm L S G).2 (i1 + 1)) sp.toNatClampNeg dp.toNatClampNeg n.toNatClampNeg))) = _
      have hr2 := Nat.le_of_ble_eq_true hr
      unfold ov_cyb at hb
      simp only [Bool.not_eq_true', Bool.or_eq_false_iff, decide_eq_false_iff_not] at hb
      obtain ⟨⟨⟨⟨g1, g2⟩, g3⟩, g4⟩, g5⟩ := hb
      rw [if_neg (by
        rintro (q | q | q | q | q | q)
        · exact g1 q
        · exact g2 q
        · exact g3 q
        · exact g4 q
        · exact g5 q
        · omega)]
      congr 4
      unfold ov_rp ov_mm
      congr 1
      funext k j
      dsimp only
      by_cases hk : k = i1 + 1
      · subst hk
        rw [if_pos rfl]
        unfold va_cpy
        rw [h1.vv j]
        unfold ov_cp
        by_cases hj : dp.toNatClampNeg ≤ j ∧ j < dp.toNatClampNeg + n.toNatClampNeg
        · rw [if_pos hj, h0.vv, h1.vv, if_pos ⟨rfl, hj⟩]
        · rw [if_neg hj, h1.vv, if_neg (fun q => hj q.2)]
      · rw [if_neg hk]
        unfold ov_vv ov_cp
        rw [if_neg (fun q => hk q.1)]
end ov_E
end
section
def ov_sm {σ ε : Type} (f : σ → Prop) (g : ε → Prop) : σ ⊕ ε → Prop
  | .inl s => f s
  | .inr e => g e
theorem ov_lp_S {σ ε : Type} {body : σ → Option (σ ⊕ ε)} {head : σ → Prop} {exit : ε → Prop} (hb : ∀ s r, body s = some r → ov_sm head exit r → head s) (n : Nat) (s : σ) (e : ε) (h : ov_lp body n s = some e) (hx : exit e) : head s :=
  ov_lp_J (fun s r h hk => hb s r h (by cases r <;> exact hk)) n s e h hx
theorem ov_le_e : ov_le [] [] := trivial
theorem ov_le_s {v : Value} {r s : List (Option Value)} (h : ov_le r s) : ov_le (some v :: r) (some v :: s) := ⟨rfl, h⟩
theorem ov_le_n {o : Option Value} {r s : List (Option Value)} (h : ov_le r s) : ov_le (none :: r) (o :: s) := h
theorem oS_18 : ov_St 18 := Or.inl rfl
theorem oS_21 : ov_St 21 := Or.inr (Or.inl rfl)
theorem oS_36 : ov_St 36 := Or.inr (Or.inr (Or.inl rfl))
theorem oS_39 : ov_St 39 := Or.inr (Or.inr (Or.inr rfl))
theorem oP_4 : ov_Pl 4 := Or.inl rfl
theorem oP_11 : ov_Pl 11 := Or.inr rfl
theorem st_l1 {a : Nat} (h : ov_St a) : ov_ln (a + 1) = 6 := by rcases h with rfl | rfl | rfl | rfl <;> rfl
theorem st_l2 {a : Nat} (h : ov_St a) : ov_ln (a + 2) = 4 := by rcases h with rfl | rfl | rfl | rfl <;> rfl
theorem oG_1 : ∀ j, ov_cd 1 j = 1 → j = 11 := by
  intro j h
  by_cases hj : j < 12
  · revert h
    have : ∀ j, j < 12 → ov_cd 1 j = 1 → j = 11 := by decide
    exact this j hj
  · unfold ov_cd at h
    rw [List.getD_eq_getElem?_getD (l := ov_st.getD 1 []), List.getElem?_eq_none (by show 12 ≤ j; omega)] at h
    cases h
theorem oG_42 : ∀ j, ov_cd 42 j = 1 → j = 33 := by
  intro j h
  by_cases hj : j < 43
  · revert h
    have : ∀ j, j < 43 → ov_cd 42 j = 1 → j = 33 := by decide +kernel
    exact this j hj
  · unfold ov_cd at h
    rw [List.getD_eq_getElem?_getD (l := ov_st.getD 42 []), List.getElem?_eq_none (by show 43 ≤ j; omega)] at h
    cases h
end
