section
-- ===== PART A: goes FIRST, ahead of the names: the tables' words, and 'selects' of the private methods out of them =====
/-- a private method of a class that the tables say can be made, by its rows of tables_1 -/
def lw_okq (q : MethodName × Nat) : Prop := (q.1.cls ≠ "java/lang/invoke/MethodHandle" ∧ q.1.cls ≠ "java/lang/invoke/VarHandle") ∧ Cond.instantiable q.1.cls q.2 ∈ tables_1 ∧ Cond.privateMethod q.1 ∈ tables_1 ∧ Cond.instanceMethod q.1 ∈ tables_1
theorem lw_p0 : lw_okq (⟨"SafeSweeps", "renewed", "(I)LSafeSweeps$Saver;"⟩, 10) := ⟨⟨by decide +kernel, by decide +kernel⟩, List.mem_of_getElem? (i := 18) (by decide +kernel), List.mem_of_getElem? (i := 320) (by decide +kernel), List.mem_of_getElem? (i := 321) (by decide +kernel)⟩
theorem lw_p1 : lw_okq (⟨"SafeSweeps", "saverHere", "(I)LSafeSweeps$Saver;"⟩, 10) := ⟨⟨by decide +kernel, by decide +kernel⟩, List.mem_of_getElem? (i := 18) (by decide +kernel), List.mem_of_getElem? (i := 324) (by decide +kernel), List.mem_of_getElem? (i := 325) (by decide +kernel)⟩
theorem lw_p2 : lw_okq (⟨"SafeSweeps", "saveNew", "(LSafeSweeps$Saver;JI)I"⟩, 10) := ⟨⟨by decide +kernel, by decide +kernel⟩, List.mem_of_getElem? (i := 18) (by decide +kernel), List.mem_of_getElem? (i := 357) (by decide +kernel), List.mem_of_getElem? (i := 358) (by decide +kernel)⟩
theorem lw_p3 : lw_okq (⟨"SafeSweeps", "losePower", "()I"⟩, 10) := ⟨⟨by decide +kernel, by decide +kernel⟩, List.mem_of_getElem? (i := 18) (by decide +kernel), List.mem_of_getElem? (i := 466) (by decide +kernel), List.mem_of_getElem? (i := 467) (by decide +kernel)⟩
theorem lw_p4 : lw_okq (⟨"SafeSweeps", "saveFound", "(LSafeSweeps$Saver;I)I"⟩, 10) := ⟨⟨by decide +kernel, by decide +kernel⟩, List.mem_of_getElem? (i := 18) (by decide +kernel), List.mem_of_getElem? (i := 475) (by decide +kernel), List.mem_of_getElem? (i := 476) (by decide +kernel)⟩
theorem lw_p5 : lw_okq (⟨"SafeSweeps", "takeFor", "(LSafeSweeps$Saver;I)I"⟩, 10) := ⟨⟨by decide +kernel, by decide +kernel⟩, List.mem_of_getElem? (i := 18) (by decide +kernel), List.mem_of_getElem? (i := 483) (by decide +kernel), List.mem_of_getElem? (i := 484) (by decide +kernel)⟩
theorem lw_p6 : lw_okq (⟨"SafeSweeps", "snapshotsThere", "()I"⟩, 10) := ⟨⟨by decide +kernel, by decide +kernel⟩, List.mem_of_getElem? (i := 18) (by decide +kernel), List.mem_of_getElem? (i := 528) (by decide +kernel), List.mem_of_getElem? (i := 529) (by decide +kernel)⟩
theorem lw_p7 : lw_okq (⟨"SafeSweeps", "snapshotIsThere", "(I)Z"⟩, 10) := ⟨⟨by decide +kernel, by decide +kernel⟩, List.mem_of_getElem? (i := 18) (by decide +kernel), List.mem_of_getElem? (i := 565) (by decide +kernel), List.mem_of_getElem? (i := 566) (by decide +kernel)⟩
theorem lw_p8 : lw_okq (⟨"SafeSweeps", "removeSnapshot", "(I)Z"⟩, 10) := ⟨⟨by decide +kernel, by decide +kernel⟩, List.mem_of_getElem? (i := 18) (by decide +kernel), List.mem_of_getElem? (i := 569) (by decide +kernel), List.mem_of_getElem? (i := 570) (by decide +kernel)⟩
theorem lw_p9 : lw_okq (⟨"SafeSweeps", "snapshotIsUnkept", "(I)Z"⟩, 10) := ⟨⟨by decide +kernel, by decide +kernel⟩, List.mem_of_getElem? (i := 18) (by decide +kernel), List.mem_of_getElem? (i := 646) (by decide +kernel), List.mem_of_getElem? (i := 647) (by decide +kernel)⟩
theorem lw_p10 : lw_okq (⟨"SafeSweeps", "lineUpOrDismiss", "(LSafeSweeps$Saver;)V"⟩, 10) := ⟨⟨by decide +kernel, by decide +kernel⟩, List.mem_of_getElem? (i := 18) (by decide +kernel), List.mem_of_getElem? (i := 663) (by decide +kernel), List.mem_of_getElem? (i := 664) (by decide +kernel)⟩
theorem lw_p11 : lw_okq (⟨"SafeSweeps", "saversHere", "()I"⟩, 10) := ⟨⟨by decide +kernel, by decide +kernel⟩, List.mem_of_getElem? (i := 18) (by decide +kernel), List.mem_of_getElem? (i := 762) (by decide +kernel), List.mem_of_getElem? (i := 763) (by decide +kernel)⟩
theorem lw_p12 : lw_okq (⟨"SafeSweeps", "saversThatUse", "(I)I"⟩, 10) := ⟨⟨by decide +kernel, by decide +kernel⟩, List.mem_of_getElem? (i := 18) (by decide +kernel), List.mem_of_getElem? (i := 770) (by decide +kernel), List.mem_of_getElem? (i := 771) (by decide +kernel)⟩
theorem lw_p13 : lw_okq (⟨"SafeSweeps", "brokenSnapshots", "(LSafeSweeps$Mirror;)I"⟩, 10) := ⟨⟨by decide +kernel, by decide +kernel⟩, List.mem_of_getElem? (i := 18) (by decide +kernel), List.mem_of_getElem? (i := 829) (by decide +kernel), List.mem_of_getElem? (i := 830) (by decide +kernel)⟩
theorem lw_p14 : lw_okq (⟨"SafeSweeps", "reachedButFreed", "()I"⟩, 10) := ⟨⟨by decide +kernel, by decide +kernel⟩, List.mem_of_getElem? (i := 18) (by decide +kernel), List.mem_of_getElem? (i := 850) (by decide +kernel), List.mem_of_getElem? (i := 851) (by decide +kernel)⟩
theorem lw_p15 : lw_okq (⟨"SafeSweepsModel", "counted", "(I)I"⟩, 54) := ⟨⟨by decide +kernel, by decide +kernel⟩, List.mem_of_getElem? (i := 885) (by decide +kernel), List.mem_of_getElem? (i := 1073) (by decide +kernel), List.mem_of_getElem? (i := 1074) (by decide +kernel)⟩
def lw_privs_1 : List (MethodName × Nat) := [(⟨"SafeSweeps", "renewed", "(I)LSafeSweeps$Saver;"⟩, 10), (⟨"SafeSweeps", "saverHere", "(I)LSafeSweeps$Saver;"⟩, 10), (⟨"SafeSweeps", "saveNew", "(LSafeSweeps$Saver;JI)I"⟩, 10), (⟨"SafeSweeps", "losePower", "()I"⟩, 10), (⟨"SafeSweeps", "saveFound", "(LSafeSweeps$Saver;I)I"⟩, 10), (⟨"SafeSweeps", "takeFor", "(LSafeSweeps$Saver;I)I"⟩, 10), (⟨"SafeSweeps", "snapshotsThere", "()I"⟩, 10), (⟨"SafeSweeps", "snapshotIsThere", "(I)Z"⟩, 10), (⟨"SafeSweeps", "removeSnapshot", "(I)Z"⟩, 10), (⟨"SafeSweeps", "snapshotIsUnkept", "(I)Z"⟩, 10), (⟨"SafeSweeps", "lineUpOrDismiss", "(LSafeSweeps$Saver;)V"⟩, 10), (⟨"SafeSweeps", "saversHere", "()I"⟩, 10), (⟨"SafeSweeps", "saversThatUse", "(I)I"⟩, 10), (⟨"SafeSweeps", "brokenSnapshots", "(LSafeSweeps$Mirror;)I"⟩, 10), (⟨"SafeSweeps", "reachedButFreed", "()I"⟩, 10), (⟨"SafeSweepsModel", "counted", "(I)I"⟩, 54)]
theorem lw_r1 : ∀ q ∈ lw_privs_1, lw_okq q := List.forall_mem_cons.mpr ⟨lw_p0, List.forall_mem_cons.mpr ⟨lw_p1, List.forall_mem_cons.mpr ⟨lw_p2, List.forall_mem_cons.mpr ⟨lw_p3, List.forall_mem_cons.mpr ⟨lw_p4, List.forall_mem_cons.mpr ⟨lw_p5, List.forall_mem_cons.mpr ⟨lw_p6, List.forall_mem_cons.mpr ⟨lw_p7, List.forall_mem_cons.mpr ⟨lw_p8, List.forall_mem_cons.mpr ⟨lw_p9, List.forall_mem_cons.mpr ⟨lw_p10, List.forall_mem_cons.mpr ⟨lw_p11, List.forall_mem_cons.mpr ⟨lw_p12, List.forall_mem_cons.mpr ⟨lw_p13, List.forall_mem_cons.mpr ⟨lw_p14, List.forall_mem_cons.mpr ⟨lw_p15, fun _ h => absurd h List.not_mem_nil⟩⟩⟩⟩⟩⟩⟩⟩⟩⟩⟩⟩⟩⟩⟩⟩
theorem lw_p16 : lw_okq (⟨"SafeSweepsModel", "snapshotsThere", "()I"⟩, 54) := ⟨⟨by decide +kernel, by decide +kernel⟩, List.mem_of_getElem? (i := 885) (by decide +kernel), List.mem_of_getElem? (i := 1077) (by decide +kernel), List.mem_of_getElem? (i := 1078) (by decide +kernel)⟩
theorem lw_p17 : lw_okq (⟨"SafeSweepsModel", "savers", "()I"⟩, 54) := ⟨⟨by decide +kernel, by decide +kernel⟩, List.mem_of_getElem? (i := 885) (by decide +kernel), List.mem_of_getElem? (i := 1081) (by decide +kernel), List.mem_of_getElem? (i := 1082) (by decide +kernel)⟩
theorem lw_p18 : lw_okq (⟨"SafeSweepsModel", "isSaver", "(I)Z"⟩, 54) := ⟨⟨by decide +kernel, by decide +kernel⟩, List.mem_of_getElem? (i := 885) (by decide +kernel), List.mem_of_getElem? (i := 1099) (by decide +kernel), List.mem_of_getElem? (i := 1100) (by decide +kernel)⟩
theorem lw_p19 : lw_okq (⟨"SafeSweepsModel", "meet", "(I)Z"⟩, 54) := ⟨⟨by decide +kernel, by decide +kernel⟩, List.mem_of_getElem? (i := 885) (by decide +kernel), List.mem_of_getElem? (i := 1104) (by decide +kernel), List.mem_of_getElem? (i := 1105) (by decide +kernel)⟩
theorem lw_p20 : lw_okq (⟨"SafeSweepsModel", "isDead", "(I)Z"⟩, 54) := ⟨⟨by decide +kernel, by decide +kernel⟩, List.mem_of_getElem? (i := 885) (by decide +kernel), List.mem_of_getElem? (i := 1108) (by decide +kernel), List.mem_of_getElem? (i := 1109) (by decide +kernel)⟩
theorem lw_p21 : lw_okq (⟨"SafeSweepsModel", "isBlock", "(I)Z"⟩, 54) := ⟨⟨by decide +kernel, by decide +kernel⟩, List.mem_of_getElem? (i := 885) (by decide +kernel), List.mem_of_getElem? (i := 1112) (by decide +kernel), List.mem_of_getElem? (i := 1113) (by decide +kernel)⟩
theorem lw_p22 : lw_okq (⟨"SafeSweepsModel", "uses", "(II)Z"⟩, 54) := ⟨⟨by decide +kernel, by decide +kernel⟩, List.mem_of_getElem? (i := 885) (by decide +kernel), List.mem_of_getElem? (i := 1116) (by decide +kernel), List.mem_of_getElem? (i := 1117) (by decide +kernel)⟩
theorem lw_p23 : lw_okq (⟨"SafeSweepsModel", "find", "(IJI)I"⟩, 54) := ⟨⟨by decide +kernel, by decide +kernel⟩, List.mem_of_getElem? (i := 885) (by decide +kernel), List.mem_of_getElem? (i := 1124) (by decide +kernel), List.mem_of_getElem? (i := 1125) (by decide +kernel)⟩
theorem lw_p24 : lw_okq (⟨"SafeSweepsModel", "taken", "(II)Z"⟩, 54) := ⟨⟨by decide +kernel, by decide +kernel⟩, List.mem_of_getElem? (i := 885) (by decide +kernel), List.mem_of_getElem? (i := 1128) (by decide +kernel), List.mem_of_getElem? (i := 1129) (by decide +kernel)⟩
theorem lw_p25 : lw_okq (⟨"SafeSweepsModel", "reachFrom", "(I)V"⟩, 54) := ⟨⟨by decide +kernel, by decide +kernel⟩, List.mem_of_getElem? (i := 885) (by decide +kernel), List.mem_of_getElem? (i := 1132) (by decide +kernel), List.mem_of_getElem? (i := 1133) (by decide +kernel)⟩
theorem lw_p26 : lw_okq (⟨"SafeSweepsModel", "write", "()Z"⟩, 54) := ⟨⟨by decide +kernel, by decide +kernel⟩, List.mem_of_getElem? (i := 885) (by decide +kernel), List.mem_of_getElem? (i := 1136) (by decide +kernel), List.mem_of_getElem? (i := 1137) (by decide +kernel)⟩
theorem lw_p27 : lw_okq (⟨"SafeSweepsModel", "use", "(II)V"⟩, 54) := ⟨⟨by decide +kernel, by decide +kernel⟩, List.mem_of_getElem? (i := 885) (by decide +kernel), List.mem_of_getElem? (i := 1140) (by decide +kernel), List.mem_of_getElem? (i := 1141) (by decide +kernel)⟩
theorem lw_p28 : lw_okq (⟨"SafeSweepsModel", "fitsLatest", "(I)Z"⟩, 54) := ⟨⟨by decide +kernel, by decide +kernel⟩, List.mem_of_getElem? (i := 885) (by decide +kernel), List.mem_of_getElem? (i := 1144) (by decide +kernel), List.mem_of_getElem? (i := 1145) (by decide +kernel)⟩
theorem lw_p29 : lw_okq (⟨"SafeSweepsModel", "made", "(IJI)I"⟩, 54) := ⟨⟨by decide +kernel, by decide +kernel⟩, List.mem_of_getElem? (i := 885) (by decide +kernel), List.mem_of_getElem? (i := 1148) (by decide +kernel), List.mem_of_getElem? (i := 1149) (by decide +kernel)⟩
theorem lw_p30 : lw_okq (⟨"SafeSweepsModel", "tell", "(II)V"⟩, 54) := ⟨⟨by decide +kernel, by decide +kernel⟩, List.mem_of_getElem? (i := 885) (by decide +kernel), List.mem_of_getElem? (i := 1152) (by decide +kernel), List.mem_of_getElem? (i := 1153) (by decide +kernel)⟩
theorem lw_p31 : lw_okq (⟨"SafeSweepsModel", "isSnapshot", "(I)Z"⟩, 54) := ⟨⟨by decide +kernel, by decide +kernel⟩, List.mem_of_getElem? (i := 885) (by decide +kernel), List.mem_of_getElem? (i := 1172) (by decide +kernel), List.mem_of_getElem? (i := 1173) (by decide +kernel)⟩
def lw_privs_2 : List (MethodName × Nat) := [(⟨"SafeSweepsModel", "snapshotsThere", "()I"⟩, 54), (⟨"SafeSweepsModel", "savers", "()I"⟩, 54), (⟨"SafeSweepsModel", "isSaver", "(I)Z"⟩, 54), (⟨"SafeSweepsModel", "meet", "(I)Z"⟩, 54), (⟨"SafeSweepsModel", "isDead", "(I)Z"⟩, 54), (⟨"SafeSweepsModel", "isBlock", "(I)Z"⟩, 54), (⟨"SafeSweepsModel", "uses", "(II)Z"⟩, 54), (⟨"SafeSweepsModel", "find", "(IJI)I"⟩, 54), (⟨"SafeSweepsModel", "taken", "(II)Z"⟩, 54), (⟨"SafeSweepsModel", "reachFrom", "(I)V"⟩, 54), (⟨"SafeSweepsModel", "write", "()Z"⟩, 54), (⟨"SafeSweepsModel", "use", "(II)V"⟩, 54), (⟨"SafeSweepsModel", "fitsLatest", "(I)Z"⟩, 54), (⟨"SafeSweepsModel", "made", "(IJI)I"⟩, 54), (⟨"SafeSweepsModel", "tell", "(II)V"⟩, 54), (⟨"SafeSweepsModel", "isSnapshot", "(I)Z"⟩, 54)]
theorem lw_r2 : ∀ q ∈ lw_privs_2, lw_okq q := List.forall_mem_cons.mpr ⟨lw_p16, List.forall_mem_cons.mpr ⟨lw_p17, List.forall_mem_cons.mpr ⟨lw_p18, List.forall_mem_cons.mpr ⟨lw_p19, List.forall_mem_cons.mpr ⟨lw_p20, List.forall_mem_cons.mpr ⟨lw_p21, List.forall_mem_cons.mpr ⟨lw_p22, List.forall_mem_cons.mpr ⟨lw_p23, List.forall_mem_cons.mpr ⟨lw_p24, List.forall_mem_cons.mpr ⟨lw_p25, List.forall_mem_cons.mpr ⟨lw_p26, List.forall_mem_cons.mpr ⟨lw_p27, List.forall_mem_cons.mpr ⟨lw_p28, List.forall_mem_cons.mpr ⟨lw_p29, List.forall_mem_cons.mpr ⟨lw_p30, List.forall_mem_cons.mpr ⟨lw_p31, fun _ h => absurd h List.not_mem_nil⟩⟩⟩⟩⟩⟩⟩⟩⟩⟩⟩⟩⟩⟩⟩⟩
theorem lw_p32 : lw_okq (⟨"SafeSweepsModel", "goes", "(I)Z"⟩, 54) := ⟨⟨by decide +kernel, by decide +kernel⟩, List.mem_of_getElem? (i := 885) (by decide +kernel), List.mem_of_getElem? (i := 1176) (by decide +kernel), List.mem_of_getElem? (i := 1177) (by decide +kernel)⟩
theorem lw_p33 : lw_okq (⟨"SafeSweepsModel", "keptBy", "(I)I"⟩, 54) := ⟨⟨by decide +kernel, by decide +kernel⟩, List.mem_of_getElem? (i := 885) (by decide +kernel), List.mem_of_getElem? (i := 1191) (by decide +kernel), List.mem_of_getElem? (i := 1192) (by decide +kernel)⟩
theorem lw_p34 : lw_okq (⟨"SafeSweepsModel", "behind", "(I)I"⟩, 54) := ⟨⟨by decide +kernel, by decide +kernel⟩, List.mem_of_getElem? (i := 885) (by decide +kernel), List.mem_of_getElem? (i := 1195) (by decide +kernel), List.mem_of_getElem? (i := 1196) (by decide +kernel)⟩
theorem lw_p35 : lw_okq (⟨"SafeSweepsModel", "spanKeeps", "(II)Z"⟩, 54) := ⟨⟨by decide +kernel, by decide +kernel⟩, List.mem_of_getElem? (i := 885) (by decide +kernel), List.mem_of_getElem? (i := 1199) (by decide +kernel), List.mem_of_getElem? (i := 1200) (by decide +kernel)⟩
theorem lw_p36 : lw_okq (⟨"SafeSweepsModel", "spanOf", "(JI)J"⟩, 54) := ⟨⟨by decide +kernel, by decide +kernel⟩, List.mem_of_getElem? (i := 885) (by decide +kernel), List.mem_of_getElem? (i := 1203) (by decide +kernel), List.mem_of_getElem? (i := 1204) (by decide +kernel)⟩
theorem lw_p37 : lw_okq (⟨"SafeSweepsModel", "push", "(I)V"⟩, 54) := ⟨⟨by decide +kernel, by decide +kernel⟩, List.mem_of_getElem? (i := 885) (by decide +kernel), List.mem_of_getElem? (i := 1233) (by decide +kernel), List.mem_of_getElem? (i := 1234) (by decide +kernel)⟩
theorem lw_p38 : lw_okq (⟨"SafeSweepsModel", "settle", "()V"⟩, 54) := ⟨⟨by decide +kernel, by decide +kernel⟩, List.mem_of_getElem? (i := 885) (by decide +kernel), List.mem_of_getElem? (i := 1237) (by decide +kernel), List.mem_of_getElem? (i := 1238) (by decide +kernel)⟩
theorem lw_p39 : lw_okq (⟨"SafeSweepsModel", "mark", "()V"⟩, 54) := ⟨⟨by decide +kernel, by decide +kernel⟩, List.mem_of_getElem? (i := 885) (by decide +kernel), List.mem_of_getElem? (i := 1245) (by decide +kernel), List.mem_of_getElem? (i := 1246) (by decide +kernel)⟩
theorem lw_p40 : lw_okq (⟨"SafeSweepsModel", "clear", "()Z"⟩, 54) := ⟨⟨by decide +kernel, by decide +kernel⟩, List.mem_of_getElem? (i := 885) (by decide +kernel), List.mem_of_getElem? (i := 1249) (by decide +kernel), List.mem_of_getElem? (i := 1250) (by decide +kernel)⟩
theorem lw_p41 : lw_okq (⟨"SafeSweepsModel", "choose", "()Z"⟩, 54) := ⟨⟨by decide +kernel, by decide +kernel⟩, List.mem_of_getElem? (i := 885) (by decide +kernel), List.mem_of_getElem? (i := 1253) (by decide +kernel), List.mem_of_getElem? (i := 1254) (by decide +kernel)⟩
theorem lw_p42 : lw_okq (⟨"SafeSweepsModel", "packStep", "()Z"⟩, 54) := ⟨⟨by decide +kernel, by decide +kernel⟩, List.mem_of_getElem? (i := 885) (by decide +kernel), List.mem_of_getElem? (i := 1257) (by decide +kernel), List.mem_of_getElem? (i := 1258) (by decide +kernel)⟩
theorem lw_p43 : lw_okq (⟨"SafeSweepsModel", "bytesIn", "(I)I"⟩, 54) := ⟨⟨by decide +kernel, by decide +kernel⟩, List.mem_of_getElem? (i := 885) (by decide +kernel), List.mem_of_getElem? (i := 1261) (by decide +kernel), List.mem_of_getElem? (i := 1262) (by decide +kernel)⟩
theorem lw_p44 : lw_okq (⟨"SafeSweepsModel", "blocksIn", "(I)I"⟩, 54) := ⟨⟨by decide +kernel, by decide +kernel⟩, List.mem_of_getElem? (i := 885) (by decide +kernel), List.mem_of_getElem? (i := 1265) (by decide +kernel), List.mem_of_getElem? (i := 1266) (by decide +kernel)⟩
theorem lw_p45 : lw_okq (⟨"SafeSweepsModel", "plan", "(II)I"⟩, 54) := ⟨⟨by decide +kernel, by decide +kernel⟩, List.mem_of_getElem? (i := 885) (by decide +kernel), List.mem_of_getElem? (i := 1269) (by decide +kernel), List.mem_of_getElem? (i := 1270) (by decide +kernel)⟩
theorem lw_p46 : lw_okq (⟨"SafeSweepsModel", "usersOf", "(I)I"⟩, 54) := ⟨⟨by decide +kernel, by decide +kernel⟩, List.mem_of_getElem? (i := 885) (by decide +kernel), List.mem_of_getElem? (i := 1282) (by decide +kernel), List.mem_of_getElem? (i := 1283) (by decide +kernel)⟩
theorem lw_p47 : lw_okq (⟨"SafeSweepsModel", "isMirror", "(I)Z"⟩, 54) := ⟨⟨by decide +kernel, by decide +kernel⟩, List.mem_of_getElem? (i := 885) (by decide +kernel), List.mem_of_getElem? (i := 1317) (by decide +kernel), List.mem_of_getElem? (i := 1318) (by decide +kernel)⟩
def lw_privs_3 : List (MethodName × Nat) := [(⟨"SafeSweepsModel", "goes", "(I)Z"⟩, 54), (⟨"SafeSweepsModel", "keptBy", "(I)I"⟩, 54), (⟨"SafeSweepsModel", "behind", "(I)I"⟩, 54), (⟨"SafeSweepsModel", "spanKeeps", "(II)Z"⟩, 54), (⟨"SafeSweepsModel", "spanOf", "(JI)J"⟩, 54), (⟨"SafeSweepsModel", "push", "(I)V"⟩, 54), (⟨"SafeSweepsModel", "settle", "()V"⟩, 54), (⟨"SafeSweepsModel", "mark", "()V"⟩, 54), (⟨"SafeSweepsModel", "clear", "()Z"⟩, 54), (⟨"SafeSweepsModel", "choose", "()Z"⟩, 54), (⟨"SafeSweepsModel", "packStep", "()Z"⟩, 54), (⟨"SafeSweepsModel", "bytesIn", "(I)I"⟩, 54), (⟨"SafeSweepsModel", "blocksIn", "(I)I"⟩, 54), (⟨"SafeSweepsModel", "plan", "(II)I"⟩, 54), (⟨"SafeSweepsModel", "usersOf", "(I)I"⟩, 54), (⟨"SafeSweepsModel", "isMirror", "(I)Z"⟩, 54)]
theorem lw_r3 : ∀ q ∈ lw_privs_3, lw_okq q := List.forall_mem_cons.mpr ⟨lw_p32, List.forall_mem_cons.mpr ⟨lw_p33, List.forall_mem_cons.mpr ⟨lw_p34, List.forall_mem_cons.mpr ⟨lw_p35, List.forall_mem_cons.mpr ⟨lw_p36, List.forall_mem_cons.mpr ⟨lw_p37, List.forall_mem_cons.mpr ⟨lw_p38, List.forall_mem_cons.mpr ⟨lw_p39, List.forall_mem_cons.mpr ⟨lw_p40, List.forall_mem_cons.mpr ⟨lw_p41, List.forall_mem_cons.mpr ⟨lw_p42, List.forall_mem_cons.mpr ⟨lw_p43, List.forall_mem_cons.mpr ⟨lw_p44, List.forall_mem_cons.mpr ⟨lw_p45, List.forall_mem_cons.mpr ⟨lw_p46, List.forall_mem_cons.mpr ⟨lw_p47, fun _ h => absurd h List.not_mem_nil⟩⟩⟩⟩⟩⟩⟩⟩⟩⟩⟩⟩⟩⟩⟩⟩
theorem lw_p48 : lw_okq (⟨"SafeSweepsModel", "mirrorHas", "(III)Z"⟩, 54) := ⟨⟨by decide +kernel, by decide +kernel⟩, List.mem_of_getElem? (i := 885) (by decide +kernel), List.mem_of_getElem? (i := 1325) (by decide +kernel), List.mem_of_getElem? (i := 1326) (by decide +kernel)⟩
theorem lw_p49 : lw_okq (⟨"SafeSweepsModel", "lacks", "(II)Z"⟩, 54) := ⟨⟨by decide +kernel, by decide +kernel⟩, List.mem_of_getElem? (i := 885) (by decide +kernel), List.mem_of_getElem? (i := 1333) (by decide +kernel), List.mem_of_getElem? (i := 1334) (by decide +kernel)⟩
theorem lw_p50 : lw_okq (⟨"SafeSweepsModel", "wrongPlaces", "()I"⟩, 54) := ⟨⟨by decide +kernel, by decide +kernel⟩, List.mem_of_getElem? (i := 885) (by decide +kernel), List.mem_of_getElem? (i := 1341) (by decide +kernel), List.mem_of_getElem? (i := 1342) (by decide +kernel)⟩
theorem lw_p51 : lw_okq (⟨"SafeSweepsModel", "lostFrom", "(I)I"⟩, 54) := ⟨⟨by decide +kernel, by decide +kernel⟩, List.mem_of_getElem? (i := 885) (by decide +kernel), List.mem_of_getElem? (i := 1345) (by decide +kernel), List.mem_of_getElem? (i := 1346) (by decide +kernel)⟩
def lw_privs_4 : List (MethodName × Nat) := [(⟨"SafeSweepsModel", "mirrorHas", "(III)Z"⟩, 54), (⟨"SafeSweepsModel", "lacks", "(II)Z"⟩, 54), (⟨"SafeSweepsModel", "wrongPlaces", "()I"⟩, 54), (⟨"SafeSweepsModel", "lostFrom", "(I)I"⟩, 54)]
theorem lw_r4 : ∀ q ∈ lw_privs_4, lw_okq q := List.forall_mem_cons.mpr ⟨lw_p48, List.forall_mem_cons.mpr ⟨lw_p49, List.forall_mem_cons.mpr ⟨lw_p50, List.forall_mem_cons.mpr ⟨lw_p51, fun _ h => absurd h List.not_mem_nil⟩⟩⟩⟩
def lw_privs : List (MethodName × Nat) := lw_privs_1 ++ (lw_privs_2 ++ (lw_privs_3 ++ (lw_privs_4)))
def lw_tbl : List Cond := k2_sels lw_privs ++ tables_1
theorem lw_privs_ok : ∀ q ∈ lw_privs, lw_okq q := by
  show ∀ q ∈ lw_privs_1 ++ (lw_privs_2 ++ (lw_privs_3 ++ (lw_privs_4))), lw_okq q
  exact List.forall_mem_append.mpr ⟨lw_r1, List.forall_mem_append.mpr ⟨lw_r2, List.forall_mem_append.mpr ⟨lw_r3, lw_r4⟩⟩⟩
end
section
def RX0 : String := "SafeSweeps$Block"
def TX0 : u_T := fun k => match k with
  | 0 => ("SafeSweeps$Block", "key", "J", true)
  | 1 => ("SafeSweeps$Block", "size", "I", true)
  | 2 => ("SafeSweeps$Block", "children", "[I", true)
  | 3 => ("SafeSweeps$Block", "pack", "I", false)
  | 4 => ("SafeSweeps$Block", "place", "I", false)
  | 5 => ("SafeSweeps$Block", "waiting", "I", false)
  | 6 => ("SafeSweeps$Block", "freed", "Z", false)
  | _ => ("SafeSweeps$Block", "marked", "Z", false)
def tyX0 : Nat → FieldType := fun k => match k with
  | 0 => .long
  | 1 => .int
  | 2 => .array .int
  | 3 => .int
  | 4 => .int
  | 5 => .int
  | 6 => .boolean
  | _ => .boolean
theorem nmX0 : ∀ a, a < 8 → ∀ b, b < 8 → a ≠ b → (TX0 a).2.1 ≠ (TX0 b).2.1 := by decide +kernel
theorem tyX0_ok : ∀ k, k < 8 → parseFieldDescriptor (TX0 k).2.2.1 = some (tyX0 k) := by decide +kernel
abbrev cX0_init : ByteArray := prog_2_method_1_code
def yX0_init : MethodName := ⟨RX0, "<init>", "(JI[I)V"⟩
abbrev cX0_isLike : ByteArray := prog_2_method_2_code
def yX0_isLike : MethodName := ⟨RX0, "isLike", "(JI[II)Z"⟩
def RX1 : String := "SafeSweeps$Calendar"
def TX1 : u_T := fun k => match k with
  | _ => ("", "", "", false)
def tyX1 : Nat → FieldType := fun k => match k with
  | _ => .int
theorem nmX1 : ∀ a, a < 0 → ∀ b, b < 0 → a ≠ b → (TX1 a).2.1 ≠ (TX1 b).2.1 := by decide +kernel
theorem tyX1_ok : ∀ k, k < 0 → parseFieldDescriptor (TX1 k).2.2.1 = some (tyX1 k) := by decide +kernel
abbrev cX1_dayOf : ByteArray := prog_3_method_2_code
def yX1_dayOf : MethodName := ⟨RX1, "dayOf", "(J)J"⟩
abbrev cX1_weekOf : ByteArray := prog_3_method_3_code
def yX1_weekOf : MethodName := ⟨RX1, "weekOf", "(J)J"⟩
abbrev cX1_dayOfWeek : ByteArray := prog_3_method_4_code
def yX1_dayOfWeek : MethodName := ⟨RX1, "dayOfWeek", "(J)I"⟩
abbrev cX1_yearOf : ByteArray := prog_3_method_5_code
def yX1_yearOf : MethodName := ⟨RX1, "yearOf", "(J)J"⟩
abbrev cX1_monthOf : ByteArray := prog_3_method_6_code
def yX1_monthOf : MethodName := ⟨RX1, "monthOf", "(J)I"⟩
abbrev cX1_dayOfMonth : ByteArray := prog_3_method_7_code
def yX1_dayOfMonth : MethodName := ⟨RX1, "dayOfMonth", "(J)I"⟩
abbrev cX1_monthsUpTo : ByteArray := prog_3_method_8_code
def yX1_monthsUpTo : MethodName := ⟨RX1, "monthsUpTo", "(J)J"⟩
abbrev cX1_dayOfEra : ByteArray := prog_3_method_9_code
def yX1_dayOfEra : MethodName := ⟨RX1, "dayOfEra", "(J)J"⟩
abbrev cX1_marchYearOfEra : ByteArray := prog_3_method_10_code
def yX1_marchYearOfEra : MethodName := ⟨RX1, "marchYearOfEra", "(J)J"⟩
abbrev cX1_dayOfMarchYear : ByteArray := prog_3_method_11_code
def yX1_dayOfMarchYear : MethodName := ⟨RX1, "dayOfMarchYear", "(JJ)J"⟩
abbrev cX1_marchMonth : ByteArray := prog_3_method_12_code
def yX1_marchMonth : MethodName := ⟨RX1, "marchMonth", "(J)J"⟩
abbrev cX1_daysBeforeMarchMonth : ByteArray := prog_3_method_13_code
def yX1_daysBeforeMarchMonth : MethodName := ⟨RX1, "daysBeforeMarchMonth", "(J)J"⟩
def RX2 : String := "SafeSweeps$Journal"
def TX2 : u_T := fun k => match k with
  | 0 => ("SafeSweeps$Journal", "events", "[I", true)
  | 1 => ("SafeSweeps$Journal", "numbers", "[I", true)
  | 2 => ("SafeSweeps$Journal", "length", "I", false)
  | 3 => ("SafeSweeps$Journal", "writes", "I", false)
  | 4 => ("SafeSweeps$Journal", "writesLeft", "I", false)
  | _ => ("SafeSweeps$Journal", "down", "Z", false)
def tyX2 : Nat → FieldType := fun k => match k with
  | 0 => .array .int
  | 1 => .array .int
  | 2 => .int
  | 3 => .int
  | 4 => .int
  | _ => .boolean
theorem nmX2 : ∀ a, a < 6 → ∀ b, b < 6 → a ≠ b → (TX2 a).2.1 ≠ (TX2 b).2.1 := by decide +kernel
theorem tyX2_ok : ∀ k, k < 6 → parseFieldDescriptor (TX2 k).2.2.1 = some (tyX2 k) := by decide +kernel
abbrev cX2_init : ByteArray := prog_4_method_1_code
def yX2_init : MethodName := ⟨RX2, "<init>", "()V"⟩
abbrev cX2_write : ByteArray := prog_4_method_2_code
def yX2_write : MethodName := ⟨RX2, "write", "()Z"⟩
abbrev cX2_write_ : ByteArray := prog_4_method_3_code
def yX2_write_ : MethodName := ⟨RX2, "write", "(II)Z"⟩
def RX3 : String := "SafeSweeps$Mirror"
def TX3 : u_T := fun k => match k with
  | 0 => ("SafeSweeps$Mirror", "blocks", "[Z", true)
  | 1 => ("SafeSweeps$Mirror", "snapshots", "[Z", true)
  | _ => ("SafeSweeps$Mirror", "done", "I", false)
def tyX3 : Nat → FieldType := fun k => match k with
  | 0 => .array .boolean
  | 1 => .array .boolean
  | _ => .int
theorem nmX3 : ∀ a, a < 3 → ∀ b, b < 3 → a ≠ b → (TX3 a).2.1 ≠ (TX3 b).2.1 := by decide +kernel
theorem tyX3_ok : ∀ k, k < 3 → parseFieldDescriptor (TX3 k).2.2.1 = some (tyX3 k) := by decide +kernel
abbrev cX3_init : ByteArray := prog_5_method_1_code
def yX3_init : MethodName := ⟨RX3, "<init>", "()V"⟩
abbrev cX3_repeat : ByteArray := prog_5_method_2_code
def yX3_repeat : MethodName := ⟨RX3, "repeat", "(LSafeSweeps$Journal;I)V"⟩
abbrev cX3_forget : ByteArray := prog_5_method_3_code
def yX3_forget : MethodName := ⟨RX3, "forget", "()V"⟩
abbrev cX3_differences : ByteArray := prog_5_method_4_code
def yX3_differences : MethodName := ⟨RX3, "differences", "(LSafeSweeps$Mirror;)I"⟩
abbrev cX3_held : ByteArray := prog_5_method_5_code
def yX3_held : MethodName := ⟨RX3, "held", "([Z)I"⟩
def RX4 : String := "SafeSweeps$Mover"
def TX4 : u_T := fun k => match k with
  | 0 => ("SafeSweeps$Mover", "store", "LSafeSweeps$Store;", true)
  | 1 => ("SafeSweeps$Mover", "journal", "LSafeSweeps$Journal;", true)
  | 2 => ("SafeSweeps$Mover", "moved", "[I", true)
  | 3 => ("SafeSweeps$Mover", "packs", "[I", true)
  | 4 => ("SafeSweeps$Mover", "places", "[I", true)
  | _ => ("SafeSweeps$Mover", "length", "I", false)
def tyX4 : Nat → FieldType := fun k => match k with
  | 0 => .object "SafeSweeps$Store"
  | 1 => .object "SafeSweeps$Journal"
  | 2 => .array .int
  | 3 => .array .int
  | 4 => .array .int
  | _ => .int
theorem nmX4 : ∀ a, a < 6 → ∀ b, b < 6 → a ≠ b → (TX4 a).2.1 ≠ (TX4 b).2.1 := by decide +kernel
theorem tyX4_ok : ∀ k, k < 6 → parseFieldDescriptor (TX4 k).2.2.1 = some (tyX4 k) := by decide +kernel
abbrev cX4_init : ByteArray := prog_6_method_1_code
def yX4_init : MethodName := ⟨RX4, "<init>", "(LSafeSweeps$Store;LSafeSweeps$Journal;)V"⟩
abbrev cX4_isDue : ByteArray := prog_6_method_2_code
def yX4_isDue : MethodName := ⟨RX4, "isDue", "(II)Z"⟩
abbrev cX4_packAnew : ByteArray := prog_6_method_3_code
def yX4_packAnew : MethodName := ⟨RX4, "packAnew", "(I)Z"⟩
abbrev cX4_collect : ByteArray := prog_6_method_4_code
def yX4_collect : MethodName := ⟨RX4, "collect", "(I)V"⟩
abbrev cX4_insertByPlace : ByteArray := prog_6_method_5_code
def yX4_insertByPlace : MethodName := ⟨RX4, "insertByPlace", "(I)V"⟩
abbrev cX4_plan : ByteArray := prog_6_method_6_code
def yX4_plan : MethodName := ⟨RX4, "plan", "(I)Z"⟩
abbrev cX4_carryOut : ByteArray := prog_6_method_7_code
def yX4_carryOut : MethodName := ⟨RX4, "carryOut", "(I)V"⟩
def RX5 : String := "SafeSweeps$Pack"
def TX5 : u_T := fun k => match k with
  | 0 => ("SafeSweeps$Pack", "all", "I", false)
  | 1 => ("SafeSweeps$Pack", "holes", "I", false)
  | _ => ("SafeSweeps$Pack", "gone", "Z", false)
def tyX5 : Nat → FieldType := fun k => match k with
  | 0 => .int
  | 1 => .int
  | _ => .boolean
theorem nmX5 : ∀ a, a < 3 → ∀ b, b < 3 → a ≠ b → (TX5 a).2.1 ≠ (TX5 b).2.1 := by decide +kernel
theorem tyX5_ok : ∀ k, k < 3 → parseFieldDescriptor (TX5 k).2.2.1 = some (tyX5 k) := by decide +kernel
abbrev cX5_init : ByteArray := prog_7_method_1_code
def yX5_init : MethodName := ⟨RX5, "<init>", "()V"⟩
def RX6 : String := "SafeSweeps$Rules"
def TX6 : u_T := fun k => match k with
  | 0 => ("SafeSweeps$Rules", "numbers", "[I", true)
  | _ => ("SafeSweeps$Rules", "kept", "[I", true)
def tyX6 : Nat → FieldType := fun k => match k with
  | 0 => .array .int
  | _ => .array .int
theorem nmX6 : ∀ a, a < 2 → ∀ b, b < 2 → a ≠ b → (TX6 a).2.1 ≠ (TX6 b).2.1 := by decide +kernel
theorem tyX6_ok : ∀ k, k < 2 → parseFieldDescriptor (TX6 k).2.2.1 = some (tyX6 k) := by decide +kernel
abbrev cX6_init : ByteArray := prog_8_method_1_code
def yX6_init : MethodName := ⟨RX6, "<init>", "()V"⟩
abbrev cX6_greatest : ByteArray := prog_8_method_2_code
def yX6_greatest : MethodName := ⟨RX6, "greatest", "(I)I"⟩
abbrev cX6_judge : ByteArray := prog_8_method_3_code
def yX6_judge : MethodName := ⟨RX6, "judge", "([LSafeSweeps$Snapshot;I)V"⟩
abbrev cX6_judgeBy : ByteArray := prog_8_method_4_code
def yX6_judgeBy : MethodName := ⟨RX6, "judgeBy", "(I[LSafeSweeps$Snapshot;I)V"⟩
abbrev cX6_periodOf : ByteArray := prog_8_method_5_code
def yX6_periodOf : MethodName := ⟨RX6, "periodOf", "(IJ)J"⟩
def RX7 : String := "SafeSweeps$Saver"
def TX7 : u_T := fun k => match k with
  | 0 => ("SafeSweeps$Saver", "used", "[I", true)
  | 1 => ("SafeSweeps$Saver", "children", "[I", true)
  | 2 => ("SafeSweeps$Saver", "usedCount", "I", false)
  | 3 => ("SafeSweeps$Saver", "childCount", "I", false)
  | 4 => ("SafeSweeps$Saver", "lease", "I", false)
  | 5 => ("SafeSweeps$Saver", "until", "J", false)
  | _ => ("SafeSweeps$Saver", "here", "Z", false)
def tyX7 : Nat → FieldType := fun k => match k with
  | 0 => .array .int
  | 1 => .array .int
  | 2 => .int
  | 3 => .int
  | 4 => .int
  | 5 => .long
  | _ => .boolean
theorem nmX7 : ∀ a, a < 7 → ∀ b, b < 7 → a ≠ b → (TX7 a).2.1 ≠ (TX7 b).2.1 := by decide +kernel
theorem tyX7_ok : ∀ k, k < 7 → parseFieldDescriptor (TX7 k).2.2.1 = some (tyX7 k) := by decide +kernel
abbrev cX7_init : ByteArray := prog_9_method_1_code
def yX7_init : MethodName := ⟨RX7, "<init>", "()V"⟩
abbrev cX7_arrive : ByteArray := prog_9_method_2_code
def yX7_arrive : MethodName := ⟨RX7, "arrive", "(IJ)V"⟩
abbrev cX7_renew : ByteArray := prog_9_method_3_code
def yX7_renew : MethodName := ⟨RX7, "renew", "(J)V"⟩
abbrev cX7_isDead : ByteArray := prog_9_method_4_code
def yX7_isDead : MethodName := ⟨RX7, "isDead", "(J)Z"⟩
abbrev cX7_uses : ByteArray := prog_9_method_5_code
def yX7_uses : MethodName := ⟨RX7, "uses", "(I)Z"⟩
abbrev cX7_canUse : ByteArray := prog_9_method_6_code
def yX7_canUse : MethodName := ⟨RX7, "canUse", "(I)Z"⟩
abbrev cX7_use : ByteArray := prog_9_method_7_code
def yX7_use : MethodName := ⟨RX7, "use", "(I)V"⟩
abbrev cX7_addChild : ByteArray := prog_9_method_8_code
def yX7_addChild : MethodName := ⟨RX7, "addChild", "(I)Z"⟩
def RX8 : String := "SafeSweeps$Snapshot"
def TX8 : u_T := fun k => match k with
  | 0 => ("SafeSweeps$Snapshot", "time", "J", true)
  | 1 => ("SafeSweeps$Snapshot", "tag", "I", true)
  | 2 => ("SafeSweeps$Snapshot", "roots", "[I", true)
  | _ => ("SafeSweeps$Snapshot", "gone", "Z", false)
def tyX8 : Nat → FieldType := fun k => match k with
  | 0 => .long
  | 1 => .int
  | 2 => .array .int
  | _ => .boolean
theorem nmX8 : ∀ a, a < 4 → ∀ b, b < 4 → a ≠ b → (TX8 a).2.1 ≠ (TX8 b).2.1 := by decide +kernel
theorem tyX8_ok : ∀ k, k < 4 → parseFieldDescriptor (TX8 k).2.2.1 = some (tyX8 k) := by decide +kernel
abbrev cX8_init : ByteArray := prog_10_method_1_code
def yX8_init : MethodName := ⟨RX8, "<init>", "(JI[I)V"⟩
def RX9 : String := "SafeSweeps$Store"
def TX9 : u_T := fun k => match k with
  | 0 => ("SafeSweeps$Store", "capacity", "I", true)
  | 1 => ("SafeSweeps$Store", "journal", "LSafeSweeps$Journal;", true)
  | 2 => ("SafeSweeps$Store", "blocks", "[LSafeSweeps$Block;", true)
  | 3 => ("SafeSweeps$Store", "packs", "[LSafeSweeps$Pack;", true)
  | 4 => ("SafeSweeps$Store", "reached", "[Z", true)
  | 5 => ("SafeSweeps$Store", "blocksMade", "I", false)
  | 6 => ("SafeSweeps$Store", "blocksFreed", "I", false)
  | 7 => ("SafeSweeps$Store", "blocksRevived", "I", false)
  | 8 => ("SafeSweeps$Store", "packsMade", "I", false)
  | _ => ("SafeSweeps$Store", "packsPackedAnew", "I", false)
def tyX9 : Nat → FieldType := fun k => match k with
  | 0 => .int
  | 1 => .object "SafeSweeps$Journal"
  | 2 => .array (.object "SafeSweeps$Block")
  | 3 => .array (.object "SafeSweeps$Pack")
  | 4 => .array .boolean
  | 5 => .int
  | 6 => .int
  | 7 => .int
  | 8 => .int
  | _ => .int
theorem nmX9 : ∀ a, a < 10 → ∀ b, b < 10 → a ≠ b → (TX9 a).2.1 ≠ (TX9 b).2.1 := by decide +kernel
theorem tyX9_ok : ∀ k, k < 10 → parseFieldDescriptor (TX9 k).2.2.1 = some (tyX9 k) := by decide +kernel
abbrev cX9_init : ByteArray := prog_11_method_1_code
def yX9_init : MethodName := ⟨RX9, "<init>", "(ILSafeSweeps$Journal;)V"⟩
abbrev cX9_holds : ByteArray := prog_11_method_2_code
def yX9_holds : MethodName := ⟨RX9, "holds", "(I)Z"⟩
abbrev cX9_blocksWaiting : ByteArray := prog_11_method_3_code
def yX9_blocksWaiting : MethodName := ⟨RX9, "blocksWaiting", "()I"⟩
abbrev cX9_blocksIn : ByteArray := prog_11_method_4_code
def yX9_blocksIn : MethodName := ⟨RX9, "blocksIn", "(I)I"⟩
abbrev cX9_liesIn : ByteArray := prog_11_method_5_code
def yX9_liesIn : MethodName := ⟨RX9, "liesIn", "(II)Z"⟩
abbrev cX9_find : ByteArray := prog_11_method_6_code
def yX9_find : MethodName := ⟨RX9, "find", "(JI[II)I"⟩
abbrev cX9_filledOfLatest : ByteArray := prog_11_method_7_code
def yX9_filledOfLatest : MethodName := ⟨RX9, "filledOfLatest", "(I)I"⟩
abbrev cX9_hasRoomFor : ByteArray := prog_11_method_8_code
def yX9_hasRoomFor : MethodName := ⟨RX9, "hasRoomFor", "(I)Z"⟩
abbrev cX9_add : ByteArray := prog_11_method_9_code
def yX9_add : MethodName := ⟨RX9, "add", "(JI[I)I"⟩
abbrev cX9_lay : ByteArray := prog_11_method_10_code
def yX9_lay : MethodName := ⟨RX9, "lay", "(III)V"⟩
abbrev cX9_free : ByteArray := prog_11_method_11_code
def yX9_free : MethodName := ⟨RX9, "free", "(I)Z"⟩
abbrev cX9_await : ByteArray := prog_11_method_12_code
def yX9_await : MethodName := ⟨RX9, "await", "(II)Z"⟩
abbrev cX9_reachNothing : ByteArray := prog_11_method_13_code
def yX9_reachNothing : MethodName := ⟨RX9, "reachNothing", "()V"⟩
abbrev cX9_reachFrom : ByteArray := prog_11_method_14_code
def yX9_reachFrom : MethodName := ⟨RX9, "reachFrom", "(I)V"⟩
abbrev cX9_reachChildren : ByteArray := prog_11_method_15_code
def yX9_reachChildren : MethodName := ⟨RX9, "reachChildren", "(I)V"⟩
abbrev cX9_reachFromAll : ByteArray := prog_11_method_16_code
def yX9_reachFromAll : MethodName := ⟨RX9, "reachFromAll", "([II)V"⟩
abbrev cX9_reachFromThere : ByteArray := prog_11_method_17_code
def yX9_reachFromThere : MethodName := ⟨RX9, "reachFromThere", "()V"⟩
abbrev cX9_reviveReached : ByteArray := prog_11_method_18_code
def yX9_reviveReached : MethodName := ⟨RX9, "reviveReached", "()I"⟩
abbrev cX9_markReached : ByteArray := prog_11_method_19_code
def yX9_markReached : MethodName := ⟨RX9, "markReached", "()V"⟩
abbrev cX9_reachedOutside : ByteArray := prog_11_method_20_code
def yX9_reachedOutside : MethodName := ⟨RX9, "reachedOutside", "([Z)I"⟩
abbrev cX9_reachedButFreed : ByteArray := prog_11_method_21_code
def yX9_reachedButFreed : MethodName := ⟨RX9, "reachedButFreed", "()I"⟩
abbrev cX9_misplacedBlocks : ByteArray := prog_11_method_22_code
def yX9_misplacedBlocks : MethodName := ⟨RX9, "misplacedBlocks", "()I"⟩
abbrev cX9_liesOverLater : ByteArray := prog_11_method_23_code
def yX9_liesOverLater : MethodName := ⟨RX9, "liesOverLater", "(I)Z"⟩
abbrev cX9_unevenPacks : ByteArray := prog_11_method_24_code
def yX9_unevenPacks : MethodName := ⟨RX9, "unevenPacks", "()I"⟩
def RX10 : String := "SafeSweeps$Sweep"
def TX10 : u_T := fun k => match k with
  | 0 => ("SafeSweeps$Sweep", "store", "LSafeSweeps$Store;", true)
  | 1 => ("SafeSweeps$Sweep", "mover", "LSafeSweeps$Mover;", true)
  | 2 => ("SafeSweeps$Sweep", "row", "[I", true)
  | 3 => ("SafeSweeps$Sweep", "first", "I", false)
  | 4 => ("SafeSweeps$Sweep", "behind", "I", false)
  | 5 => ("SafeSweeps$Sweep", "phase", "I", false)
  | 6 => ("SafeSweeps$Sweep", "number", "I", false)
  | 7 => ("SafeSweeps$Sweep", "end", "I", false)
  | 8 => ("SafeSweeps$Sweep", "next", "I", false)
  | 9 => ("SafeSweeps$Sweep", "packs", "I", false)
  | _ => ("SafeSweeps$Sweep", "percent", "I", false)
def tyX10 : Nat → FieldType := fun k => match k with
  | 0 => .object "SafeSweeps$Store"
  | 1 => .object "SafeSweeps$Mover"
  | 2 => .array .int
  | 3 => .int
  | 4 => .int
  | 5 => .int
  | 6 => .int
  | 7 => .int
  | 8 => .int
  | 9 => .int
  | _ => .int
theorem nmX10 : ∀ a, a < 11 → ∀ b, b < 11 → a ≠ b → (TX10 a).2.1 ≠ (TX10 b).2.1 := by decide +kernel
theorem tyX10_ok : ∀ k, k < 11 → parseFieldDescriptor (TX10 k).2.2.1 = some (tyX10 k) := by decide +kernel
abbrev cX10_init : ByteArray := prog_12_method_1_code
def yX10_init : MethodName := ⟨RX10, "<init>", "(LSafeSweeps$Store;LSafeSweeps$Journal;)V"⟩
abbrev cX10_prepare : ByteArray := prog_12_method_2_code
def yX10_prepare : MethodName := ⟨RX10, "prepare", "()V"⟩
abbrev cX10_lineUp : ByteArray := prog_12_method_3_code
def yX10_lineUp : MethodName := ⟨RX10, "lineUp", "(I)V"⟩
abbrev cX10_lineUpAll : ByteArray := prog_12_method_4_code
def yX10_lineUpAll : MethodName := ⟨RX10, "lineUpAll", "([II)V"⟩
abbrev cX10_spareReached : ByteArray := prog_12_method_5_code
def yX10_spareReached : MethodName := ⟨RX10, "spareReached", "(I)V"⟩
abbrev cX10_advance : ByteArray := prog_12_method_6_code
def yX10_advance : MethodName := ⟨RX10, "advance", "()Z"⟩
abbrev cX10_settle : ByteArray := prog_12_method_7_code
def yX10_settle : MethodName := ⟨RX10, "settle", "()V"⟩
abbrev cX10_markFirst : ByteArray := prog_12_method_8_code
def yX10_markFirst : MethodName := ⟨RX10, "markFirst", "()V"⟩
abbrev cX10_clearNext : ByteArray := prog_12_method_9_code
def yX10_clearNext : MethodName := ⟨RX10, "clearNext", "()Z"⟩
abbrev cX10_chooseNext : ByteArray := prog_12_method_10_code
def yX10_chooseNext : MethodName := ⟨RX10, "chooseNext", "()Z"⟩
abbrev cX10_packNext : ByteArray := prog_12_method_11_code
def yX10_packNext : MethodName := ⟨RX10, "packNext", "()Z"⟩
def RX11 : String := "SafeSweeps"
def TX11 : u_T := fun k => match k with
  | 0 => ("SafeSweeps", "journal", "LSafeSweeps$Journal;", true)
  | 1 => ("SafeSweeps", "store", "LSafeSweeps$Store;", true)
  | 2 => ("SafeSweeps", "sweeper", "LSafeSweeps$Sweep;", true)
  | 3 => ("SafeSweeps", "rules", "LSafeSweeps$Rules;", true)
  | 4 => ("SafeSweeps", "savers", "[LSafeSweeps$Saver;", true)
  | 5 => ("SafeSweeps", "snapshots", "[LSafeSweeps$Snapshot;", true)
  | 6 => ("SafeSweeps", "mirrors", "[LSafeSweeps$Mirror;", true)
  | 7 => ("SafeSweeps", "replayed", "LSafeSweeps$Mirror;", true)
  | 8 => ("SafeSweeps", "snapshotsMade", "I", false)
  | _ => ("SafeSweeps", "now", "J", false)
def tyX11 : Nat → FieldType := fun k => match k with
  | 0 => .object "SafeSweeps$Journal"
  | 1 => .object "SafeSweeps$Store"
  | 2 => .object "SafeSweeps$Sweep"
  | 3 => .object "SafeSweeps$Rules"
  | 4 => .array (.object "SafeSweeps$Saver")
  | 5 => .array (.object "SafeSweeps$Snapshot")
  | 6 => .array (.object "SafeSweeps$Mirror")
  | 7 => .object "SafeSweeps$Mirror"
  | 8 => .int
  | _ => .long
theorem nmX11 : ∀ a, a < 10 → ∀ b, b < 10 → a ≠ b → (TX11 a).2.1 ≠ (TX11 b).2.1 := by decide +kernel
theorem tyX11_ok : ∀ k, k < 10 → parseFieldDescriptor (TX11 k).2.2.1 = some (tyX11 k) := by decide +kernel
abbrev cX11_init : ByteArray := prog_1_method_1_code
def yX11_init : MethodName := ⟨RX11, "<init>", "(I)V"⟩
abbrev cX11_at : ByteArray := prog_1_method_2_code
def yX11_at : MethodName := ⟨RX11, "at", "(J)I"⟩
abbrev cX11_begin : ByteArray := prog_1_method_3_code
def yX11_begin : MethodName := ⟨RX11, "begin", "(I)I"⟩
abbrev cX11_child : ByteArray := prog_1_method_4_code
def yX11_child : MethodName := ⟨RX11, "child", "(II)I"⟩
abbrev cX11_save : ByteArray := prog_1_method_5_code
def yX11_save : MethodName := ⟨RX11, "save", "(IJI)I"⟩
abbrev cX11_saveNew : ByteArray := prog_1_method_6_code
def yX11_saveNew : MethodName := ⟨RX11, "saveNew", "(LSafeSweeps$Saver;JI)I"⟩
abbrev cX11_saveFound : ByteArray := prog_1_method_7_code
def yX11_saveFound : MethodName := ⟨RX11, "saveFound", "(LSafeSweeps$Saver;I)I"⟩
abbrev cX11_take : ByteArray := prog_1_method_8_code
def yX11_take : MethodName := ⟨RX11, "take", "(II)I"⟩
abbrev cX11_takeFor : ByteArray := prog_1_method_9_code
def yX11_takeFor : MethodName := ⟨RX11, "takeFor", "(LSafeSweeps$Saver;I)I"⟩
abbrev cX11_commit : ByteArray := prog_1_method_10_code
def yX11_commit : MethodName := ⟨RX11, "commit", "(II)I"⟩
abbrev cX11_give : ByteArray := prog_1_method_11_code
def yX11_give : MethodName := ⟨RX11, "give", "(I)I"⟩
abbrev cX11_saverHere : ByteArray := prog_1_method_12_code
def yX11_saverHere : MethodName := ⟨RX11, "saverHere", "(I)LSafeSweeps$Saver;"⟩
abbrev cX11_renewed : ByteArray := prog_1_method_13_code
def yX11_renewed : MethodName := ⟨RX11, "renewed", "(I)LSafeSweeps$Saver;"⟩
abbrev cX11_saversHere : ByteArray := prog_1_method_14_code
def yX11_saversHere : MethodName := ⟨RX11, "saversHere", "()I"⟩
abbrev cX11_saversThatUse : ByteArray := prog_1_method_15_code
def yX11_saversThatUse : MethodName := ⟨RX11, "saversThatUse", "(I)I"⟩
abbrev cX11_drop : ByteArray := prog_1_method_16_code
def yX11_drop : MethodName := ⟨RX11, "drop", "(I)I"⟩
abbrev cX11_rule : ByteArray := prog_1_method_17_code
def yX11_rule : MethodName := ⟨RX11, "rule", "(II)I"⟩
abbrev cX11_keeps : ByteArray := prog_1_method_18_code
def yX11_keeps : MethodName := ⟨RX11, "keeps", "(I)I"⟩
abbrev cX11_prune : ByteArray := prog_1_method_19_code
def yX11_prune : MethodName := ⟨RX11, "prune", "(Z)I"⟩
abbrev cX11_snapshotIsThere : ByteArray := prog_1_method_20_code
def yX11_snapshotIsThere : MethodName := ⟨RX11, "snapshotIsThere", "(I)Z"⟩
abbrev cX11_snapshotIsUnkept : ByteArray := prog_1_method_21_code
def yX11_snapshotIsUnkept : MethodName := ⟨RX11, "snapshotIsUnkept", "(I)Z"⟩
abbrev cX11_snapshotsThere : ByteArray := prog_1_method_22_code
def yX11_snapshotsThere : MethodName := ⟨RX11, "snapshotsThere", "()I"⟩
abbrev cX11_removeSnapshot : ByteArray := prog_1_method_23_code
def yX11_removeSnapshot : MethodName := ⟨RX11, "removeSnapshot", "(I)Z"⟩
abbrev cX11_sweep : ByteArray := prog_1_method_24_code
def yX11_sweep : MethodName := ⟨RX11, "sweep", "()I"⟩
abbrev cX11_lineUpOrDismiss : ByteArray := prog_1_method_25_code
def yX11_lineUpOrDismiss : MethodName := ⟨RX11, "lineUpOrDismiss", "(LSafeSweeps$Saver;)V"⟩
abbrev cX11_step : ByteArray := prog_1_method_26_code
def yX11_step : MethodName := ⟨RX11, "step", "(I)I"⟩
abbrev cX11_share : ByteArray := prog_1_method_27_code
def yX11_share : MethodName := ⟨RX11, "share", "(I)I"⟩
abbrev cX11_cut : ByteArray := prog_1_method_28_code
def yX11_cut : MethodName := ⟨RX11, "cut", "(I)I"⟩
abbrev cX11_open : ByteArray := prog_1_method_29_code
def yX11_open : MethodName := ⟨RX11, "open", "()I"⟩
abbrev cX11_losePower : ByteArray := prog_1_method_30_code
def yX11_losePower : MethodName := ⟨RX11, "losePower", "()I"⟩
abbrev cX11_follow : ByteArray := prog_1_method_31_code
def yX11_follow : MethodName := ⟨RX11, "follow", "(II)I"⟩
abbrev cX11_count : ByteArray := prog_1_method_32_code
def yX11_count : MethodName := ⟨RX11, "count", "(I)I"⟩
abbrev cX11_block : ByteArray := prog_1_method_33_code
def yX11_block : MethodName := ⟨RX11, "block", "(II)I"⟩
abbrev cX11_key : ByteArray := prog_1_method_34_code
def yX11_key : MethodName := ⟨RX11, "key", "(I)J"⟩
abbrev cX11_pack : ByteArray := prog_1_method_35_code
def yX11_pack : MethodName := ⟨RX11, "pack", "(II)I"⟩
abbrev cX11_snapshot : ByteArray := prog_1_method_36_code
def yX11_snapshot : MethodName := ⟨RX11, "snapshot", "(II)I"⟩
abbrev cX11_time : ByteArray := prog_1_method_37_code
def yX11_time : MethodName := ⟨RX11, "time", "(I)J"⟩
abbrev cX11_saver : ByteArray := prog_1_method_38_code
def yX11_saver : MethodName := ⟨RX11, "saver", "(II)I"⟩
abbrev cX11_swept : ByteArray := prog_1_method_39_code
def yX11_swept : MethodName := ⟨RX11, "swept", "(I)I"⟩
abbrev cX11_calendar : ByteArray := prog_1_method_40_code
def yX11_calendar : MethodName := ⟨RX11, "calendar", "(JI)I"⟩
abbrev cX11_mirrored : ByteArray := prog_1_method_41_code
def yX11_mirrored : MethodName := ⟨RX11, "mirrored", "(II)I"⟩
abbrev cX11_brokenSnapshots : ByteArray := prog_1_method_42_code
def yX11_brokenSnapshots : MethodName := ⟨RX11, "brokenSnapshots", "(LSafeSweeps$Mirror;)I"⟩
abbrev cX11_has : ByteArray := prog_1_method_43_code
def yX11_has : MethodName := ⟨RX11, "has", "(II)Z"⟩
abbrev cX11_audit : ByteArray := prog_1_method_44_code
def yX11_audit : MethodName := ⟨RX11, "audit", "()I"⟩
abbrev cX11_reachedButFreed : ByteArray := prog_1_method_45_code
def yX11_reachedButFreed : MethodName := ⟨RX11, "reachedButFreed", "()I"⟩
def RX12 : String := "SafeSweepsModel"
def TX12 : u_T := fun k => match k with
  | 0 => ("SafeSweepsModel", "capacity", "I", true)
  | 1 => ("SafeSweepsModel", "now", "J", false)
  | 2 => ("SafeSweepsModel", "down", "Z", false)
  | 3 => ("SafeSweepsModel", "cutAt", "I", false)
  | 4 => ("SafeSweepsModel", "writes", "I", false)
  | 5 => ("SafeSweepsModel", "blocks", "I", false)
  | 6 => ("SafeSweepsModel", "keys", "[J", true)
  | 7 => ("SafeSweepsModel", "sizes", "[I", true)
  | 8 => ("SafeSweepsModel", "childMany", "[I", true)
  | 9 => ("SafeSweepsModel", "childOf", "[I", true)
  | 10 => ("SafeSweepsModel", "there", "[Z", true)
  | 11 => ("SafeSweepsModel", "packOf", "[I", true)
  | 12 => ("SafeSweepsModel", "placeOf", "[I", true)
  | 13 => ("SafeSweepsModel", "waits", "[I", true)
  | 14 => ("SafeSweepsModel", "revived", "I", false)
  | 15 => ("SafeSweepsModel", "freed", "I", false)
  | 16 => ("SafeSweepsModel", "packs", "I", false)
  | 17 => ("SafeSweepsModel", "isGone", "[Z", true)
  | 18 => ("SafeSweepsModel", "all", "[I", true)
  | 19 => ("SafeSweepsModel", "packedAnew", "I", false)
  | 20 => ("SafeSweepsModel", "sharePercent", "I", false)
  | 21 => ("SafeSweepsModel", "snapshots", "I", false)
  | 22 => ("SafeSweepsModel", "isKept", "[Z", true)
  | 23 => ("SafeSweepsModel", "times", "[J", true)
  | 24 => ("SafeSweepsModel", "tags", "[I", true)
  | 25 => ("SafeSweepsModel", "rootMany", "[I", true)
  | 26 => ("SafeSweepsModel", "rootOf", "[I", true)
  | 27 => ("SafeSweepsModel", "history", "I", false)
  | 28 => ("SafeSweepsModel", "didKind", "[I", true)
  | 29 => ("SafeSweepsModel", "didWhat", "[I", true)
  | 30 => ("SafeSweepsModel", "mirrorDid", "[I", true)
  | 31 => ("SafeSweepsModel", "saves", "[Z", true)
  | 32 => ("SafeSweepsModel", "lease", "[I", true)
  | 33 => ("SafeSweepsModel", "until", "[J", true)
  | 34 => ("SafeSweepsModel", "useMany", "[I", true)
  | 35 => ("SafeSweepsModel", "useOf", "[I", true)
  | 36 => ("SafeSweepsModel", "rowMany", "[I", true)
  | 37 => ("SafeSweepsModel", "rowOf", "[I", true)
  | 38 => ("SafeSweepsModel", "rules", "[I", true)
  | 39 => ("SafeSweepsModel", "sweeps", "I", false)
  | 40 => ("SafeSweepsModel", "phase", "I", false)
  | 41 => ("SafeSweepsModel", "isMarked", "[Z", true)
  | 42 => ("SafeSweepsModel", "row", "[I", true)
  | 43 => ("SafeSweepsModel", "rowFrom", "I", false)
  | 44 => ("SafeSweepsModel", "rowTo", "I", false)
  | 45 => ("SafeSweepsModel", "end", "I", false)
  | 46 => ("SafeSweepsModel", "at", "I", false)
  | 47 => ("SafeSweepsModel", "packEnd", "I", false)
  | 48 => ("SafeSweepsModel", "revivedNow", "I", false)
  | 49 => ("SafeSweepsModel", "reach", "[Z", true)
  | 50 => ("SafeSweepsModel", "isToGo", "[Z", true)
  | 51 => ("SafeSweepsModel", "moved", "[I", true)
  | 52 => ("SafeSweepsModel", "toPack", "[I", true)
  | _ => ("SafeSweepsModel", "toPlace", "[I", true)
def tyX12 : Nat → FieldType := fun k => match k with
  | 0 => .int
  | 1 => .long
  | 2 => .boolean
  | 3 => .int
  | 4 => .int
  | 5 => .int
  | 6 => .array .long
  | 7 => .array .int
  | 8 => .array .int
  | 9 => .array .int
  | 10 => .array .boolean
  | 11 => .array .int
  | 12 => .array .int
  | 13 => .array .int
  | 14 => .int
  | 15 => .int
  | 16 => .int
  | 17 => .array .boolean
  | 18 => .array .int
  | 19 => .int
  | 20 => .int
  | 21 => .int
  | 22 => .array .boolean
  | 23 => .array .long
  | 24 => .array .int
  | 25 => .array .int
  | 26 => .array .int
  | 27 => .int
  | 28 => .array .int
  | 29 => .array .int
  | 30 => .array .int
  | 31 => .array .boolean
  | 32 => .array .int
  | 33 => .array .long
  | 34 => .array .int
  | 35 => .array .int
  | 36 => .array .int
  | 37 => .array .int
  | 38 => .array .int
  | 39 => .int
  | 40 => .int
  | 41 => .array .boolean
  | 42 => .array .int
  | 43 => .int
  | 44 => .int
  | 45 => .int
  | 46 => .int
  | 47 => .int
  | 48 => .int
  | 49 => .array .boolean
  | 50 => .array .boolean
  | 51 => .array .int
  | 52 => .array .int
  | _ => .array .int
theorem nmX12 : ∀ a, a < 54 → ∀ b, b < 54 → a ≠ b → (TX12 a).2.1 ≠ (TX12 b).2.1 := by decide +kernel
theorem tyX12_ok : ∀ k, k < 54 → parseFieldDescriptor (TX12 k).2.2.1 = some (tyX12 k) := by decide +kernel
abbrev cX12_init : ByteArray := prog_14_method_1_code
def yX12_init : MethodName := ⟨RX12, "<init>", "(I)V"⟩
abbrev cX12_in : ByteArray := prog_14_method_2_code
def yX12_in : MethodName := ⟨RX12, "in", "(JJJ)Z"⟩
abbrev cX12_write : ByteArray := prog_14_method_3_code
def yX12_write : MethodName := ⟨RX12, "write", "()Z"⟩
abbrev cX12_tell : ByteArray := prog_14_method_4_code
def yX12_tell : MethodName := ⟨RX12, "tell", "(II)V"⟩
abbrev cX12_cut : ByteArray := prog_14_method_5_code
def yX12_cut : MethodName := ⟨RX12, "cut", "(I)I"⟩
abbrev cX12_open : ByteArray := prog_14_method_6_code
def yX12_open : MethodName := ⟨RX12, "open", "()I"⟩
abbrev cX12_at : ByteArray := prog_14_method_7_code
def yX12_at : MethodName := ⟨RX12, "at", "(J)I"⟩
abbrev cX12_isSaver : ByteArray := prog_14_method_8_code
def yX12_isSaver : MethodName := ⟨RX12, "isSaver", "(I)Z"⟩
abbrev cX12_isDead : ByteArray := prog_14_method_9_code
def yX12_isDead : MethodName := ⟨RX12, "isDead", "(I)Z"⟩
abbrev cX12_isBlock : ByteArray := prog_14_method_10_code
def yX12_isBlock : MethodName := ⟨RX12, "isBlock", "(I)Z"⟩
abbrev cX12_uses : ByteArray := prog_14_method_11_code
def yX12_uses : MethodName := ⟨RX12, "uses", "(II)Z"⟩
abbrev cX12_meet : ByteArray := prog_14_method_12_code
def yX12_meet : MethodName := ⟨RX12, "meet", "(I)Z"⟩
abbrev cX12_begin : ByteArray := prog_14_method_13_code
def yX12_begin : MethodName := ⟨RX12, "begin", "(I)I"⟩
abbrev cX12_child : ByteArray := prog_14_method_14_code
def yX12_child : MethodName := ⟨RX12, "child", "(II)I"⟩
abbrev cX12_find : ByteArray := prog_14_method_15_code
def yX12_find : MethodName := ⟨RX12, "find", "(IJI)I"⟩
abbrev cX12_fitsLatest : ByteArray := prog_14_method_16_code
def yX12_fitsLatest : MethodName := ⟨RX12, "fitsLatest", "(I)Z"⟩
abbrev cX12_use : ByteArray := prog_14_method_17_code
def yX12_use : MethodName := ⟨RX12, "use", "(II)V"⟩
abbrev cX12_save : ByteArray := prog_14_method_18_code
def yX12_save : MethodName := ⟨RX12, "save", "(IJI)I"⟩
abbrev cX12_made : ByteArray := prog_14_method_19_code
def yX12_made : MethodName := ⟨RX12, "made", "(IJI)I"⟩
abbrev cX12_reachFrom : ByteArray := prog_14_method_20_code
def yX12_reachFrom : MethodName := ⟨RX12, "reachFrom", "(I)V"⟩
abbrev cX12_taken : ByteArray := prog_14_method_21_code
def yX12_taken : MethodName := ⟨RX12, "taken", "(II)Z"⟩
abbrev cX12_take : ByteArray := prog_14_method_22_code
def yX12_take : MethodName := ⟨RX12, "take", "(II)I"⟩
abbrev cX12_commit : ByteArray := prog_14_method_23_code
def yX12_commit : MethodName := ⟨RX12, "commit", "(II)I"⟩
abbrev cX12_give : ByteArray := prog_14_method_24_code
def yX12_give : MethodName := ⟨RX12, "give", "(I)I"⟩
abbrev cX12_snapshotsThere : ByteArray := prog_14_method_25_code
def yX12_snapshotsThere : MethodName := ⟨RX12, "snapshotsThere", "()I"⟩
abbrev cX12_isSnapshot : ByteArray := prog_14_method_26_code
def yX12_isSnapshot : MethodName := ⟨RX12, "isSnapshot", "(I)Z"⟩
abbrev cX12_goes : ByteArray := prog_14_method_27_code
def yX12_goes : MethodName := ⟨RX12, "goes", "(I)Z"⟩
abbrev cX12_drop : ByteArray := prog_14_method_28_code
def yX12_drop : MethodName := ⟨RX12, "drop", "(I)I"⟩
abbrev cX12_rule : ByteArray := prog_14_method_29_code
def yX12_rule : MethodName := ⟨RX12, "rule", "(II)I"⟩
abbrev cX12_behind : ByteArray := prog_14_method_30_code
def yX12_behind : MethodName := ⟨RX12, "behind", "(I)I"⟩
abbrev cX12_spanOf : ByteArray := prog_14_method_31_code
def yX12_spanOf : MethodName := ⟨RX12, "spanOf", "(JI)J"⟩
abbrev cX12_spanKeeps : ByteArray := prog_14_method_32_code
def yX12_spanKeeps : MethodName := ⟨RX12, "spanKeeps", "(II)Z"⟩
abbrev cX12_keptBy : ByteArray := prog_14_method_33_code
def yX12_keptBy : MethodName := ⟨RX12, "keptBy", "(I)I"⟩
abbrev cX12_keeps : ByteArray := prog_14_method_34_code
def yX12_keeps : MethodName := ⟨RX12, "keeps", "(I)I"⟩
abbrev cX12_prune : ByteArray := prog_14_method_35_code
def yX12_prune : MethodName := ⟨RX12, "prune", "(Z)I"⟩
abbrev cX12_push : ByteArray := prog_14_method_36_code
def yX12_push : MethodName := ⟨RX12, "push", "(I)V"⟩
abbrev cX12_settle : ByteArray := prog_14_method_37_code
def yX12_settle : MethodName := ⟨RX12, "settle", "()V"⟩
abbrev cX12_sweep : ByteArray := prog_14_method_38_code
def yX12_sweep : MethodName := ⟨RX12, "sweep", "()I"⟩
abbrev cX12_mark : ByteArray := prog_14_method_39_code
def yX12_mark : MethodName := ⟨RX12, "mark", "()V"⟩
abbrev cX12_clear : ByteArray := prog_14_method_40_code
def yX12_clear : MethodName := ⟨RX12, "clear", "()Z"⟩
abbrev cX12_choose : ByteArray := prog_14_method_41_code
def yX12_choose : MethodName := ⟨RX12, "choose", "()Z"⟩
abbrev cX12_bytesIn : ByteArray := prog_14_method_42_code
def yX12_bytesIn : MethodName := ⟨RX12, "bytesIn", "(I)I"⟩
abbrev cX12_blocksIn : ByteArray := prog_14_method_43_code
def yX12_blocksIn : MethodName := ⟨RX12, "blocksIn", "(I)I"⟩
abbrev cX12_packStep : ByteArray := prog_14_method_44_code
def yX12_packStep : MethodName := ⟨RX12, "packStep", "()Z"⟩
abbrev cX12_plan : ByteArray := prog_14_method_45_code
def yX12_plan : MethodName := ⟨RX12, "plan", "(II)I"⟩
abbrev cX12_step : ByteArray := prog_14_method_46_code
def yX12_step : MethodName := ⟨RX12, "step", "(I)I"⟩
abbrev cX12_share : ByteArray := prog_14_method_47_code
def yX12_share : MethodName := ⟨RX12, "share", "(I)I"⟩
abbrev cX12_savers : ByteArray := prog_14_method_48_code
def yX12_savers : MethodName := ⟨RX12, "savers", "()I"⟩
abbrev cX12_counted : ByteArray := prog_14_method_49_code
def yX12_counted : MethodName := ⟨RX12, "counted", "(I)I"⟩
abbrev cX12_count : ByteArray := prog_14_method_50_code
def yX12_count : MethodName := ⟨RX12, "count", "(I)I"⟩
abbrev cX12_usersOf : ByteArray := prog_14_method_51_code
def yX12_usersOf : MethodName := ⟨RX12, "usersOf", "(I)I"⟩
abbrev cX12_block : ByteArray := prog_14_method_52_code
def yX12_block : MethodName := ⟨RX12, "block", "(II)I"⟩
abbrev cX12_key : ByteArray := prog_14_method_53_code
def yX12_key : MethodName := ⟨RX12, "key", "(I)J"⟩
abbrev cX12_pack : ByteArray := prog_14_method_54_code
def yX12_pack : MethodName := ⟨RX12, "pack", "(II)I"⟩
abbrev cX12_snapshot : ByteArray := prog_14_method_55_code
def yX12_snapshot : MethodName := ⟨RX12, "snapshot", "(II)I"⟩
abbrev cX12_time : ByteArray := prog_14_method_56_code
def yX12_time : MethodName := ⟨RX12, "time", "(I)J"⟩
abbrev cX12_saver : ByteArray := prog_14_method_57_code
def yX12_saver : MethodName := ⟨RX12, "saver", "(II)I"⟩
abbrev cX12_swept : ByteArray := prog_14_method_58_code
def yX12_swept : MethodName := ⟨RX12, "swept", "(I)I"⟩
abbrev cX12_floor : ByteArray := prog_14_method_59_code
def yX12_floor : MethodName := ⟨RX12, "floor", "(JJ)J"⟩
abbrev cX12_daysOf : ByteArray := prog_14_method_60_code
def yX12_daysOf : MethodName := ⟨RX12, "daysOf", "(II)I"⟩
abbrev cX12_calendar : ByteArray := prog_14_method_61_code
def yX12_calendar : MethodName := ⟨RX12, "calendar", "(JI)I"⟩
abbrev cX12_isMirror : ByteArray := prog_14_method_62_code
def yX12_isMirror : MethodName := ⟨RX12, "isMirror", "(I)Z"⟩
abbrev cX12_follow : ByteArray := prog_14_method_63_code
def yX12_follow : MethodName := ⟨RX12, "follow", "(II)I"⟩
abbrev cX12_mirrorHas : ByteArray := prog_14_method_64_code
def yX12_mirrorHas : MethodName := ⟨RX12, "mirrorHas", "(III)Z"⟩
abbrev cX12_has : ByteArray := prog_14_method_65_code
def yX12_has : MethodName := ⟨RX12, "has", "(II)Z"⟩
abbrev cX12_lacks : ByteArray := prog_14_method_66_code
def yX12_lacks : MethodName := ⟨RX12, "lacks", "(II)Z"⟩
abbrev cX12_mirrored : ByteArray := prog_14_method_67_code
def yX12_mirrored : MethodName := ⟨RX12, "mirrored", "(II)I"⟩
abbrev cX12_lostFrom : ByteArray := prog_14_method_68_code
def yX12_lostFrom : MethodName := ⟨RX12, "lostFrom", "(I)I"⟩
abbrev cX12_wrongPlaces : ByteArray := prog_14_method_69_code
def yX12_wrongPlaces : MethodName := ⟨RX12, "wrongPlaces", "()I"⟩
abbrev cX12_audit : ByteArray := prog_14_method_70_code
def yX12_audit : MethodName := ⟨RX12, "audit", "()I"⟩
def RJ9 : String := "java/lang/Math"
abbrev cJ9_floorDiv_f86c9 : ByteArray := prog_16_method_49_code
def yJ9_floorDiv_f86c9 : MethodName := ⟨RJ9, "floorDiv", "(JJ)J"⟩
abbrev cJ9_floorMod_f86c9 : ByteArray := prog_16_method_52_code
def yJ9_floorMod_f86c9 : MethodName := ⟨RJ9, "floorMod", "(JJ)J"⟩
abbrev cJ9_max_7cf53 : ByteArray := prog_16_method_65_code
def yJ9_max_7cf53 : MethodName := ⟨RJ9, "max", "(II)I"⟩
abbrev cJ9_min_7cf53 : ByteArray := prog_16_method_69_code
def yJ9_min_7cf53 : MethodName := ⟨RJ9, "min", "(II)I"⟩
def RJ7 : String := "java/util/Arrays"
abbrev cJ7_copyOf_59c91 : ByteArray := prog_18_method_123_code
def yJ7_copyOf_59c91 : MethodName := ⟨RJ7, "copyOf", "([II)[I"⟩
def RL : String := "SafeSweepsLaw"
abbrev cL_cell : ByteArray := method_2_code
def yL_cell : MethodName := ⟨RL, "cell", "([II)I"⟩
abbrev cL_law : ByteArray := code
def yL_law : MethodName := ⟨RL, "law", "([I)Z"⟩
abbrev vwCl : List vw_C := [(RX0, TX0, 8), (RX2, TX2, 6), (RX3, TX3, 3), (RX4, TX4, 6), (RX5, TX5, 3), (RX6, TX6, 2), (RX7, TX7, 7), (RX8, TX8, 4), (RX9, TX9, 10), (RX10, TX10, 11), (RX11, TX11, 10), (RX12, TX12, 54)]
end
section
/-! KEYED WORLDS: a world is a map from keys to cells; ad says where each key lies. -/
abbrev KK : Type := Nat × Nat
abbrev PV : Type := Int32 ⊕ Int64 ⊕ Option KK
abbrev pi_ (x : Int32) : PV := .inl x
abbrev pl_ (x : Int64) : PV := .inr (.inl x)
abbrev pr_ (k : KK) : PV := .inr (.inr (some k))
abbrev pn_ : PV := .inr (.inr none)
def kw_v (ad : KK → Nat) (v : PV) : Value := match v with
  | .inl x => .int x
  | .inr (.inl x) => .long x
  | .inr (.inr none) => .null
  | .inr (.inr (some k)) => .ref (ad k)
abbrev PX : Type := (Nat → Int32) ⊕ (Nat → Int64) ⊕ (Nat → Option KK)
abbrev PC : Type := (FieldType × Nat × PX) ⊕ (Nat × List PV)
abbrev PH : Type := KK → Option PC
def kw_x (ad : KK → Nat) (x : PX) : (Nat → Int32) ⊕ (Nat → Int64) ⊕ (Nat → UInt32) ⊕ (Nat → UInt64) ⊕ (Nat → Option Nat) := match x with
  | .inl f => .inl f
  | .inr (.inl f) => .inr (.inl f)
  | .inr (.inr f) => .inr (.inr (.inr (.inr (fun j => (f j).map ad))))
def kw_at (D : va_G) (U : State) (H : Heap) (ad : KK → Nat) (k : KK) (c : PC) : Prop := match c with
  | .inl a => ∃ cA : ClassId, va_at D vwCl (ad k, .inl (cA, a.2.1, kw_x ad a.2.2)) H ∧ ArrOfT U cA a.1 ∧ va_RA U cA a.1
  | .inr o => va_at D vwCl (ad k, .inr (o.1, o.2.map (kw_v ad))) H
def kw_H (D : va_G) (U : State) (H : Heap) (ad : KK → Nat) (h : PH) : Prop :=
  va_K D vwCl [] U ∧ (∀ k c, h k = some c → kw_at D U H ad k c) ∧ ∀ k k', h k ≠ none → h k' ≠ none → ad k = ad k' → k = k'
def kw_up (h : PH) (k : KK) (c : PC) : PH := fun k' => if k' = k then some c else h k'
theorem kw_up_s (h : PH) (k : KK) (c : PC) : kw_up h k c k = some c := by simp [kw_up]
theorem kw_up_n (h : PH) {k k' : KK} (c : PC) (hn : k' ≠ k) : kw_up h k c k' = h k' := by simp [kw_up, hn]
theorem kw_at.kept {D : va_G} {U : State} {H H1 : Heap} {ad : KK → Nat} {k : KK} {c : PC} (h : kw_at D U H ad k c) (hq : H1[ad k]? = H[ad k]?) : kw_at D U H1 ad k c := by
  cases c with
  | inl a =>
    obtain ⟨cA, h1, h2⟩ := h
    exact ⟨cA, va_at.kept (q := (ad k, .inl (cA, a.2.1, kw_x ad a.2.2))) h1 hq, h2⟩
  | inr o => exact va_at.kept (q := (ad k, .inr (o.1, o.2.map (kw_v ad)))) h hq
theorem kw_at.lt {D : va_G} {U : State} {H : Heap} {ad : KK → Nat} {k : KK} {c : PC} (h : kw_at D U H ad k c) : ad k < H.size := by
  cases c with
  | inl a =>
    obtain ⟨cA, h1, h2⟩ := h
    exact va_at.lt (q := (ad k, .inl (cA, a.2.1, kw_x ad a.2.2))) h1
  | inr o => exact va_at.lt (q := (ad k, .inr (o.1, o.2.map (kw_v ad)))) h
theorem kw_at.moved {D : va_G} {u U : State} {H : Heap} {ad : KK → Nat} {k : KK} {c : PC} (hvm : u.vm.Alike U.vm) (h : kw_at D u H ad k c) : kw_at D U H ad k c := by
  cases c with
  | inl a =>
    obtain ⟨cA, h1, h2, h3⟩ := h
    exact ⟨cA, h1, arrOfT_moved hvm h2, h3.moved hvm⟩
  | inr o => exact h
theorem kw_H.moved {D : va_G} {u U : State} {H : Heap} {ad : KK → Nat} {h : PH} (hvm : u.vm.Alike U.vm) (x : kw_H D u H ad h) : kw_H D U H ad h :=
  ⟨x.1.moved hvm, fun k c hk => (x.2.1 k c hk).moved hvm, x.2.2⟩
/-- one cell is written anew -/
theorem kw_H.set {D : va_G} {U : State} {H H1 : Heap} {ad : KK → Nat} {h : PH} (x : kw_H D U H ad h) {k : KK} {c0 c : PC} (hk : h k = some c0) (hc : kw_at D U H1 ad k c) (oq : ∀ q : Nat, q ≠ ad k → H1[q]? = H[q]?) : kw_H D U H1 ad (kw_up h k c) := by
  have al : ∀ k', kw_up h k c k' ≠ none → h k' ≠ none := by
    intro k' h1
    by_cases e : k' = k
    · subst e; rw [hk]; exact fun q => by cases q
    · rw [kw_up_n _ _ e] at h1; exact h1
  refine ⟨x.1, fun k' c' h' => ?_, fun a b ha hb => x.2.2 a b (al a ha) (al b hb)⟩
  by_cases e : k' = k
  · subst e
    rw [kw_up_s] at h'
    cases h'
    exact hc
  · rw [kw_up_n _ _ e] at h'
    exact (x.2.1 k' c' h').kept (oq _ (fun q => e (x.2.2 k' k (by rw [h']; exact fun q => by cases q) (by rw [hk]; exact fun q => by cases q) q)))
/-! locals: by their places -/
def kw_L (ad : KK → Nat) (ls : Array Slot) (lv : List (Option PV)) : Prop := ls.size = lv.length ∧ lv_wf ls ∧ ∀ (i : Nat) (v : PV), lv[i]? = some (some v) → ls[i]? = some (.val (kw_v ad v))
def kw_cat (v : PV) : Nat := match v with
  | .inr (.inl _) => 2
  | _ => 1
theorem kw_cat_v (ad : KK → Nat) (v : PV) : (kw_v ad v).category = kw_cat v := by
  rcases v with x | x | x | x <;> rfl
def kw_keep (a : Option PV) : Option PV := match a with
  | some (.inr (.inl _)) => none
  | x => x
def kw_set1 : List (Option PV) → Nat → PV → List (Option PV)
  | [], _, _ => []
  | _ :: t, 0, v => some v :: t
  | a :: t, 1, v => kw_keep a :: kw_set1 t 0 v
  | a :: t, i + 2, v => a :: kw_set1 t (i + 1) v
def kw_set2 : List (Option PV) → Nat → PV → List (Option PV)
  | [], _, _ => []
  | [_], 0, v => [some v]
  | _ :: _ :: t, 0, v => some v :: none :: t
  | a :: t, 1, v => kw_keep a :: kw_set2 t 0 v
  | a :: t, i + 2, v => a :: kw_set2 t (i + 1) v
def kw_lst (ad : KK → Nat) (lv : List (Option PV)) : List (Nat × Value) := (List.range lv.length).filterMap (fun i => match lv[i]? with
  | some (some v) => some (i, kw_v ad v)
  | _ => none)
theorem kw_lst_mem (ad : KK → Nat) (lv : List (Option PV)) (i : Nat) (w : Value) : (i, w) ∈ kw_lst ad lv ↔ ∃ v, lv[i]? = some (some v) ∧ w = kw_v ad v := by
  unfold kw_lst
  rw [List.mem_filterMap]
  constructor
  · rintro ⟨j, hj, h⟩
    split at h
    next v hv =>
      cases h
      exact ⟨v, hv, rfl⟩
    next => cases h
  · rintro ⟨v, hv, rfl⟩
    refine ⟨i, List.mem_range.mpr (List.getElem?_eq_some_iff.mp hv).1, ?_⟩
    rw [hv]
theorem kw_L.has {ad : KK → Nat} {ls : Array Slot} {lv : List (Option PV)} (h : kw_L ad ls lv) : lv_has ls lv.length (kw_lst ad lv) := by
  refine ⟨h.1, h.2.1, fun q hq => ?_⟩
  obtain ⟨i, w⟩ := q
  obtain ⟨v, h1, rfl⟩ := (kw_lst_mem ad lv i w).mp hq
  exact h.2.2 i v h1
theorem kw_keep_some {a : Option PV} {w : PV} (h : kw_keep a = some w) : a = some w ∧ kw_cat w = 1 := by
  rcases a with _ | x | x | x
  · cases h
  · cases h; exact ⟨rfl, rfl⟩
  · cases h
  · cases h; exact ⟨rfl, rfl⟩
theorem kw_set1_get : ∀ (lv : List (Option PV)) (i : Nat) (v : PV) (j : Nat) (w : PV), (kw_set1 lv i v)[j]? = some (some w) → (j = i ∧ w = v) ∨ (j ≠ i ∧ lv[j]? = some (some w) ∧ ¬ (j + 1 = i ∧ kw_cat w = 2))
  | [], i, v, j, w, h => by simp [kw_set1] at h
  | a :: t, 0, v, 0, w, h => by simp [kw_set1] at h; exact Or.inl ⟨rfl, h.symm⟩
  | a :: t, 0, v, j + 1, w, h => by
    simp only [kw_set1, List.getElem?_cons_succ] at h
    exact Or.inr ⟨by omega, by simpa using h, by omega⟩
  | a :: t, 1, v, 0, w, h => by
    simp only [kw_set1, List.getElem?_cons_zero, Option.some.injEq] at h
    obtain ⟨h1, h2⟩ := kw_keep_some h
    exact Or.inr ⟨by omega, by simp [h1], by omega⟩
  | a :: t, 1, v, j + 1, w, h => by
    simp only [kw_set1, List.getElem?_cons_succ] at h
    rcases kw_set1_get t 0 v j w h with ⟨h1, h2⟩ | ⟨h1, h2, h3⟩
    · exact Or.inl ⟨by omega, h2⟩
    · exact Or.inr ⟨by omega, by simpa using h2, by omega⟩
  | a :: t, i + 2, v, 0, w, h => by
    simp only [kw_set1, List.getElem?_cons_zero, Option.some.injEq] at h
    exact Or.inr ⟨by omega, by simp [h], by omega⟩
  | a :: t, i + 2, v, j + 1, w, h => by
    simp only [kw_set1, List.getElem?_cons_succ] at h
    rcases kw_set1_get t (i + 1) v j w h with ⟨h1, h2⟩ | ⟨h1, h2, h3⟩
    · exact Or.inl ⟨by omega, h2⟩
    · exact Or.inr ⟨by omega, by simpa using h2, fun q => h3 ⟨by omega, q.2⟩⟩
theorem kw_set2_get : ∀ (lv : List (Option PV)) (i : Nat) (v : PV) (j : Nat) (w : PV), (kw_set2 lv i v)[j]? = some (some w) → (j = i ∧ w = v) ∨ (j ≠ i ∧ j ≠ i + 1 ∧ lv[j]? = some (some w) ∧ ¬ (j + 1 = i ∧ kw_cat w = 2))
  | [], i, v, j, w, h => by simp [kw_set2] at h
  | [a], 0, v, 0, w, h => by simp [kw_set2] at h; exact Or.inl ⟨rfl, h.symm⟩
  | [a], 0, v, j + 1, w, h => by simp [kw_set2] at h
  | a :: b :: t, 0, v, 0, w, h => by simp [kw_set2] at h; exact Or.inl ⟨rfl, h.symm⟩
  | a :: b :: t, 0, v, 1, w, h => by simp [kw_set2] at h
  | a :: b :: t, 0, v, j + 2, w, h => by
    simp only [kw_set2, List.getElem?_cons_succ] at h
    exact Or.inr ⟨by omega, by omega, by simpa using h, by omega⟩
  | a :: t, 1, v, 0, w, h => by
    simp only [kw_set2, List.getElem?_cons_zero, Option.some.injEq] at h
    obtain ⟨h1, h2⟩ := kw_keep_some h
    exact Or.inr ⟨by omega, by omega, by simp [h1], by omega⟩
  | a :: t, 1, v, j + 1, w, h => by
    simp only [kw_set2, List.getElem?_cons_succ] at h
    rcases kw_set2_get t 0 v j w h with ⟨h1, h2⟩ | ⟨h1, h2, h3, h4⟩
    · exact Or.inl ⟨by omega, h2⟩
    · exact Or.inr ⟨by omega, by omega, by simpa using h3, by omega⟩
  | a :: t, i + 2, v, 0, w, h => by
    simp only [kw_set2, List.getElem?_cons_zero, Option.some.injEq] at h
    exact Or.inr ⟨by omega, by omega, by simp [h], by omega⟩
  | a :: t, i + 2, v, j + 1, w, h => by
    simp only [kw_set2, List.getElem?_cons_succ] at h
    rcases kw_set2_get t (i + 1) v j w h with ⟨h1, h2⟩ | ⟨h1, h2, h3, h4⟩
    · exact Or.inl ⟨by omega, h2⟩
    · exact Or.inr ⟨by omega, by omega, by simpa using h3, fun q => h4 ⟨by omega, q.2⟩⟩
theorem kw_set1_len : ∀ (lv : List (Option PV)) (i : Nat) (v : PV), (kw_set1 lv i v).length = lv.length
  | [], i, v => rfl
  | a :: t, 0, v => rfl
  | a :: t, 1, v => by simp [kw_set1, kw_set1_len t 0 v]
  | a :: t, i + 2, v => by simp [kw_set1, kw_set1_len t (i + 1) v]
theorem kw_set2_len : ∀ (lv : List (Option PV)) (i : Nat) (v : PV), (kw_set2 lv i v).length = lv.length
  | [], i, v => rfl
  | [a], 0, v => rfl
  | a :: b :: t, 0, v => rfl
  | a :: t, 1, v => by simp [kw_set2, kw_set2_len t 0 v]
  | a :: t, i + 2, v => by simp [kw_set2, kw_set2_len t (i + 1) v]
theorem kw_L.of1 {ad : KK → Nat} {ls : Array Slot} {lv : List (Option PV)} {i : Nat} {v : PV} (h : lv_has ls lv.length ((i, kw_v ad v) :: (kw_lst ad lv).filter (fun q => !(q.1 == i) && !(q.1 + 1 == i && q.2.category == 2)))) : kw_L ad ls (kw_set1 lv i v) := by
  refine ⟨by rw [kw_set1_len]; exact h.1, h.2.1, fun j w hj => ?_⟩
  rcases kw_set1_get lv i v j w hj with ⟨h1, h2⟩ | ⟨h1, h2, h3⟩
  · subst h1; subst h2
    exact h.2.2 (j, kw_v ad w) List.mem_cons_self
  · refine h.2.2 (j, kw_v ad w) (List.mem_cons_of_mem _ (List.mem_filter.mpr ⟨(kw_lst_mem ad lv j _).mpr ⟨w, h2, rfl⟩, ?_⟩))
    simp only [kw_cat_v, Bool.and_eq_true, Bool.not_eq_true', beq_eq_false_iff_ne, ne_eq, h1, not_false_eq_true, true_and]
    cases hq : (j + 1 == i && kw_cat w == 2)
    · rfl
    · simp only [Bool.and_eq_true, beq_iff_eq] at hq
      exact absurd hq h3
theorem kw_L.of2 {ad : KK → Nat} {ls : Array Slot} {lv : List (Option PV)} {i : Nat} {v : PV} (h : lv_has ls lv.length ((i, kw_v ad v) :: (kw_lst ad lv).filter (fun q => !(q.1 == i) && (!(q.1 == i + 1) && !(q.1 + 1 == i && q.2.category == 2))))) : kw_L ad ls (kw_set2 lv i v) := by
  refine ⟨by rw [kw_set2_len]; exact h.1, h.2.1, fun j w hj => ?_⟩
  rcases kw_set2_get lv i v j w hj with ⟨h1, h2⟩ | ⟨h1, h2, h3, h4⟩
  · subst h1; subst h2
    exact h.2.2 (j, kw_v ad w) List.mem_cons_self
  · refine h.2.2 (j, kw_v ad w) (List.mem_cons_of_mem _ (List.mem_filter.mpr ⟨(kw_lst_mem ad lv j _).mpr ⟨w, h3, rfl⟩, ?_⟩))
    simp only [kw_cat_v, Bool.and_eq_true, Bool.not_eq_true', beq_eq_false_iff_ne, ne_eq, h1, h2, not_false_eq_true, true_and]
    cases hq : (j + 1 == i && kw_cat w == 2)
    · rfl
    · simp only [Bool.and_eq_true, beq_iff_eq] at hq
      exact absurd hq h4
/-- fewer known locals -/
def kw_le : List (Option PV) → List (Option PV) → Prop
  | [], [] => True
  | _ :: t, none :: t' => kw_le t t'
  | a :: t, some b :: t' => a = some b ∧ kw_le t t'
  | _, _ => False
theorem kw_le_len : ∀ (a b : List (Option PV)), kw_le a b → a.length = b.length
  | [], [], _ => rfl
  | _ :: t, none :: t', h => by simp [kw_le_len t t' h]
  | _ :: t, some b :: t', h => by simp [kw_le_len t t' h.2]
theorem kw_le_get : ∀ (a b : List (Option PV)), kw_le a b → ∀ (i : Nat) (v : PV), b[i]? = some (some v) → a[i]? = some (some v)
  | [], [], _, i, v, h => by simp at h
  | _ :: t, none :: t', q, 0, v, h => by simp at h
  | _ :: t, none :: t', q, i + 1, v, h => by
    simp only [List.getElem?_cons_succ] at h ⊢
    exact kw_le_get t t' q i v h
  | a :: t, some b :: t', q, 0, v, h => by
    simp only [List.getElem?_cons_zero] at h ⊢
    rw [q.1]; exact h
  | a :: t, some b :: t', q, i + 1, v, h => by
    simp only [List.getElem?_cons_succ] at h ⊢
    exact kw_le_get t t' q.2 i v h
theorem kw_L.le {ad : KK → Nat} {ls : Array Slot} {lv lv' : List (Option PV)} (h : kw_L ad ls lv) (q : kw_le lv lv') : kw_L ad ls lv' := ⟨h.1.trans (kw_le_len lv lv' q), h.2.1, fun i v hv => h.2.2 i v (kw_le_get lv lv' q i v hv)⟩
def kw_ent : List PV → List (Option PV)
  | [] => []
  | v :: t => if kw_cat v = 2 then some v :: none :: kw_ent t else some v :: kw_ent t
end
section
def kw_tbl : List Cond := lw_tbl.filter goodWord
def kw_nests : List (String × Nat × MethodName × String) := [("SafeSweeps", 9, ⟨"SafeSweeps$Journal", "<init>", "()V"⟩, "SafeSweeps"), ("SafeSweeps", 45, ⟨"SafeSweeps$Rules", "<init>", "()V"⟩, "SafeSweeps"), ("SafeSweeps", 56, ⟨"SafeSweeps$Saver", "<init>", "()V"⟩, "SafeSweeps"), ("SafeSweeps", 69, ⟨"SafeSweeps$Mirror", "<init>", "()V"⟩, "SafeSweeps"), ("SafeSweeps$Store", 81, ⟨"SafeSweeps$Pack", "<init>", "()V"⟩, "SafeSweeps")]
def kw_overs : List String := ["SafeSweeps$Block", "SafeSweeps$Pack", "SafeSweeps$Saver", "SafeSweeps$Snapshot", "SafeSweeps$Mirror"]
def kw_N (s : State) : Prop := (∀ q ∈ kw_nests, va_Nw (.methodLinkNest q.1 q.2.1 q.2.2.1 q.2.2.2) s) ∧ ∀ C ∈ kw_overs, va_AO C s
theorem kw_N.warm {s U : State} (hW : s.WarmedH U.vm) (h : kw_N s) : kw_N U := ⟨fun q hq => va_Nw.warmM hW (h.1 q hq), fun C hC => (h.2 C hC).moved hW.alike⟩
/-! THE JUDGEMENT: from the frame at pc, with the locals lv, the stack st, over the world h (keys at ad), the method comes to its end, with K of its answer, of the keys' places and of the world then. -/
def kw_Env (cc : ByteArray) (nL : Nat) (own : String) (ret : Option FieldType) (nm : String) (p : Program) (s : State) (m : MethodId) (args : Array Value) (meth : Method) (c : Code) : Prop :=
  p.tables.exec = Jvm.exec ∧ c.code = cc ∧ c.maxLocals = nL ∧ s.vm.findClass own = some m.cls ∧ (∀ w ∈ kw_tbl, w.before args s = true) ∧ meth.sig.returnType = ret ∧ meth.locks = false ∧ meth.name = nm ∧ kw_N s
def kw_Qc (D : va_G) (K : Option PV → (KK → Nat) → PH → Prop) (A : Nat → Prop) : Array Value → State → Outcome → State → Prop := fun _ st oc t =>
  (∃ (r : Option PV) (ad : KK → Nat) (h : PH), oc = .returned (r.map (kw_v ad)) ∧ K r ad h ∧ kw_H D t t.heap ad h ∧ ∀ k, h k ≠ none → A (ad k)) ∧ va_F A st t
def kw_G (l : Launch) (D : va_G) (cc : ByteArray) (own : String) (ret : Option FieldType) (nm : String) (R : Room) (A : Nat → Prop) (K : Option PV → (KK → Nat) → PH → Prop) (ad : KK → Nat) (h : PH) (cells slots : Nat) (pc : Nat) (lv : List (Option PV)) (st : List PV) : Prop :=
  ∀ (p : Program) (e : Env) (s : State) (m : MethodId) (args : Array Value) (below : List Frame) (meth : Method) (c : Code) (H : Heap) (locs : List Loc) (ls : Array Slot),
    kw_Env cc lv.length own ret nm p s m args meth c → kw_H D s H ad h → (∀ k, h k ≠ none → A (ad k)) → va_S A s.heap H locs → (∀ q, s.heap.size ≤ q → A q) → kw_L ad ls lv →
    W p l e R s m args below meth c H locs cells slots (MQ below (kw_Qc D K A) args s R.cells R.slots A) (F0 m pc ls (st.map (kw_v ad)))
section KwRows
variable {l : Launch} {D : va_G} {cc : ByteArray} {own : String} {ret : Option FieldType} {nm : String} {R : Room} {A : Nat → Prop} {K : Option PV → (KK → Nat) → PH → Prop} {ad : KK → Nat} {h : PH} {cells slots pc : Nat} {lv : List (Option PV)} {st : List PV}
/-- another text of the same world -/
theorem kw_heq {h' : PH} (e : h = h') (k : kw_G l D cc own ret nm R A K ad h' cells slots pc lv st) : kw_G l D cc own ret nm R A K ad h cells slots pc lv st := e ▸ k
theorem kw_steq {st' : List PV} (e : st = st') (k : kw_G l D cc own ret nm R A K ad h cells slots pc lv st') : kw_G l D cc own ret nm R A K ad h cells slots pc lv st := e ▸ k
theorem kw_top {v v' : PV} (e : v = v') (k : kw_G l D cc own ret nm R A K ad h cells slots pc lv (v' :: st)) : kw_G l D cc own ret nm R A K ad h cells slots pc lv (v :: st) := e ▸ k
theorem kw_top2 {u v v' : PV} (e : v = v') (k : kw_G l D cc own ret nm R A K ad h cells slots pc lv (u :: v' :: st)) : kw_G l D cc own ret nm R A K ad h cells slots pc lv (u :: v :: st) := e ▸ k
theorem kw_lveq {lv' : List (Option PV)} (e : lv = lv') (k : kw_G l D cc own ret nm R A K ad h cells slots pc lv' st) : kw_G l D cc own ret nm R A K ad h cells slots pc lv st := e ▸ k
theorem kw_lvle {lv' : List (Option PV)} (e : kw_le lv lv') (k : kw_G l D cc own ret nm R A K ad h cells slots pc lv' st) : kw_G l D cc own ret nm R A K ad h cells slots pc lv st := by
  intro p e1 s m args below meth c H locs ls E hH hA hS hB hl
  rw [kw_le_len _ _ e] at E
  exact k p e1 s m args below meth c H locs ls E hH hA hS hB (hl.le e)
theorem kw_wid {c2 s2 : Nat} (h1 : cells ≤ c2) (h2 : slots ≤ s2) (k : kw_G l D cc own ret nm R A K ad h c2 s2 pc lv st) : kw_G l D cc own ret nm R A K ad h cells slots pc lv st := by
  intro p e s m args below meth c H locs ls E hH hA hS hB hl
  exact W.widen h1 h2 (k p e s m args below meth c H locs ls E hH hA hS hB hl)
theorem kw_iconst {n : Int} {v : Int32} (hd : decode cc pc = .ok (.iconst n, 1)) (hv : Int32.ofInt n = v)
    (k : kw_G l D cc own ret nm R A K ad h cells slots (pc + 1) lv (pi_ v :: st)) : kw_G l D cc own ret nm R A K ad h cells slots pc lv st := by
  intro p e s m args below meth c H locs ls E hH hA hS hB hl
  exact lv_iconst E.1 E.2.1 hd hv (k p e s m args below meth c H locs ls E hH hA hS hB hl)
theorem kw_bipush {n : Int} {v : Int32} (hd : decode cc pc = .ok (.bipush n, 2)) (hv : (Int8.ofInt n).toInt32 = v)
    (k : kw_G l D cc own ret nm R A K ad h cells slots (pc + 2) lv (pi_ v :: st)) : kw_G l D cc own ret nm R A K ad h cells slots pc lv st := by
  intro p e s m args below meth c H locs ls E hH hA hS hB hl
  exact lv_bipush E.1 E.2.1 hd hv (k p e s m args below meth c H locs ls E hH hA hS hB hl)
theorem kw_sipush {n : Int} {v : Int32} (hd : decode cc pc = .ok (.sipush n, 3)) (hv : (Int16.ofInt n).toInt32 = v)
    (k : kw_G l D cc own ret nm R A K ad h cells slots (pc + 3) lv (pi_ v :: st)) : kw_G l D cc own ret nm R A K ad h cells slots pc lv st := by
  intro p e s m args below meth c H locs ls E hH hA hS hB hl
  exact lv_sipush E.1 E.2.1 hd hv (k p e s m args below meth c H locs ls E hH hA hS hB hl)
theorem kw_lconst {n : Fin 2} {v : Int64} (hd : decode cc pc = .ok (.lconst n, 1)) (hv : Int64.ofNat (n : Nat) = v)
    (k : kw_G l D cc own ret nm R A K ad h cells slots (pc + 1) lv (pl_ v :: st)) : kw_G l D cc own ret nm R A K ad h cells slots pc lv st := by
  intro p e s m args below meth c H locs ls E hH hA hS hB hl
  exact lv_lconst E.1 E.2.1 hd hv (k p e s m args below meth c H locs ls E hH hA hS hB hl)
theorem kw_ldc {i : Nat} {v : Int32} (hd : decode cc pc = .ok (.ldc i, 2)) (hc : Jvm.Cond.constant own i v ∈ kw_tbl)
    (k : kw_G l D cc own ret nm R A K ad h cells slots (pc + 2) lv (pi_ v :: st)) : kw_G l D cc own ret nm R A K ad h cells slots pc lv st := by
  intro p e s m args below meth c H locs ls E hH hA hS hB hl
  exact lv_ldc E.1 E.2.1 E.2.2.2.1 (E.2.2.2.2.1 _ hc) hd (k p e s m args below meth c H locs ls E hH hA hS hB hl)
theorem kw_ldc2 {i : Nat} {v : Int64} (hd : decode cc pc = .ok (.ldc2_w i, 3)) (hc : Jvm.Cond.constantLong own i v ∈ kw_tbl)
    (k : kw_G l D cc own ret nm R A K ad h cells slots (pc + 3) lv (pl_ v :: st)) : kw_G l D cc own ret nm R A K ad h cells slots pc lv st := by
  intro p e s m args below meth c H locs ls E hH hA hS hB hl
  exact lv_ldc2 E.1 E.2.1 E.2.2.2.1 (E.2.2.2.2.1 _ hc) hd (k p e s m args below meth c H locs ls E hH hA hS hB hl)
theorem kw_null  (hd : decode cc pc = .ok (.aconst_null, 1))
    (k : kw_G l D cc own ret nm R A K ad h cells slots (pc + 1) lv (pn_ :: st)) : kw_G l D cc own ret nm R A K ad h cells slots pc lv st := by
  intro p e s m args below meth c H locs ls E hH hA hS hB hl
  exact lv_null E.1 E.2.1 hd (k p e s m args below meth c H locs ls E hH hA hS hB hl)
theorem kw_iload_n {i : Fin 4} {x : Int32} (hd : decode cc pc = .ok (.iload_n i, 1)) (hv : lv[(i : Nat)]? = some (some (pi_ x)))
    (k : kw_G l D cc own ret nm R A K ad h cells slots (pc + 1) lv (pi_ x :: st)) : kw_G l D cc own ret nm R A K ad h cells slots pc lv st := by
  intro p e s m args below meth c H locs ls E hH hA hS hB hl
  exact lv_iload_n E.1 E.2.1 hd rfl (hl.2.2 _ _ hv) (k p e s m args below meth c H locs ls E hH hA hS hB hl)
theorem kw_iload {i : Nat} {x : Int32} (hd : decode cc pc = .ok (.iload i, 2)) (hv : lv[i]? = some (some (pi_ x)))
    (k : kw_G l D cc own ret nm R A K ad h cells slots (pc + 2) lv (pi_ x :: st)) : kw_G l D cc own ret nm R A K ad h cells slots pc lv st := by
  intro p e s m args below meth c H locs ls E hH hA hS hB hl
  exact lv_iload E.1 E.2.1 hd (hl.2.2 _ _ hv) (k p e s m args below meth c H locs ls E hH hA hS hB hl)
theorem kw_lload_n {i : Fin 4} {x : Int64} (hd : decode cc pc = .ok (.lload_n i, 1)) (hv : lv[(i : Nat)]? = some (some (pl_ x)))
    (k : kw_G l D cc own ret nm R A K ad h cells slots (pc + 1) lv (pl_ x :: st)) : kw_G l D cc own ret nm R A K ad h cells slots pc lv st := by
  intro p e s m args below meth c H locs ls E hH hA hS hB hl
  exact lv_lload_n E.1 E.2.1 hd rfl (hl.2.2 _ _ hv) (k p e s m args below meth c H locs ls E hH hA hS hB hl)
theorem kw_lload {i : Nat} {x : Int64} (hd : decode cc pc = .ok (.lload i, 2)) (hv : lv[i]? = some (some (pl_ x)))
    (k : kw_G l D cc own ret nm R A K ad h cells slots (pc + 2) lv (pl_ x :: st)) : kw_G l D cc own ret nm R A K ad h cells slots pc lv st := by
  intro p e s m args below meth c H locs ls E hH hA hS hB hl
  exact lv_lload E.1 E.2.1 hd (hl.2.2 _ _ hv) (k p e s m args below meth c H locs ls E hH hA hS hB hl)
theorem kw_aload_n {i : Fin 4} {x : Option KK} (hd : decode cc pc = .ok (.aload_n i, 1)) (hv : lv[(i : Nat)]? = some (some (.inr (.inr x))))
    (k : kw_G l D cc own ret nm R A K ad h cells slots (pc + 1) lv (.inr (.inr x) :: st)) : kw_G l D cc own ret nm R A K ad h cells slots pc lv st := by
  intro p e s m args below meth c H locs ls E hH hA hS hB hl
  have h1 := hl.2.2 _ _ hv
  have k1 := k p e s m args below meth c H locs ls E hH hA hS hB hl
  cases x with
  | none => exact lv_aload_nN E.1 E.2.1 hd rfl h1 k1
  | some x => exact lv_aload_n E.1 E.2.1 hd rfl h1 k1
theorem kw_aload {i : Nat} {x : Option KK} (hd : decode cc pc = .ok (.aload i, 2)) (hv : lv[i]? = some (some (.inr (.inr x))))
    (k : kw_G l D cc own ret nm R A K ad h cells slots (pc + 2) lv (.inr (.inr x) :: st)) : kw_G l D cc own ret nm R A K ad h cells slots pc lv st := by
  intro p e s m args below meth c H locs ls E hH hA hS hB hl
  have h1 := hl.2.2 _ _ hv
  have k1 := k p e s m args below meth c H locs ls E hH hA hS hB hl
  cases x with
  | none => exact lv_aloadN E.1 E.2.1 hd h1 k1
  | some x => exact lv_aload E.1 E.2.1 hd h1 k1
theorem kw_istore_n {i : Fin 4} {x : Int32} (hd : decode cc pc = .ok (.istore_n i, 1)) (hn : (i : Nat) < lv.length)
    (k : kw_G l D cc own ret nm R A K ad h cells slots (pc + 1) (kw_set1 lv (i : Nat) (pi_ x)) st) : kw_G l D cc own ret nm R A K ad h cells slots pc lv (pi_ x :: st) := by
  intro p e s m args below meth c H locs ls E hH hA hS hB hl
  exact lv_istore_n E.1 E.2.1 hd rfl hl.has hn rfl (fun ls' hl' => k p e s m args below meth c H locs ls' (by rw [kw_set1_len]; exact E) hH hA hS hB (kw_L.of1 hl'))
theorem kw_istore {i : Nat} {x : Int32} (hd : decode cc pc = .ok (.istore i, 2)) (hn : i < lv.length)
    (k : kw_G l D cc own ret nm R A K ad h cells slots (pc + 2) (kw_set1 lv i (pi_ x)) st) : kw_G l D cc own ret nm R A K ad h cells slots pc lv (pi_ x :: st) := by
  intro p e s m args below meth c H locs ls E hH hA hS hB hl
  exact lv_istore E.1 E.2.1 hd hl.has hn rfl (fun ls' hl' => k p e s m args below meth c H locs ls' (by rw [kw_set1_len]; exact E) hH hA hS hB (kw_L.of1 hl'))
theorem kw_lstore_n {i : Fin 4} {x : Int64} (hd : decode cc pc = .ok (.lstore_n i, 1)) (hn : (i : Nat) + 1 < lv.length)
    (k : kw_G l D cc own ret nm R A K ad h cells slots (pc + 1) (kw_set2 lv (i : Nat) (pl_ x)) st) : kw_G l D cc own ret nm R A K ad h cells slots pc lv (pl_ x :: st) := by
  intro p e s m args below meth c H locs ls E hH hA hS hB hl
  exact lv_lstore_n E.1 E.2.1 hd rfl hl.has hn rfl (fun ls' hl' => k p e s m args below meth c H locs ls' (by rw [kw_set2_len]; exact E) hH hA hS hB (kw_L.of2 hl'))
theorem kw_lstore {i : Nat} {x : Int64} (hd : decode cc pc = .ok (.lstore i, 2)) (hn : i + 1 < lv.length)
    (k : kw_G l D cc own ret nm R A K ad h cells slots (pc + 2) (kw_set2 lv i (pl_ x)) st) : kw_G l D cc own ret nm R A K ad h cells slots pc lv (pl_ x :: st) := by
  intro p e s m args below meth c H locs ls E hH hA hS hB hl
  exact lv_lstore E.1 E.2.1 hd hl.has hn rfl (fun ls' hl' => k p e s m args below meth c H locs ls' (by rw [kw_set2_len]; exact E) hH hA hS hB (kw_L.of2 hl'))
theorem kw_astore_n {i : Fin 4} {x : Option KK} (hd : decode cc pc = .ok (.astore_n i, 1)) (hn : (i : Nat) < lv.length)
    (k : kw_G l D cc own ret nm R A K ad h cells slots (pc + 1) (kw_set1 lv (i : Nat) (.inr (.inr x))) st) : kw_G l D cc own ret nm R A K ad h cells slots pc lv (.inr (.inr x) :: st) := by
  intro p e s m args below meth c H locs ls E hH hA hS hB hl
  cases x with
  | none => exact lv_astore_nN E.1 E.2.1 hd rfl hl.has hn rfl (fun ls' hl' => k p e s m args below meth c H locs ls' (by rw [kw_set1_len]; exact E) hH hA hS hB (kw_L.of1 hl'))
  | some x => exact lv_astore_n E.1 E.2.1 hd rfl hl.has hn rfl (fun ls' hl' => k p e s m args below meth c H locs ls' (by rw [kw_set1_len]; exact E) hH hA hS hB (kw_L.of1 hl'))
theorem kw_astore {i : Nat} {x : Option KK} (hd : decode cc pc = .ok (.astore i, 2)) (hn : i < lv.length)
    (k : kw_G l D cc own ret nm R A K ad h cells slots (pc + 2) (kw_set1 lv i (.inr (.inr x))) st) : kw_G l D cc own ret nm R A K ad h cells slots pc lv (.inr (.inr x) :: st) := by
  intro p e s m args below meth c H locs ls E hH hA hS hB hl
  cases x with
  | none => exact lv_astoreN E.1 E.2.1 hd hl.has hn rfl (fun ls' hl' => k p e s m args below meth c H locs ls' (by rw [kw_set1_len]; exact E) hH hA hS hB (kw_L.of1 hl'))
  | some x => exact lv_astore E.1 E.2.1 hd hl.has hn rfl (fun ls' hl' => k p e s m args below meth c H locs ls' (by rw [kw_set1_len]; exact E) hH hA hS hB (kw_L.of1 hl'))
theorem kw_iinc {i : Nat} {n : Int} {x v : Int32} (hd : decode cc pc = .ok (.iinc i n, 3)) (hx : lv[i]? = some (some (pi_ x))) (hv : x + Int32.ofInt n = v)
    (k : kw_G l D cc own ret nm R A K ad h cells slots (pc + 3) (kw_set1 lv i (pi_ v)) st) : kw_G l D cc own ret nm R A K ad h cells slots pc lv st := by
  intro p e s m args below meth c H locs ls E hH hA hS hB hl
  obtain ⟨j, hj⟩ := List.getElem?_of_mem ((kw_lst_mem ad lv i _).mpr ⟨_, hx, rfl⟩)
  exact lv_iinc E.1 E.2.1 hd hl.has hj hv (List.getElem?_eq_some_iff.mp hx).1 rfl (fun ls' hl' => k p e s m args below meth c H locs ls' (by rw [kw_set1_len]; exact E) hH hA hS hB (kw_L.of1 hl'))
theorem kw_iadd {x y : Int32} (hd : decode cc pc = .ok (.iadd, 1))
    (k : kw_G l D cc own ret nm R A K ad h cells slots (pc + 1) lv (pi_ (x + y) :: st)) : kw_G l D cc own ret nm R A K ad h cells slots pc lv (pi_ y :: pi_ x :: st) := by
  intro p e s m args below meth c H locs ls E hH hA hS hB hl
  exact lv_iadd E.1 E.2.1 hd (k p e s m args below meth c H locs ls E hH hA hS hB hl)
theorem kw_isub {x y : Int32} (hd : decode cc pc = .ok (.isub, 1))
    (k : kw_G l D cc own ret nm R A K ad h cells slots (pc + 1) lv (pi_ (x - y) :: st)) : kw_G l D cc own ret nm R A K ad h cells slots pc lv (pi_ y :: pi_ x :: st) := by
  intro p e s m args below meth c H locs ls E hH hA hS hB hl
  exact lv_isub E.1 E.2.1 hd (k p e s m args below meth c H locs ls E hH hA hS hB hl)
theorem kw_imul {x y : Int32} (hd : decode cc pc = .ok (.imul, 1))
    (k : kw_G l D cc own ret nm R A K ad h cells slots (pc + 1) lv (pi_ (x * y) :: st)) : kw_G l D cc own ret nm R A K ad h cells slots pc lv (pi_ y :: pi_ x :: st) := by
  intro p e s m args below meth c H locs ls E hH hA hS hB hl
  exact lv_imul E.1 E.2.1 hd (k p e s m args below meth c H locs ls E hH hA hS hB hl)
theorem kw_iand {x y : Int32} (hd : decode cc pc = .ok (.iand, 1))
    (k : kw_G l D cc own ret nm R A K ad h cells slots (pc + 1) lv (pi_ (x &&& y) :: st)) : kw_G l D cc own ret nm R A K ad h cells slots pc lv (pi_ y :: pi_ x :: st) := by
  intro p e s m args below meth c H locs ls E hH hA hS hB hl
  exact lv_iand E.1 E.2.1 hd (k p e s m args below meth c H locs ls E hH hA hS hB hl)
theorem kw_ior {x y : Int32} (hd : decode cc pc = .ok (.ior, 1))
    (k : kw_G l D cc own ret nm R A K ad h cells slots (pc + 1) lv (pi_ (x ||| y) :: st)) : kw_G l D cc own ret nm R A K ad h cells slots pc lv (pi_ y :: pi_ x :: st) := by
  intro p e s m args below meth c H locs ls E hH hA hS hB hl
  exact lv_ior E.1 E.2.1 hd (k p e s m args below meth c H locs ls E hH hA hS hB hl)
theorem kw_ishl {x y : Int32} (hd : decode cc pc = .ok (.ishl, 1))
    (k : kw_G l D cc own ret nm R A K ad h cells slots (pc + 1) lv (pi_ (x <<< (y &&& 31)) :: st)) : kw_G l D cc own ret nm R A K ad h cells slots pc lv (pi_ y :: pi_ x :: st) := by
  intro p e s m args below meth c H locs ls E hH hA hS hB hl
  exact lv_ishl E.1 E.2.1 hd (k p e s m args below meth c H locs ls E hH hA hS hB hl)
theorem kw_ishr {x y : Int32} (hd : decode cc pc = .ok (.ishr, 1))
    (k : kw_G l D cc own ret nm R A K ad h cells slots (pc + 1) lv (pi_ (x >>> (y &&& 31)) :: st)) : kw_G l D cc own ret nm R A K ad h cells slots pc lv (pi_ y :: pi_ x :: st) := by
  intro p e s m args below meth c H locs ls E hH hA hS hB hl
  exact lv_ishr E.1 E.2.1 hd (k p e s m args below meth c H locs ls E hH hA hS hB hl)
theorem kw_idiv {x y : Int32} (hd : decode cc pc = .ok (.idiv, 1)) (hne : ¬ y = 0)
    (k : kw_G l D cc own ret nm R A K ad h cells slots (pc + 1) lv (pi_ (x / y) :: st)) : kw_G l D cc own ret nm R A K ad h cells slots pc lv (pi_ y :: pi_ x :: st) := by
  intro p e s m args below meth c H locs ls E hH hA hS hB hl
  exact lv_idiv E.1 E.2.1 hd hne (k p e s m args below meth c H locs ls E hH hA hS hB hl)
theorem kw_irem {x y : Int32} (hd : decode cc pc = .ok (.irem, 1)) (hne : ¬ y = 0)
    (k : kw_G l D cc own ret nm R A K ad h cells slots (pc + 1) lv (pi_ (x - x / y * y) :: st)) : kw_G l D cc own ret nm R A K ad h cells slots pc lv (pi_ y :: pi_ x :: st) := by
  intro p e s m args below meth c H locs ls E hH hA hS hB hl
  exact lv_irem E.1 E.2.1 hd hne (k p e s m args below meth c H locs ls E hH hA hS hB hl)
theorem kw_ladd {x y : Int64} (hd : decode cc pc = .ok (.ladd, 1))
    (k : kw_G l D cc own ret nm R A K ad h cells slots (pc + 1) lv (pl_ (x + y) :: st)) : kw_G l D cc own ret nm R A K ad h cells slots pc lv (pl_ y :: pl_ x :: st) := by
  intro p e s m args below meth c H locs ls E hH hA hS hB hl
  exact lv_ladd E.1 E.2.1 hd (k p e s m args below meth c H locs ls E hH hA hS hB hl)
theorem kw_lsub {x y : Int64} (hd : decode cc pc = .ok (.lsub, 1))
    (k : kw_G l D cc own ret nm R A K ad h cells slots (pc + 1) lv (pl_ (x - y) :: st)) : kw_G l D cc own ret nm R A K ad h cells slots pc lv (pl_ y :: pl_ x :: st) := by
  intro p e s m args below meth c H locs ls E hH hA hS hB hl
  exact lv_lsub E.1 E.2.1 hd (k p e s m args below meth c H locs ls E hH hA hS hB hl)
theorem kw_lmul {x y : Int64} (hd : decode cc pc = .ok (.lmul, 1))
    (k : kw_G l D cc own ret nm R A K ad h cells slots (pc + 1) lv (pl_ (x * y) :: st)) : kw_G l D cc own ret nm R A K ad h cells slots pc lv (pl_ y :: pl_ x :: st) := by
  intro p e s m args below meth c H locs ls E hH hA hS hB hl
  exact lv_lmul E.1 E.2.1 hd (k p e s m args below meth c H locs ls E hH hA hS hB hl)
theorem kw_land {x y : Int64} (hd : decode cc pc = .ok (.land, 1))
    (k : kw_G l D cc own ret nm R A K ad h cells slots (pc + 1) lv (pl_ (x &&& y) :: st)) : kw_G l D cc own ret nm R A K ad h cells slots pc lv (pl_ y :: pl_ x :: st) := by
  intro p e s m args below meth c H locs ls E hH hA hS hB hl
  exact lv_land E.1 E.2.1 hd (k p e s m args below meth c H locs ls E hH hA hS hB hl)
theorem kw_lor {x y : Int64} (hd : decode cc pc = .ok (.lor, 1))
    (k : kw_G l D cc own ret nm R A K ad h cells slots (pc + 1) lv (pl_ (x ||| y) :: st)) : kw_G l D cc own ret nm R A K ad h cells slots pc lv (pl_ y :: pl_ x :: st) := by
  intro p e s m args below meth c H locs ls E hH hA hS hB hl
  exact lv_lor E.1 E.2.1 hd (k p e s m args below meth c H locs ls E hH hA hS hB hl)
theorem kw_lxor {x y : Int64} (hd : decode cc pc = .ok (.lxor, 1))
    (k : kw_G l D cc own ret nm R A K ad h cells slots (pc + 1) lv (pl_ (x ^^^ y) :: st)) : kw_G l D cc own ret nm R A K ad h cells slots pc lv (pl_ y :: pl_ x :: st) := by
  intro p e s m args below meth c H locs ls E hH hA hS hB hl
  exact lv_lxor E.1 E.2.1 hd (k p e s m args below meth c H locs ls E hH hA hS hB hl)
theorem kw_ldiv {x y : Int64} (hd : decode cc pc = .ok (.ldiv, 1)) (hne : ¬ y = 0)
    (k : kw_G l D cc own ret nm R A K ad h cells slots (pc + 1) lv (pl_ (x / y) :: st)) : kw_G l D cc own ret nm R A K ad h cells slots pc lv (pl_ y :: pl_ x :: st) := by
  intro p e s m args below meth c H locs ls E hH hA hS hB hl
  exact lv_ldiv E.1 E.2.1 hd hne (k p e s m args below meth c H locs ls E hH hA hS hB hl)
theorem kw_lrem {x y : Int64} (hd : decode cc pc = .ok (.lrem, 1)) (hne : ¬ y = 0)
    (k : kw_G l D cc own ret nm R A K ad h cells slots (pc + 1) lv (pl_ (x - x / y * y) :: st)) : kw_G l D cc own ret nm R A K ad h cells slots pc lv (pl_ y :: pl_ x :: st) := by
  intro p e s m args below meth c H locs ls E hH hA hS hB hl
  exact lv_lrem E.1 E.2.1 hd hne (k p e s m args below meth c H locs ls E hH hA hS hB hl)
theorem kw_lshl {x : Int64} {y : Int32} (hd : decode cc pc = .ok (.lshl, 1))
    (k : kw_G l D cc own ret nm R A K ad h cells slots (pc + 1) lv (pl_ (x <<< (y.toInt64 &&& 63)) :: st)) : kw_G l D cc own ret nm R A K ad h cells slots pc lv (pi_ y :: pl_ x :: st) := by
  intro p e s m args below meth c H locs ls E hH hA hS hB hl
  exact lv_lshl E.1 E.2.1 hd rfl (k p e s m args below meth c H locs ls E hH hA hS hB hl)
theorem kw_i2l {x : Int32} (hd : decode cc pc = .ok (.i2l, 1))
    (k : kw_G l D cc own ret nm R A K ad h cells slots (pc + 1) lv (pl_ x.toInt64 :: st)) : kw_G l D cc own ret nm R A K ad h cells slots pc lv (pi_ x :: st) := by
  intro p e s m args below meth c H locs ls E hH hA hS hB hl
  exact lv_i2l E.1 E.2.1 hd rfl (k p e s m args below meth c H locs ls E hH hA hS hB hl)
theorem kw_l2i {x : Int64} (hd : decode cc pc = .ok (.l2i, 1))
    (k : kw_G l D cc own ret nm R A K ad h cells slots (pc + 1) lv (pi_ x.toInt32 :: st)) : kw_G l D cc own ret nm R A K ad h cells slots pc lv (pl_ x :: st) := by
  intro p e s m args below meth c H locs ls E hH hA hS hB hl
  exact lv_l2i E.1 E.2.1 hd rfl (k p e s m args below meth c H locs ls E hH hA hS hB hl)
theorem kw_lcmp {x y : Int64} (hd : decode cc pc = .ok (.lcmp, 1))
    (k : kw_G l D cc own ret nm R A K ad h cells slots (pc + 1) lv (pi_ (lg_cmp x y) :: st)) : kw_G l D cc own ret nm R A K ad h cells slots pc lv (pl_ y :: pl_ x :: st) := by
  intro p e s m args below meth c H locs ls E hH hA hS hB hl
  exact W.lcmp E.1 E.2.1 hd (k p e s m args below meth c H locs ls E hH hA hS hB hl)
theorem kw_dup {v : PV} (hd : decode cc pc = .ok (.dup, 1)) (hc : kw_cat v = 1)
    (k : kw_G l D cc own ret nm R A K ad h cells slots (pc + 1) lv (v :: v :: st)) : kw_G l D cc own ret nm R A K ad h cells slots pc lv (v :: st) := by
  intro p e s m args below meth c H locs ls E hH hA hS hB hl
  exact lv_dup E.1 E.2.1 hd (by rw [kw_cat_v]; exact hc) (k p e s m args below meth c H locs ls E hH hA hS hB hl)
theorem kw_pop {v : PV} (hd : decode cc pc = .ok (.pop, 1)) (hc : kw_cat v = 1)
    (k : kw_G l D cc own ret nm R A K ad h cells slots (pc + 1) lv st) : kw_G l D cc own ret nm R A K ad h cells slots pc lv (v :: st) := by
  intro p e s m args below meth c H locs ls E hH hA hS hB hl
  exact lv_pop E.1 E.2.1 hd (by rw [kw_cat_v]; exact hc) (k p e s m args below meth c H locs ls E hH hA hS hB hl)
theorem kw_dup2 {v w : PV} (hd : decode cc pc = .ok (.dup2, 1)) (hc : kw_cat v = 1) (hc2 : kw_cat w = 1)
    (k : kw_G l D cc own ret nm R A K ad h cells slots (pc + 1) lv (v :: w :: v :: w :: st)) : kw_G l D cc own ret nm R A K ad h cells slots pc lv (v :: w :: st) := by
  intro p e s m args below meth c H locs ls E hH hA hS hB hl
  exact lv_dup2_11 E.1 E.2.1 hd (by rw [kw_cat_v]; exact hc) (by rw [kw_cat_v]; exact hc2) (k p e s m args below meth c H locs ls E hH hA hS hB hl)
theorem kw_dup_x1 {v w : PV} (hd : decode cc pc = .ok (.dup_x1, 1)) (hc : kw_cat v = 1) (hc2 : kw_cat w = 1)
    (k : kw_G l D cc own ret nm R A K ad h cells slots (pc + 1) lv (v :: w :: v :: st)) : kw_G l D cc own ret nm R A K ad h cells slots pc lv (v :: w :: st) := by
  intro p e s m args below meth c H locs ls E hH hA hS hB hl
  exact lv_dup_x1 E.1 E.2.1 hd (by rw [kw_cat_v]; exact hc) (by rw [kw_cat_v]; exact hc2) (k p e s m args below meth c H locs ls E hH hA hS hB hl)
theorem kw_goto {off : Int} {tgt : Nat} (hd : decode cc pc = .ok (.goto off, 3)) (ht : (pc : Int) + off = (tgt : Int))
    (k : kw_G l D cc own ret nm R A K ad h cells slots tgt lv st) : kw_G l D cc own ret nm R A K ad h cells slots pc lv st := by
  intro p e s m args below meth c H locs ls E hH hA hS hB hl
  exact lv_goto E.1 E.2.1 hd ht (k p e s m args below meth c H locs ls E hH hA hS hB hl)
theorem kw_if_eq {x : Int32} {off : Int} {tgt : Nat} (hd : decode cc pc = .ok (.ifCond .eq off, 3)) (ht : (pc : Int) + off = (tgt : Int))
    (kt : x = 0 → kw_G l D cc own ret nm R A K ad h cells slots tgt lv st) (kf : ¬ x = 0 → kw_G l D cc own ret nm R A K ad h cells slots (pc + 3) lv st) : kw_G l D cc own ret nm R A K ad h cells slots pc lv (pi_ x :: st) := by
  intro p e s m args below meth c H locs ls E hH hA hS hB hl
  exact lv_if_eq E.1 E.2.1 hd ht (fun q => kt q p e s m args below meth c H locs ls E hH hA hS hB hl) (fun q => kf q p e s m args below meth c H locs ls E hH hA hS hB hl)
theorem kw_icmp_eq {x y : Int32} {off : Int} {tgt : Nat} (hd : decode cc pc = .ok (.if_icmp .eq off, 3)) (ht : (pc : Int) + off = (tgt : Int))
    (kt : x = y → kw_G l D cc own ret nm R A K ad h cells slots tgt lv st) (kf : ¬ x = y → kw_G l D cc own ret nm R A K ad h cells slots (pc + 3) lv st) : kw_G l D cc own ret nm R A K ad h cells slots pc lv (pi_ y :: pi_ x :: st) := by
  intro p e s m args below meth c H locs ls E hH hA hS hB hl
  exact lv_icmp_eq E.1 E.2.1 hd ht (fun q => kt q p e s m args below meth c H locs ls E hH hA hS hB hl) (fun q => kf q p e s m args below meth c H locs ls E hH hA hS hB hl)
theorem kw_if_ne {x : Int32} {off : Int} {tgt : Nat} (hd : decode cc pc = .ok (.ifCond .ne off, 3)) (ht : (pc : Int) + off = (tgt : Int))
    (kt : ¬ x = 0 → kw_G l D cc own ret nm R A K ad h cells slots tgt lv st) (kf : x = 0 → kw_G l D cc own ret nm R A K ad h cells slots (pc + 3) lv st) : kw_G l D cc own ret nm R A K ad h cells slots pc lv (pi_ x :: st) := by
  intro p e s m args below meth c H locs ls E hH hA hS hB hl
  exact lv_if_ne E.1 E.2.1 hd ht (fun q => kt q p e s m args below meth c H locs ls E hH hA hS hB hl) (fun q => kf q p e s m args below meth c H locs ls E hH hA hS hB hl)
theorem kw_icmp_ne {x y : Int32} {off : Int} {tgt : Nat} (hd : decode cc pc = .ok (.if_icmp .ne off, 3)) (ht : (pc : Int) + off = (tgt : Int))
    (kt : ¬ x = y → kw_G l D cc own ret nm R A K ad h cells slots tgt lv st) (kf : x = y → kw_G l D cc own ret nm R A K ad h cells slots (pc + 3) lv st) : kw_G l D cc own ret nm R A K ad h cells slots pc lv (pi_ y :: pi_ x :: st) := by
  intro p e s m args below meth c H locs ls E hH hA hS hB hl
  exact lv_icmp_ne E.1 E.2.1 hd ht (fun q => kt q p e s m args below meth c H locs ls E hH hA hS hB hl) (fun q => kf q p e s m args below meth c H locs ls E hH hA hS hB hl)
theorem kw_if_lt {x : Int32} {off : Int} {tgt : Nat} (hd : decode cc pc = .ok (.ifCond .lt off, 3)) (ht : (pc : Int) + off = (tgt : Int))
    (kt : x < 0 → kw_G l D cc own ret nm R A K ad h cells slots tgt lv st) (kf : ¬ x < 0 → kw_G l D cc own ret nm R A K ad h cells slots (pc + 3) lv st) : kw_G l D cc own ret nm R A K ad h cells slots pc lv (pi_ x :: st) := by
  intro p e s m args below meth c H locs ls E hH hA hS hB hl
  exact lv_if_lt E.1 E.2.1 hd ht (fun q => kt q p e s m args below meth c H locs ls E hH hA hS hB hl) (fun q => kf q p e s m args below meth c H locs ls E hH hA hS hB hl)
theorem kw_icmp_lt {x y : Int32} {off : Int} {tgt : Nat} (hd : decode cc pc = .ok (.if_icmp .lt off, 3)) (ht : (pc : Int) + off = (tgt : Int))
    (kt : x < y → kw_G l D cc own ret nm R A K ad h cells slots tgt lv st) (kf : ¬ x < y → kw_G l D cc own ret nm R A K ad h cells slots (pc + 3) lv st) : kw_G l D cc own ret nm R A K ad h cells slots pc lv (pi_ y :: pi_ x :: st) := by
  intro p e s m args below meth c H locs ls E hH hA hS hB hl
  exact lv_icmp_lt E.1 E.2.1 hd ht (fun q => kt q p e s m args below meth c H locs ls E hH hA hS hB hl) (fun q => kf q p e s m args below meth c H locs ls E hH hA hS hB hl)
theorem kw_if_ge {x : Int32} {off : Int} {tgt : Nat} (hd : decode cc pc = .ok (.ifCond .ge off, 3)) (ht : (pc : Int) + off = (tgt : Int))
    (kt : 0 ≤ x → kw_G l D cc own ret nm R A K ad h cells slots tgt lv st) (kf : ¬ 0 ≤ x → kw_G l D cc own ret nm R A K ad h cells slots (pc + 3) lv st) : kw_G l D cc own ret nm R A K ad h cells slots pc lv (pi_ x :: st) := by
  intro p e s m args below meth c H locs ls E hH hA hS hB hl
  exact lv_if_ge E.1 E.2.1 hd ht (fun q => kt q p e s m args below meth c H locs ls E hH hA hS hB hl) (fun q => kf q p e s m args below meth c H locs ls E hH hA hS hB hl)
theorem kw_icmp_ge {x y : Int32} {off : Int} {tgt : Nat} (hd : decode cc pc = .ok (.if_icmp .ge off, 3)) (ht : (pc : Int) + off = (tgt : Int))
    (kt : y ≤ x → kw_G l D cc own ret nm R A K ad h cells slots tgt lv st) (kf : ¬ y ≤ x → kw_G l D cc own ret nm R A K ad h cells slots (pc + 3) lv st) : kw_G l D cc own ret nm R A K ad h cells slots pc lv (pi_ y :: pi_ x :: st) := by
  intro p e s m args below meth c H locs ls E hH hA hS hB hl
  exact lv_icmp_ge E.1 E.2.1 hd ht (fun q => kt q p e s m args below meth c H locs ls E hH hA hS hB hl) (fun q => kf q p e s m args below meth c H locs ls E hH hA hS hB hl)
theorem kw_if_gt {x : Int32} {off : Int} {tgt : Nat} (hd : decode cc pc = .ok (.ifCond .gt off, 3)) (ht : (pc : Int) + off = (tgt : Int))
    (kt : 0 < x → kw_G l D cc own ret nm R A K ad h cells slots tgt lv st) (kf : ¬ 0 < x → kw_G l D cc own ret nm R A K ad h cells slots (pc + 3) lv st) : kw_G l D cc own ret nm R A K ad h cells slots pc lv (pi_ x :: st) := by
  intro p e s m args below meth c H locs ls E hH hA hS hB hl
  exact lv_if_gt E.1 E.2.1 hd ht (fun q => kt q p e s m args below meth c H locs ls E hH hA hS hB hl) (fun q => kf q p e s m args below meth c H locs ls E hH hA hS hB hl)
theorem kw_icmp_gt {x y : Int32} {off : Int} {tgt : Nat} (hd : decode cc pc = .ok (.if_icmp .gt off, 3)) (ht : (pc : Int) + off = (tgt : Int))
    (kt : y < x → kw_G l D cc own ret nm R A K ad h cells slots tgt lv st) (kf : ¬ y < x → kw_G l D cc own ret nm R A K ad h cells slots (pc + 3) lv st) : kw_G l D cc own ret nm R A K ad h cells slots pc lv (pi_ y :: pi_ x :: st) := by
  intro p e s m args below meth c H locs ls E hH hA hS hB hl
  exact lv_icmp_gt E.1 E.2.1 hd ht (fun q => kt q p e s m args below meth c H locs ls E hH hA hS hB hl) (fun q => kf q p e s m args below meth c H locs ls E hH hA hS hB hl)
theorem kw_if_le {x : Int32} {off : Int} {tgt : Nat} (hd : decode cc pc = .ok (.ifCond .le off, 3)) (ht : (pc : Int) + off = (tgt : Int))
    (kt : x ≤ 0 → kw_G l D cc own ret nm R A K ad h cells slots tgt lv st) (kf : ¬ x ≤ 0 → kw_G l D cc own ret nm R A K ad h cells slots (pc + 3) lv st) : kw_G l D cc own ret nm R A K ad h cells slots pc lv (pi_ x :: st) := by
  intro p e s m args below meth c H locs ls E hH hA hS hB hl
  exact lv_if_le E.1 E.2.1 hd ht (fun q => kt q p e s m args below meth c H locs ls E hH hA hS hB hl) (fun q => kf q p e s m args below meth c H locs ls E hH hA hS hB hl)
theorem kw_icmp_le {x y : Int32} {off : Int} {tgt : Nat} (hd : decode cc pc = .ok (.if_icmp .le off, 3)) (ht : (pc : Int) + off = (tgt : Int))
    (kt : x ≤ y → kw_G l D cc own ret nm R A K ad h cells slots tgt lv st) (kf : ¬ x ≤ y → kw_G l D cc own ret nm R A K ad h cells slots (pc + 3) lv st) : kw_G l D cc own ret nm R A K ad h cells slots pc lv (pi_ y :: pi_ x :: st) := by
  intro p e s m args below meth c H locs ls E hH hA hS hB hl
  exact lv_icmp_le E.1 E.2.1 hd ht (fun q => kt q p e s m args below meth c H locs ls E hH hA hS hB hl) (fun q => kf q p e s m args below meth c H locs ls E hH hA hS hB hl)
theorem kw_ifnull {x : Option KK} {off : Int} {tgt : Nat} (hd : decode cc pc = .ok (.ifnull off, 3)) (ht : (pc : Int) + off = (tgt : Int))
    (kt : x = none → kw_G l D cc own ret nm R A K ad h cells slots tgt lv st) (kf : ¬ x = none → kw_G l D cc own ret nm R A K ad h cells slots (pc + 3) lv st) : kw_G l D cc own ret nm R A K ad h cells slots pc lv (.inr (.inr x) :: st) := by
  intro p e s m args below meth c H locs ls E hH hA hS hB hl
  cases x with
  | none => exact lv_ifnullN E.1 E.2.1 hd ht (kt rfl p e s m args below meth c H locs ls E hH hA hS hB hl)
  | some x => exact lv_ifnull E.1 E.2.1 hd (kf (fun q => by cases q) p e s m args below meth c H locs ls E hH hA hS hB hl)
theorem kw_ifnonnull {x : Option KK} {off : Int} {tgt : Nat} (hd : decode cc pc = .ok (.ifnonnull off, 3)) (ht : (pc : Int) + off = (tgt : Int))
    (kt : ¬ x = none → kw_G l D cc own ret nm R A K ad h cells slots tgt lv st) (kf : x = none → kw_G l D cc own ret nm R A K ad h cells slots (pc + 3) lv st) : kw_G l D cc own ret nm R A K ad h cells slots pc lv (.inr (.inr x) :: st) := by
  intro p e s m args below meth c H locs ls E hH hA hS hB hl
  cases x with
  | none => exact lv_ifnonnullN E.1 E.2.1 hd (kf rfl p e s m args below meth c H locs ls E hH hA hS hB hl)
  | some x => exact lv_ifnonnull E.1 E.2.1 hd ht (kt (fun q => by cases q) p e s m args below meth c H locs ls E hH hA hS hB hl)
theorem kw_tableIn {dflt lo hi : Int} {offs : Array Int} {len : Nat} {x : Int32} {off : Int} {tgt : Nat} (hd : decode cc pc = .ok (.tableswitch dflt lo hi offs, len)) (h1 : ¬ x.toInt < lo) (h2 : ¬ hi < x.toInt) (ho : offs[(x.toInt - lo).toNat]? = some off) (ht : (pc : Int) + off = (tgt : Int))
    (k : kw_G l D cc own ret nm R A K ad h cells slots tgt lv st) : kw_G l D cc own ret nm R A K ad h cells slots pc lv (pi_ x :: st) := by
  intro p e s m args below meth c H locs ls E hH hA hS hB hl
  exact lv_tableIn E.1 E.2.1 hd h1 h2 ho ht (k p e s m args below meth c H locs ls E hH hA hS hB hl)
theorem kw_tableOut {dflt lo hi : Int} {offs : Array Int} {len : Nat} {x : Int32} {tgt : Nat} (hd : decode cc pc = .ok (.tableswitch dflt lo hi offs, len)) (h1 : x.toInt < lo ∨ hi < x.toInt) (ht : (pc : Int) + dflt = (tgt : Int))
    (k : kw_G l D cc own ret nm R A K ad h cells slots tgt lv st) : kw_G l D cc own ret nm R A K ad h cells slots pc lv (pi_ x :: st) := by
  intro p e s m args below meth c H locs ls E hH hA hS hB hl
  exact lv_tableOut E.1 E.2.1 hd h1 ht (k p e s m args below meth c H locs ls E hH hA hS hB hl)
theorem kw_lookup {dflt : Int} {ps : Array (Int × Int)} {len : Nat} {x : Int32} {off : Int} {tgt : Nat} (hd : decode cc pc = .ok (.lookupswitch dflt ps, len)) (hp : (ps.toList.zip (ps.toList.drop 1)).all (fun (a, next) => a.1 < next.1) = true) (ho : Op.lookupswitch.offset ps.toList dflt x.toInt = off) (ht : (pc : Int) + off = (tgt : Int))
    (k : kw_G l D cc own ret nm R A K ad h cells slots tgt lv st) : kw_G l D cc own ret nm R A K ad h cells slots pc lv (pi_ x :: st) := by
  intro p e s m args below meth c H locs ls E hH hA hS hB hl
  exact lv_lookup E.1 E.2.1 hd hp ho ht (k p e s m args below meth c H locs ls E hH hA hS hB hl)
theorem kw_vret  (hd : decode cc pc = .ok (.return_, 1)) (hr : ret = none) (h1 : cells ≤ R.cells) (h2 : slots ≤ R.slots) (hK : K none ad h) : kw_G l D cc own ret nm R A K ad h cells slots pc lv [] := by
  intro p e s m args below meth c H locs ls E hH hA hS hB hl
  refine W.widen h1 h2 ?_
  exact W.vret E.1 E.2.1 (by rw [E.2.2.2.2.2.1, hr]) (fun t ht hw => ⟨⟨none, ad, h, rfl, hK, by rw [ht]; exact hH.moved hw.alike, hA⟩, hS.F ht⟩) hS.2.2 hd E.2.2.2.2.2.2.1
theorem kw_iret {x : Int32} (hd : decode cc pc = .ok (.ireturn, 1)) (hr : ret = some .int) (h1 : cells ≤ R.cells) (h2 : slots ≤ R.slots) (hK : K (some (pi_ x)) ad h) : kw_G l D cc own ret nm R A K ad h cells slots pc lv [pi_ x] := by
  intro p e s m args below meth c H locs ls E hH hA hS hB hl
  refine W.widen h1 h2 ?_
  exact W.iret E.1 E.2.1 (by rw [E.2.2.2.2.2.1, hr]) (fun t ht hw => ⟨⟨(some (pi_ x)), ad, h, rfl, hK, by rw [ht]; exact hH.moved hw.alike, hA⟩, hS.F ht⟩) hS.2.2 hd E.2.2.2.2.2.2.1
theorem kw_zret {x : Int32} (hd : decode cc pc = .ok (.ireturn, 1)) (hr : ret = some .boolean) (hn : narrow .boolean (.int x) = .int x) (h1 : cells ≤ R.cells) (h2 : slots ≤ R.slots) (hK : K (some (pi_ x)) ad h) : kw_G l D cc own ret nm R A K ad h cells slots pc lv [pi_ x] := by
  intro p e s m args below meth c H locs ls E hH hA hS hB hl
  refine W.widen h1 h2 ?_
  exact W.zret E.1 E.2.1 (by rw [E.2.2.2.2.2.1, hr]) hn (fun t ht hw => ⟨⟨(some (pi_ x)), ad, h, rfl, hK, by rw [ht]; exact hH.moved hw.alike, hA⟩, hS.F ht⟩) hS.2.2 hd E.2.2.2.2.2.2.1
theorem kw_lret {x : Int64} (hd : decode cc pc = .ok (.lreturn, 1)) (hr : ret = some .long) (h1 : cells ≤ R.cells) (h2 : slots ≤ R.slots) (hK : K (some (pl_ x)) ad h) : kw_G l D cc own ret nm R A K ad h cells slots pc lv [pl_ x] := by
  intro p e s m args below meth c H locs ls E hH hA hS hB hl
  refine W.widen h1 h2 ?_
  exact W.lret E.1 E.2.1 (by rw [E.2.2.2.2.2.1, hr]) (fun t ht hw => ⟨⟨(some (pl_ x)), ad, h, rfl, hK, by rw [ht]; exact hH.moved hw.alike, hA⟩, hS.F ht⟩) hS.2.2 hd E.2.2.2.2.2.2.1
theorem kw_aret {x : Option KK} {rt : FieldType} (hd : decode cc pc = .ok (.areturn, 1)) (hr : ret = some rt) (hrt : (∃ n, rt = .object n) ∨ ∃ t, rt = .array t) (h1 : cells ≤ R.cells) (h2 : slots ≤ R.slots) (hK : K (some (.inr (.inr x))) ad h) : kw_G l D cc own ret nm R A K ad h cells slots pc lv [.inr (.inr x)] := by
  intro p e s m args below meth c H locs ls E hH hA hS hB hl
  refine W.widen h1 h2 ?_
  exact W.aret E.1 E.2.1 (by rw [E.2.2.2.2.2.1, hr]) hrt (by cases x with | none => exact Or.inl rfl | some x => exact Or.inr ⟨_, rfl⟩) (fun t ht hw => ⟨⟨(some (.inr (.inr x))), ad, h, rfl, hK, by rw [ht]; exact hH.moved hw.alike, hA⟩, hS.F ht⟩) hS.2.2 hd E.2.2.2.2.2.2.1
end KwRows
end
section
/-! ROWS OF THE HEAP -/
/-- a class of the worlds, and its words -/
def kw_CD (ci : Nat) (C : String) (T : u_T) (N : Nat) (ty : Nat → FieldType) : Prop :=
  vwCl[ci]? = some (C, T, N) ∧ (∀ w ∈ u_ws C T N, w ∈ kw_tbl) ∧ (∀ k, k < N → parseFieldDescriptor (T k).2.2.1 = some (ty k)) ∧ (∀ a, a < N → ∀ b, b < N → a ≠ b → (T a).2.1 ≠ (T b).2.1) ∧ ∀ k, k < N → (T k).1 = C
/-- a field that an instruction names: the class by its number, the field by its place, its type, whether it is final -/
def kw_FL (own : String) (idx ci j : Nat) (ty : FieldType) (fin : Bool) : Prop :=
  ∃ (C : String) (T : u_T) (N : Nat) (tys : Nat → FieldType), kw_CD ci C T N tys ∧ j < N ∧ tys j = ty ∧ (T j).2.2.2 = fin ∧ Cond.fieldLink own idx C (T j).2.1 (T j).2.2.1 ∈ kw_tbl
/-- what a field or an array of this type may hold -/
def kw_ok (ty : FieldType) (v : PV) : Prop := ∀ ad : KK → Nat, narrow ty (kw_v ad v) = kw_v ad v ∧ fits ty (kw_v ad v) = true
theorem kw_ok_i (x : Int32) : kw_ok .int (pi_ x) := fun _ => ⟨rfl, rfl⟩
theorem kw_ok_l (x : Int64) : kw_ok .long (pl_ x) := fun _ => ⟨rfl, rfl⟩
theorem kw_ok_o (C : String) (x : Option KK) : kw_ok (.object C) (.inr (.inr x)) := fun _ => by cases x <;> exact ⟨rfl, rfl⟩
theorem kw_ok_a (t : FieldType) (x : Option KK) : kw_ok (.array t) (.inr (.inr x)) := fun _ => by cases x <;> exact ⟨rfl, rfl⟩
theorem kw_ok_z {x : Int32} (h : x = 0 ∨ x = 1) : kw_ok .boolean (pi_ x) := fun _ => by
  rcases h with rfl | rfl
  · exact (by decide : narrow .boolean (.int 0) = .int 0 ∧ fits .boolean (.int 0) = true)
  · exact (by decide : narrow .boolean (.int 1) = .int 1 ∧ fits .boolean (.int 1) = true)
def b2 (b : Bool) : Int32 := if b then 1 else 0
theorem b2_01 (b : Bool) : b2 b = 0 ∨ b2 b = 1 := by cases b <;> simp [b2]
theorem kw_ok_b (b : Bool) : kw_ok .boolean (pi_ (b2 b)) := kw_ok_z (b2_01 b)
theorem b2_nar (b : Bool) : narrow .boolean (.int (b2 b)) = .int (b2 b) := by cases b <;> decide
theorem b2_nar2 (b : Bool) : vp_nar .boolean (b2 b) = b2 b := by cases b <;> decide
section KwHeap
variable {l : Launch} {D : va_G} {cc : ByteArray} {own : String} {ret : Option FieldType} {nm : String} {R : Room} {A : Nat → Prop} {K : Option PV → (KK → Nat) → PH → Prop} {ad : KK → Nat} {h : PH} {cells slots pc : Nat} {lv : List (Option PV)} {st : List PV}
theorem kw_al {h : PH} {k : KK} {c : PC} (hk : h k = some c) : h k ≠ none := by rw [hk]; exact fun q => by cases q
theorem kw_hA {A : Nat → Prop} {ad : KK → Nat} {h : PH} {k : KK} {c0 c : PC} (hk : h k = some c0) (hA : ∀ k, h k ≠ none → A (ad k)) : ∀ k', kw_up h k c k' ≠ none → A (ad k') := by
  intro k' h1
  by_cases e : k' = k
  · subst e; exact hA _ (kw_al hk)
  · rw [kw_up_n _ _ e] at h1; exact hA _ h1
theorem kw_get {idx ci j : Nat} {ty : FieldType} {fin : Bool} {key : KK} {fs : List PV} {v : PV} (hd : decode cc pc = .ok (.getfield idx, 3)) (hf : kw_FL own idx ci j ty fin) (hk : h key = some (.inr (ci, fs))) (hv : fs[j]? = some v)
    (k : kw_G l D cc own ret nm R A K ad h cells slots (pc + 3) lv (v :: st)) : kw_G l D cc own ret nm R A K ad h cells slots pc lv (pr_ key :: st) := by
  intro p e s m args below meth c H locs ls E hH hA hS hB hl
  obtain ⟨C, T, N, tys, ⟨hc, hin, -, -, hown⟩, hj, -, -, hlink⟩ := hf
  refine va_get (ci := ci) E.1 E.2.1 E.2.2.2.2.1 hin E.2.2.2.1 hH.1 (ws := [(ad key, .inr (ci, fs.map (kw_v ad)))]) (fun i q hq => ?_) 0 rfl hc j hj (E.2.2.2.2.1 _ hlink) (fun x hx => by rw [hown j hj] at hx; exact hx) (v := kw_v ad v) (by rw [List.getElem?_map, hv]; rfl) hd (k p e s m args below meth c H locs ls E hH hA hS hB hl)
  have hz : i = 0 := by have := (List.getElem?_eq_some_iff.mp hq).1; simp at this; exact this
  subst hz
  cases hq
  exact hH.2.1 key _ hk
theorem kw_put {idx ci j : Nat} {ty : FieldType} {key : KK} {fs : List PV} {v : PV} (hd : decode cc pc = .ok (.putfield idx, 3)) (hf : kw_FL own idx ci j ty false) (hk : h key = some (.inr (ci, fs))) (hv : kw_ok ty v) (hlen : j < fs.length)
    (k : kw_G l D cc own ret nm R A K ad (kw_up h key (.inr (ci, fs.set j v))) cells slots (pc + 3) lv st) : kw_G l D cc own ret nm R A K ad h cells slots pc lv (v :: pr_ key :: st) := by
  intro p e s m args below meth c H locs ls E hH hA hS hB hl
  obtain ⟨C, T, N, tys, ⟨hc, hin, hty, hnm, hown⟩, hj, hty2, hfin, hlink⟩ := hf
  have hap := va_apart (own := own) E.2.2.2.2.1 hin tys hty hnm hH.1 hc
  obtain ⟨r, h1, cell, q1, q2, q3, q4⟩ := hH.2.1 key _ hk
  have hr : r = (C, T, N) := Option.some.inj (h1.symm.trans hc)
  subst hr
  obtain ⟨hSl, hfc, kC, hkC, hkind⟩ := hH.1.1 ci _ hc
  obtain ⟨cf, kf, fi, f, hi, hsl⟩ := hSl j hj
  have hlay := E.2.2.2.2.1 _ (hin _ (u_in_lay hj))
  unfold u_lay at hlay
  rw [if_neg (by rw [hfin]; decide)] at hlay
  have hst := (u_facts hfc hkC (u_lays E.2.2.2.2.1 hin hj) hi).1
  have hd2 : parseFieldDescriptor (T j).2.2.1 = some ty := by rw [hty j hj, hty2]
  have h6 := u_store hfc hkC hkind hlay hi hd2 (hv ad).1 (hv ad).2
  have hi2 : s.fieldFound? C (T j).2.1 (T j).2.2.1 = some (cf, kf, fi, f) := by rw [← hown j hj]; exact hi
  refine W.putK E.1 E.2.1 (f := f) ⟨E.2.2.2.1, E.2.2.2.2.1 _ hlink, ⟨_, _, _, hi2⟩, hst⟩ (by rw [q2]; exact h6) q1 q3 (by rw [hsl]; exact k2_hasslot (q4 j hj)) rfl rfl hd fun H' e1 e2 e3 => ?_
  rw [hsl] at e1 ⊢
  refine k p e s m args below meth c H' _ ls E (hH.set hk ?_ e3) (kw_hA hk hA) (hS.put e2 e3 (hA _ (kw_al hk))) hB hl
  refine ⟨_, hc, t_OB.to (V := updV (vp_V (fs.map (kw_v ad))) j (kw_v ad v)) ⟨_, e1, q2, q3, t_set q4 hap hj _⟩ (fun i _ => ?_)⟩
  rw [vp_updV_set (by rw [List.length_map]; exact hlen)]
  simp only [List.map_set]
theorem kw_putF {idx ci j : Nat} {ty : FieldType} {key : KK} {fs : List PV} {v : PV} (hd : decode cc pc = .ok (.putfield idx, 3)) (hf : kw_FL own idx ci j ty true) (hnm : nm = "<init>") (hdecl : ∀ C T N, vwCl[ci]? = some (C, T, N) → C = own) (hk : h key = some (.inr (ci, fs))) (hv : kw_ok ty v) (hlen : j < fs.length)
    (k : kw_G l D cc own ret nm R A K ad (kw_up h key (.inr (ci, fs.set j v))) cells slots (pc + 3) lv st) : kw_G l D cc own ret nm R A K ad h cells slots pc lv (v :: pr_ key :: st) := by
  intro p e s m args below meth c H locs ls E hH hA hS hB hl
  obtain ⟨C, T, N, tys, ⟨hc, hin, hty, hnm2, hown⟩, hj, hty2, hfin, hlink⟩ := hf
  have hap := va_apart (own := own) E.2.2.2.2.1 hin tys hty hnm2 hH.1 hc
  obtain ⟨r, h1, cell, q1, q2, q3, q4⟩ := hH.2.1 key _ hk
  have hr : r = (C, T, N) := Option.some.inj (h1.symm.trans hc)
  subst hr
  obtain ⟨hSl, hfc, kC, hkC, hkind⟩ := hH.1.1 ci _ hc
  obtain ⟨cf, kf, fi, f, hi, hsl⟩ := hSl j hj
  have hlay := E.2.2.2.2.1 _ (hin _ (u_in_lay hj))
  unfold u_lay at hlay
  rw [if_pos hfin] at hlay
  have hst := (u_facts hfc hkC (u_lays E.2.2.2.2.1 hin hj) hi).1
  have hd2 : parseFieldDescriptor (T j).2.2.1 = some ty := by rw [hty j hj, hty2]
  have hi2 : s.fieldFound? C (T j).2.1 (T j).2.2.1 = some (cf, kf, fi, f) := by rw [← hown j hj]; exact hi
  have hcf : m.cls = cf := by
    obtain ⟨_, _, c', _, _, _, -, -, hf', -, -, -, hown2, -⟩ := Cond.laysFinal_spec hlay
    have e1 : c' = cf := by have := hi.symm.trans hf'; simp at this; exact this.1.symm
    rw [hown j hj, hdecl _ _ _ hc] at hown2
    rw [← e1]; exact Option.some.inj (E.2.2.2.1.symm.trans hown2)
  have h6 := u_fits hfc hkC hkind (Or.inr hlay) hi hd2 (hv ad).1 (hv ad).2
  refine W.putFinK E.1 E.2.1 E.2.2.2.1 (E.2.2.2.2.1 _ hlink) hi2 hst hcf (by rw [E.2.2.2.2.2.2.2.1, hnm]) (by rw [q2]; exact h6) q1 q3 (by rw [hsl]; exact k2_hasslot (q4 j hj)) rfl rfl hd fun H' e1 e2 e3 => ?_
  rw [hsl] at e1 ⊢
  refine k p e s m args below meth c H' _ ls E (hH.set hk ?_ e3) (kw_hA hk hA) (hS.put e2 e3 (hA _ (kw_al hk))) hB hl
  refine ⟨_, hc, t_OB.to (V := updV (vp_V (fs.map (kw_v ad))) j (kw_v ad v)) ⟨_, e1, q2, q3, t_set q4 hap hj _⟩ (fun i _ => ?_)⟩
  rw [vp_updV_set (by rw [List.length_map]; exact hlen)]
  simp only [List.map_set]
/-! arrays: reads -/
theorem kw_iald {key : KK} {n : Nat} {f : Nat → Int32} {i : Int32} (hd : decode cc pc = .ok (.iaload, 1)) (hk : h key = some (.inl (.int, n, .inl f))) (hin : vp_in i n)
    (k : kw_G l D cc own ret nm R A K ad h cells slots (pc + 1) lv (pi_ (f i.toNatClampNeg) :: st)) : kw_G l D cc own ret nm R A K ad h cells slots pc lv (pi_ i :: pr_ key :: st) := by
  intro p e s m args below meth c H locs ls E hH hA hS hB hl
  obtain ⟨cA, h1, h2, h3⟩ := hH.2.1 key _ hk
  have hlt : i.toNatClampNeg < n := Nat.not_le.mp fun q => hin (Or.inr q)
  exact W.iald (v := .int (f i.toNatClampNeg)) E.1 E.2.1 h1 (h2 n (fun j => .int (f j))) (fun q => by cases q) (by show ¬ (i < 0 ∨ (arrV _ _ _).slots.size ≤ _); rw [arrV_size]; exact hin) (by show (arrV _ _ _).slots[_]? = _; rw [arrV_read _ _ hlt]) rfl rfl hd (k p e s m args below meth c H locs ls E hH hA hS hB hl)
theorem kw_zald {key : KK} {n : Nat} {f : Nat → Int32} {i : Int32} (hd : decode cc pc = .ok (.baload, 1)) (hk : h key = some (.inl (.boolean, n, .inl f))) (hin : vp_in i n)
    (k : kw_G l D cc own ret nm R A K ad h cells slots (pc + 1) lv (pi_ (f i.toNatClampNeg) :: st)) : kw_G l D cc own ret nm R A K ad h cells slots pc lv (pi_ i :: pr_ key :: st) := by
  intro p e s m args below meth c H locs ls E hH hA hS hB hl
  obtain ⟨cA, h1, h2, h3⟩ := hH.2.1 key _ hk
  have hlt : i.toNatClampNeg < n := Nat.not_le.mp fun q => hin (Or.inr q)
  exact W.zald (v := .int (f i.toNatClampNeg)) E.1 E.2.1 h1 (h2 n (fun j => .int (f j))) (fun q => by cases q) (by show ¬ (i < 0 ∨ (arrV _ _ _).slots.size ≤ _); rw [arrV_size]; exact hin) (by show (arrV _ _ _).slots[_]? = _; rw [arrV_read _ _ hlt]) rfl rfl hd (k p e s m args below meth c H locs ls E hH hA hS hB hl)
theorem kw_lald {key : KK} {n : Nat} {f : Nat → Int64} {i : Int32} (hd : decode cc pc = .ok (.laload, 1)) (hk : h key = some (.inl (.long, n, .inr (.inl f)))) (hin : vp_in i n)
    (k : kw_G l D cc own ret nm R A K ad h cells slots (pc + 1) lv (pl_ (f i.toNatClampNeg) :: st)) : kw_G l D cc own ret nm R A K ad h cells slots pc lv (pi_ i :: pr_ key :: st) := by
  intro p e s m args below meth c H locs ls E hH hA hS hB hl
  obtain ⟨cA, h1, h2, h3⟩ := hH.2.1 key _ hk
  have hlt : i.toNatClampNeg < n := Nat.not_le.mp fun q => hin (Or.inr q)
  exact W.lald (v := .long (f i.toNatClampNeg)) E.1 E.2.1 h1 (h2 n (fun j => .long (f j))) (fun q => by cases q) (by show ¬ (i < 0 ∨ (arrV _ _ _).slots.size ≤ _); rw [arrV_size]; exact hin) (by show (arrV _ _ _).slots[_]? = _; rw [arrV_read _ _ hlt]) rfl rfl hd (k p e s m args below meth c H locs ls E hH hA hS hB hl)
theorem kw_rf (ad : KK → Nat) (x : Option KK) : va_rf (x.map ad) = kw_v ad (.inr (.inr x)) := by cases x <;> rfl
theorem kw_aald {key : KK} {n : Nat} {C : String} {f : Nat → Option KK} {i : Int32} (hd : decode cc pc = .ok (.aaload, 1)) (hk : h key = some (.inl (.object C, n, .inr (.inr f)))) (hin : vp_in i n)
    (k : kw_G l D cc own ret nm R A K ad h cells slots (pc + 1) lv (.inr (.inr (f i.toNatClampNeg)) :: st)) : kw_G l D cc own ret nm R A K ad h cells slots pc lv (pi_ i :: pr_ key :: st) := by
  intro p e s m args below meth c H locs ls E hH hA hS hB hl
  obtain ⟨cA, h1, h2, h3⟩ := hH.2.1 key _ hk
  have hlt : i.toNatClampNeg < n := Nat.not_le.mp fun q => hin (Or.inr q)
  exact W.aald (v := kw_v ad (.inr (.inr (f i.toNatClampNeg)))) (ty := .object C) E.1 E.2.1 h1 (h2 n (fun j => va_rf ((f j).map ad))) rfl (fun q => by cases q) (by show ¬ (i < 0 ∨ (arrV _ _ _).slots.size ≤ _); rw [arrV_size]; exact hin) (by show (arrV _ _ _).slots[_]? = _; rw [arrV_read _ _ hlt, kw_rf]) rfl rfl hd (k p e s m args below meth c H locs ls E hH hA hS hB hl)
theorem kw_alen {key : KK} {a : FieldType × Nat × PX} (hd : decode cc pc = .ok (.arraylength, 1)) (hk : h key = some (.inl a))
    (k : kw_G l D cc own ret nm R A K ad h cells slots (pc + 1) lv (pi_ (nI a.2.1) :: st)) : kw_G l D cc own ret nm R A K ad h cells slots pc lv (pr_ key :: st) := by
  intro p e s m args below meth c H locs ls E hH hA hS hB hl
  obtain ⟨cA, h1, h2, h3⟩ := hH.2.1 key _ hk
  refine va_alen (D := D) (cl := vwCl) (tys := [(cA, a.1)]) (ws := [(ad key, .inl (cA, a.2.1, kw_x ad a.2.2))]) E.1 E.2.1 ⟨hH.1.1, fun i q hq => ?_⟩ (fun i q hq => ?_) 0 0 rfl rfl rfl hd (k p e s m args below meth c H locs ls E hH hA hS hB hl)
  · have hz : i = 0 := by have := (List.getElem?_eq_some_iff.mp hq).1; simp at this; exact this
    subst hz
    cases hq
    exact ⟨h2, h3⟩
  · have hz : i = 0 := by have := (List.getElem?_eq_some_iff.mp hq).1; simp at this; exact this
    subst hz
    cases hq
    exact h1
/-! arrays: writes -/
theorem kw_iast {key : KK} {n : Nat} {f : Nat → Int32} {i x : Int32} (hd : decode cc pc = .ok (.iastore, 1)) (hk : h key = some (.inl (.int, n, .inl f))) (hin : vp_in i n)
    (k : kw_G l D cc own ret nm R A K ad (kw_up h key (.inl (.int, n, .inl (upd f i.toNatClampNeg x)))) cells slots (pc + 1) lv st) : kw_G l D cc own ret nm R A K ad h cells slots pc lv (pi_ x :: pi_ i :: pr_ key :: st) := by
  intro p e s m args below meth c H locs ls E hH hA hS hB hl
  obtain ⟨cA, h1, h2, h3⟩ := hH.2.1 key _ hk
  refine W.iast E.1 E.2.1 h1 (h2 n (fun j => .int (f j))) (fun q => by cases q) (by show ¬ (i < 0 ∨ (arrV _ _ _).slots.size ≤ _); rw [arrV_size]; exact hin) rfl rfl hd fun H1 e0 z oq => ?_
  refine k p e s m args below meth c H1 _ ls E (hH.set hk ⟨cA, ?_, h2, h3⟩ oq) (kw_hA hk hA) (hS.put z oq (hA _ (kw_al hk))) hB hl
  show H1[ad key]? = some (vp_cell _ _)
  rw [e0]
  show some (Cell.setSlot (vp_cell cA (n, .inl f)) _ _) = some (vp_cell cA (n, .inl (upd f i.toNatClampNeg x)))
  rw [vp_cell_i, vp_cell_i, arrV_store]
  congr 2
  funext q
  by_cases hq : q = i.toNatClampNeg
  · subst hq
    simp [updV, upd]
  · simp [updV, upd, hq]
theorem kw_zast {key : KK} {n : Nat} {f : Nat → Int32} {i x : Int32} (hd : decode cc pc = .ok (.bastore, 1)) (hk : h key = some (.inl (.boolean, n, .inl f))) (hin : vp_in i n) (hx : x = 0 ∨ x = 1)
    (k : kw_G l D cc own ret nm R A K ad (kw_up h key (.inl (.boolean, n, .inl (upd f i.toNatClampNeg x)))) cells slots (pc + 1) lv st) : kw_G l D cc own ret nm R A K ad h cells slots pc lv (pi_ x :: pi_ i :: pr_ key :: st) := by
  intro p e s m args below meth c H locs ls E hH hA hS hB hl
  obtain ⟨cA, h1, h2, h3⟩ := hH.2.1 key _ hk
  have hnx : narrow .boolean (.int x) = .int x := by rcases hx with rfl | rfl <;> decide
  refine W.zast E.1 E.2.1 h1 (h2 n (fun j => .int (f j))) (fun q => by cases q) (by show ¬ (i < 0 ∨ (arrV _ _ _).slots.size ≤ _); rw [arrV_size]; exact hin) rfl rfl hd fun H1 e0 z oq => ?_
  refine k p e s m args below meth c H1 _ ls E (hH.set hk ⟨cA, ?_, h2, h3⟩ oq) (kw_hA hk hA) (hS.put z oq (hA _ (kw_al hk))) hB hl
  show H1[ad key]? = some (vp_cell _ _)
  rw [e0, hnx]
  show some (Cell.setSlot (vp_cell cA (n, .inl f)) _ _) = some (vp_cell cA (n, .inl (upd f i.toNatClampNeg x)))
  rw [vp_cell_i, vp_cell_i, arrV_store]
  congr 2
  funext q
  by_cases hq : q = i.toNatClampNeg
  · subst hq
    simp [updV, upd]
  · simp [updV, upd, hq]
theorem kw_last {key : KK} {n : Nat} {f : Nat → Int64} {i : Int32} {x : Int64} (hd : decode cc pc = .ok (.lastore, 1)) (hk : h key = some (.inl (.long, n, .inr (.inl f)))) (hin : vp_in i n)
    (k : kw_G l D cc own ret nm R A K ad (kw_up h key (.inl (.long, n, .inr (.inl (vp_updL f i.toNatClampNeg x))))) cells slots (pc + 1) lv st) : kw_G l D cc own ret nm R A K ad h cells slots pc lv (pl_ x :: pi_ i :: pr_ key :: st) := by
  intro p e s m args below meth c H locs ls E hH hA hS hB hl
  obtain ⟨cA, h1, h2, h3⟩ := hH.2.1 key _ hk
  refine W.last E.1 E.2.1 h1 (h2 n (fun j => .long (f j))) (fun q => by cases q) (by show ¬ (i < 0 ∨ (arrV _ _ _).slots.size ≤ _); rw [arrV_size]; exact hin) rfl rfl hd fun H1 e0 z oq => ?_
  refine k p e s m args below meth c H1 _ ls E (hH.set hk ⟨cA, ?_, h2, h3⟩ oq) (kw_hA hk hA) (hS.put z oq (hA _ (kw_al hk))) hB hl
  show H1[ad key]? = some (vp_cell _ _)
  rw [e0]
  show some (Cell.setSlot (vp_cell cA (n, .inr (.inl f))) _ _) = some (vp_cell cA (n, .inr (.inl (vp_updL f i.toNatClampNeg x))))
  rw [vp_cell_l, vp_cell_l, arrV_store]
  congr 2
  funext q
  by_cases hq : q = i.toNatClampNeg
  · subst hq
    simp [updV, vp_updL]
  · simp [updV, vp_updL, hq]
theorem kw_aast {key kv : KK} {n ci : Nat} {r : vw_C} {f : Nat → Option KK} {fs : List PV} {i : Int32} (hd : decode cc pc = .ok (.aastore, 1)) (hc : vwCl[ci]? = some r) (hk : h key = some (.inl (.object r.1, n, .inr (.inr f)))) (hv : h kv = some (.inr (ci, fs))) (hin : vp_in i n)
    (k : kw_G l D cc own ret nm R A K ad (kw_up h key (.inl (.object r.1, n, .inr (.inr (va_up f i.toNatClampNeg (some kv)))))) cells slots (pc + 1) lv st) : kw_G l D cc own ret nm R A K ad h cells slots pc lv (pr_ kv :: pi_ i :: pr_ key :: st) := by
  intro p e s m args below meth c H locs ls E hH hA hS hB hl
  obtain ⟨cA, h1, h2, h3⟩ := hH.2.1 key _ hk
  have hlt : i.toNatClampNeg < n := Nat.not_le.mp fun q => hin (Or.inr q)
  have h0 : ¬ i < 0 := fun q => hin (Or.inl q)
  obtain ⟨r', hr', cellV, g1, g2, g3, -⟩ := hH.2.1 kv _ hv
  have hcls := (hH.1.1 ci r hc).2
  obtain ⟨kA, comp, k1, k2, k3, -⟩ := id h3
  have hcomp : comp = D.1 ci := Option.some.inj (k3.symm.trans hcls.1)
  subst hcomp
  obtain ⟨kC, hkC, -⟩ := hcls.2
  refine W.aast E.1 E.2.1 h1 (fun q h => by cases h) (fun h => by cases h) k1 k2 rfl hkC ⟨h0, by show _ < (arrV _ _ _).slots.size; rw [arrV_size]; exact hlt⟩ g1 (fun q h => by rw [g3] at h; cases h) (by rw [g2]; exact hkC) (by rw [g2]; exact va_assign hcls) rfl rfl hd fun H1 e0 z oq => ?_
  refine k p e s m args below meth c H1 _ ls E (hH.set hk ⟨cA, ?_, h2, h3⟩ oq) (kw_hA hk hA) (hS.put z oq (hA _ (kw_al hk))) hB hl
  show H1[ad key]? = some (vp_cell _ _)
  rw [e0]
  show some (Cell.setSlot (vp_cell cA (n, .inr (.inr (.inr (.inr (fun j => (f j).map ad)))))) _ _) = some (vp_cell cA (n, .inr (.inr (.inr (.inr (fun j => (va_up f i.toNatClampNeg (some kv) j).map ad))))))
  rw [vp_cell_q, vp_cell_q, arrV_store]
  congr 2
  funext q
  by_cases hq : q = i.toNatClampNeg
  · subst hq
    simp [updV, va_up, va_rf]
  · simp [updV, va_up, hq]
end KwHeap
end
section
/-! CONTRACTS AND CALLS -/
def kw_A (ad : KK → Nat) (h : PH) (sz : Nat) : Nat → Prop := fun q => (∃ k, h k ≠ none ∧ q = ad k) ∨ sz ≤ q
/-- method y's contract at the arguments As over the world h: K of the keys' places before, of the answer, of the places and of the world behind it -/
def kw_M (l : Launch) (y : MethodName) (cc : ByteArray) (nL : Nat) (ret : Option FieldType) (R : Room) (As : List PV) (h : PH) (K : (KK → Nat) → Option PV → (KK → Nat) → PH → Prop) : Prop :=
  ∀ (D : va_G) (ad : KK → Nat) (sz : Nat), Met l y (.code y cc nL ret :: kw_tbl) R (va_Pc (As.map (kw_v ad)) (fun U => U.heap.size = sz ∧ kw_H D U U.heap ad h ∧ kw_N U)) (kw_Qc D (K ad) (kw_A ad h sz)) R.cells R.slots (kw_A ad h sz)
/-- no new cells: the answer and the world are such -/
abbrev kw_P (l : Launch) (y : MethodName) (cc : ByteArray) (nL : Nat) (ret : Option FieldType) (R : Room) (As : List PV) (h : PH) (P : Option PV → PH → Prop) : Prop :=
  kw_M l y cc nL ret R As h (fun ad r ad' h' => ad' = ad ∧ P r h')
/-- no new cells: just this answer and this world -/
abbrev kw_F (l : Launch) (y : MethodName) (cc : ByteArray) (nL : Nat) (ret : Option FieldType) (R : Room) (As : List PV) (h : PH) (r0 : Option PV) (h0 : PH) : Prop :=
  kw_P l y cc nL ret R As h (fun r h' => r = r0 ∧ h' = h0)
/-- with new cells: the old ones stay where they lie -/
abbrev kw_Q (l : Launch) (y : MethodName) (cc : ByteArray) (nL : Nat) (ret : Option FieldType) (R : Room) (As : List PV) (h : PH) (P : Option PV → PH → Prop) : Prop :=
  kw_M l y cc nL ret R As h (fun ad r ad' h' => (∀ k, h k ≠ none → ad' k = ad k) ∧ P r h')
theorem kw_ent_args (ad : KK → Nat) : ∀ (As : List PV) (i0 j : Nat) (v : PV), (kw_ent As)[j]? = some (some v) → (i0 + j, kw_v ad v) ∈ lv_args i0 (As.map (kw_v ad))
  | [], i0, j, v, h => by simp [kw_ent] at h
  | a :: t, i0, j, v, h => by
    simp only [kw_ent] at h
    simp only [List.map_cons, lv_args, kw_cat_v]
    by_cases hc : kw_cat a = 2
    · rw [if_pos hc] at h
      rw [if_pos hc]
      match j, h with
      | 0, h =>
        simp only [List.getElem?_cons_zero, Option.some.injEq] at h
        subst h
        exact List.mem_cons_self
      | 1, h => simp at h
      | j + 2, h =>
        simp only [List.getElem?_cons_succ] at h
        have := kw_ent_args ad t (i0 + 2) j v h
        rw [show i0 + (j + 2) = i0 + 2 + j by omega]
        exact List.mem_cons_of_mem _ this
    · rw [if_neg hc] at h
      rw [if_neg hc]
      match j, h with
      | 0, h =>
        simp only [List.getElem?_cons_zero, Option.some.injEq] at h
        subst h
        exact List.mem_cons_self
      | j + 1, h =>
        simp only [List.getElem?_cons_succ] at h
        have := kw_ent_args ad t (i0 + 1) j v h
        rw [show i0 + (j + 1) = i0 + 1 + j by omega]
        exact List.mem_cons_of_mem _ this
theorem kw_ent_len (ad : KK → Nat) : ∀ As : List PV, (lg_sl (As.map (kw_v ad))).length = (kw_ent As).length
  | [] => rfl
  | a :: t => by
    have ih := kw_ent_len ad t
    simp only [lg_sl, List.map_cons, List.flatMap_cons, List.length_append, kw_cat_v, kw_ent] at ih ⊢
    by_cases hc : kw_cat a = 2
    · simp [hc, ih]; omega
    · simp [hc, ih]; omega
theorem kw_M_of {l : Launch} {y : MethodName} {cc : ByteArray} {nL : Nat} {ret : Option FieldType} {R : Room} {As : List PV} {h : PH} {K : (KK → Nat) → Option PV → (KK → Nat) → PH → Prop} (own nm : String) (lv : List (Option PV)) (hy : plainName y.cls = true) (ho : y.cls = own) (hn : y.name = nm)
    (hlv : kw_ent As ++ List.replicate (nL - (kw_ent As).length) none = lv) (hle : (kw_ent As).length ≤ nL)
    (k : ∀ (D : va_G) (ad : KK → Nat) (A : Nat → Prop), kw_G l D cc own ret nm R A (K ad) ad h 0 0 0 lv []) : kw_M l y cc nL ret R As h K := by
  intro D ad sz
  refine Met.ofW (cc := cc) (maxL := nL) (ret := ret) hy rfl ?_
  intro p e s m args below meth c s₁ B hml hv
  obtain ⟨rfl, hsz, hH, hN⟩ := hv
  subst hsz
  have hts := atoms_spec (ws := .code y cc nL ret :: kw_tbl) B.pre
  have hlen : lv.length = nL := by rw [← hlv]; simp; omega
  have hle' : (lg_sl (As.map (kw_v ad))).length ≤ nL := by rw [kw_ent_len]; exact hle
  have hl := lv_entry (As.map (kw_v ad)) (n := nL) hle'
  rw [lg_entry_eq]
  refine k D ad (kw_A ad h s.heap.size) p e s m _ below meth c s.heap [] _ ⟨B.exec, B.bytes, hml.trans hlen.symm, by rw [← ho]; exact findClass_of_methodNamed B.named, fun w hw => hts w (List.mem_cons_of_mem _ hw), B.returns, B.notSynchronized, by rw [← hn]; exact (name_of_methodNamed B.named B.method).1, hN⟩ hH (fun k hk => Or.inl ⟨k, hk, rfl⟩) va_S.rf (fun q hq => Or.inr hq) ⟨hl.1.trans hlen.symm, hl.2.1, fun i v hi => ?_⟩
  have hi2 : (kw_ent As)[i]? = some (some v) := by
    rw [← hlv] at hi
    by_cases hlt : i < (kw_ent As).length
    · rw [List.getElem?_append_left hlt] at hi
      exact hi
    · rw [List.getElem?_append_right (by omega)] at hi
      have := List.eq_of_mem_replicate (List.mem_of_getElem? hi)
      cases this
  have := kw_ent_args ad As 0 i v hi2
  rw [Nat.zero_add] at this
  exact hl.2.2 _ this
/-- weaker ends -/
theorem kw_M.imp {l : Launch} {y : MethodName} {cc : ByteArray} {nL : Nat} {ret : Option FieldType} {R : Room} {As : List PV} {h : PH} {P P' : Option PV → PH → Prop} (hM : kw_P l y cc nL ret R As h P) (hp : ∀ r h', P r h' → P' r h') : kw_P l y cc nL ret R As h P' := by
  intro D ad sz p e ha hc hk s m args below hf happ hpc ht
  obtain ⟨t, o, a1, a2, a3, ⟨⟨r, ad', h', b1, ⟨b2, b3⟩, b4⟩, b5⟩, b6⟩ := hM D ad sz p e ha hc hk s m args below hf happ hpc ht
  exact ⟨t, o, a1, a2, a3, ⟨⟨r, ad', h', b1, ⟨b2, hp r h' b3⟩, b4⟩, b5⟩, b6⟩
section KwAfter
variable {p : Program} {l : Launch} {e : Env} {R : Room} {s : State} {m : MethodId} {args : Array Value} {below : List Frame} {meth : Method} {c : Code} {H : Heap} {locs : List Loc} {cells slots : Nat} {Q : State → Prop}
variable {pc : Nat} {ls : Array Slot} {rest st0 : List Value} {a : Array Value} {A0 A1 : Nat → Prop} {H0 : Heap} {mc ms : Nat} {D : va_G} {K1 : Option PV → (KK → Nat) → PH → Prop}
theorem kw_after (hr : va_Run p l e R s m args below meth c H locs cells slots mc ms (F0 m pc ls st0) rest (kw_Qc D K1 A1 a) A1) (hS : va_S A0 H0 H locs) (hA : ∀ q, A1 q → A0 q)
    (kk : ∀ (r : Option PV) (ad1 : KK → Nat) (h1 : PH) (H1 : Heap) (locs1 : List Loc), K1 r ad1 h1 → kw_H D s H1 ad1 h1 → (∀ k, h1 k ≠ none → A0 (ad1 k)) → H.size ≤ H1.size → va_S A0 H0 H1 locs1 → W p l e R s m args below meth c H1 locs1 (cells + mc) (slots + ms) Q (F0 m (pc + 3) ls ((r.map (kw_v ad1)).toList ++ rest))) : W p l e R s m args below meth c H locs cells slots Q (F0 m pc ls st0) := by
  intro T hT X
  obtain ⟨v, st₀, t, T', L, h0, X', hL, e1, e2, ⟨⟨r, ad1, h1, hv, hp, hb, hin⟩, hz, hk⟩, st⟩ := hr T hT X
  cases hv
  rw [h0] at hz hk
  have hal : s.vm.Alike t.vm := by rw [← e2]; exact X'.warmed.alike
  obtain ⟨t2, a1, b1⟩ := kk r ad1 h1 T'.heap (locs ++ L) hp (by rw [e1]; exact hb.moved hal.symm) (fun k hk => hA _ (hin k hk)) (by rw [e1]; exact hz)
    ⟨Nat.le_trans hS.1 (by rw [e1]; exact hz), fun q h1 h2 => by rw [e1, hk q (Nat.lt_of_lt_of_le h1 hS.1) (fun z => h2 (hA q z))]; exact hS.2.1 q h1 h2, fun q hq => by
      rcases List.mem_append.mp hq with h | h
      · exact hS.2.2 q h
      · exact hA _ (hL q h)⟩ T' rfl X'
  exact ⟨t2, st t2 a1, b1⟩
end KwAfter
/-- the tables' words of a call -/
def kw_CB (y : MethodName) (cc : ByteArray) (nL : Nat) (ret : Option FieldType) (n : Nat) : Prop :=
  Cond.initialized y.cls ∈ kw_tbl ∧ Cond.code y cc nL ret ∈ kw_tbl ∧ y.cls ≠ "java/lang/invoke/MethodHandle" ∧ y.cls ≠ "java/lang/invoke/VarHandle" ∧ (parseMethodDescriptor y.desc).map (fun d => d.parameters.length) = some n
def kw_CV (own : String) (idx : Nat) (y : MethodName) (cc : ByteArray) (nL : Nat) (ret : Option FieldType) (n : Nat) : Prop :=
  kw_CB y cc nL ret n ∧ Cond.methodLink own idx y ∈ kw_tbl ∧ Cond.instanceMethod y ∈ kw_tbl ∧ Cond.selects y.cls y y ∈ kw_tbl
def kw_CS (own : String) (idx : Nat) (y : MethodName) (cc : ByteArray) (nL : Nat) (ret : Option FieldType) (n : Nat) : Prop :=
  kw_CB y cc nL ret n ∧ Cond.methodLink own idx y ∈ kw_tbl ∧ Cond.static y ∈ kw_tbl
def kw_CI (own : String) (idx : Nat) (y : MethodName) (cc : ByteArray) (nL : Nat) (n : Nat) : Prop :=
  kw_CB y cc nL none n ∧ Cond.methodLink own idx y ∈ kw_tbl ∧ Cond.instanceMethod y ∈ kw_tbl ∧ y.name = "<init>"
def kw_CIN (own : String) (idx : Nat) (y : MethodName) (cc : ByteArray) (nL : Nat) (n : Nat) (host : String) : Prop :=
  kw_CB y cc nL none n ∧ (own, idx, y, host) ∈ kw_nests ∧ Cond.instanceMethod y ∈ kw_tbl ∧ y.name = "<init>"
theorem kw_goodIn {y : MethodName} {cc : ByteArray} {nL : Nat} {ret : Option FieldType} (h : Cond.code y cc nL ret ∈ kw_tbl) : GoodIn kw_tbl (Cond.code y cc nL ret :: kw_tbl) := by
  intro w hw
  have hw2 : w ∈ kw_tbl := by
    rcases List.mem_cons.mp hw with rfl | q
    · exact h
    · exact q
  exact ⟨hw2, good_of_word (List.mem_filter.mp hw2).2⟩
/-- which room a callee has -/
def kw_Rm (R R2 : Room) (nL cells slots : Nat) : Prop := R2.frames + 1 ≤ R.frames ∧ 8 + (nL + 11) + R2.locals ≤ R.locals ∧ cells + R2.cells ≤ R.cells ∧ slots + R2.slots ≤ R.slots
section KwCalls
variable {l : Launch} {D : va_G} {cc : ByteArray} {own : String} {ret : Option FieldType} {nm : String} {R : Room} {A : Nat → Prop} {K : Option PV → (KK → Nat) → PH → Prop} {ad : KK → Nat} {h : PH} {cells slots pc : Nat} {lv : List (Option PV)} {st : List PV}
theorem kw_Ain {s : State} {H : Heap} {locs : List Loc} (hA : ∀ k, h k ≠ none → A (ad k)) (hS : va_S A s.heap H locs) (hB : ∀ q, s.heap.size ≤ q → A q) : ∀ q, kw_A ad h H.size q → A q := by
  rintro q (⟨k, hk, rfl⟩ | hq)
  · exact hA k hk
  · exact hB q (Nat.le_trans hS.1 hq)
theorem kw_blind {D : va_G} {ad : KK → Nat} {h : PH} {sz : Nat} {av : List Value} : FrameBlind (va_Pc av (fun U => U.heap.size = sz ∧ kw_H D U U.heap ad h ∧ kw_N U)) :=
  fun a U g mk q => ⟨q.1, q.2.1, kw_H.moved (u := U) (U := U.calling g mk a) (Vm.Alike.refl _) q.2.2.1, q.2.2.2.warm (State.WarmedH.refl U)⟩
theorem kw_catsum (ad : KK → Nat) (rest : List PV) : ((rest.map (kw_v ad)).map fun v => v.category).sum = (rest.map kw_cat).sum := by
  rw [List.map_map]
  congr 1
  exact List.map_congr_left (fun v _ => kw_cat_v ad v)
theorem kw_runV {idx n nL2 : Nat} {y : MethodName} {cc2 : ByteArray} {ret2 : Option FieldType} {R2 : Room} {As rest : List PV} {key : KK} {K2 : (KK → Nat) → Option PV → (KK → Nat) → PH → Prop} (hM : kw_M l y cc2 nL2 ret2 R2 (pr_ key :: As) h K2) (hd : decode cc pc = .ok (.invokevirtual idx, 3)) (hC : kw_CV own idx y cc2 nL2 ret2 n)
    {ci N : Nat} {T : u_T} {fs : List PV} (hk : h key = some (.inr (ci, fs))) (hcl : vwCl[ci]? = some (y.cls, T, N)) (hn : As.length = n) (hst : st = As.reverse ++ pr_ key :: rest) (hrest : (rest.map kw_cat).sum ≤ 8) (hR : kw_Rm R R2 nL2 cells slots)
    {p : Program} {e : Env} {s : State} {m : MethodId} {args : Array Value} {below : List Frame} {meth : Method} {c : Code} {H : Heap} {locs : List Loc} {ls : Array Slot} (E : kw_Env cc lv.length own ret nm p s m args meth c) (hH : kw_H D s H ad h) (hl : kw_L ad ls lv) :
    va_Run p l e R s m args below meth c H locs cells slots R2.cells R2.slots (F0 m pc ls (st.map (kw_v ad))) (rest.map (kw_v ad)) (kw_Qc D (K2 ad) (kw_A ad h H.size) (Value.ref (ad key) :: As.map (kw_v ad)).toArray) (kw_A ad h H.size) := by
  obtain ⟨⟨c1, c2, c3, c4, c5⟩, c6, c7, c8⟩ := hC
  have hts := E.2.2.2.2.1
  obtain ⟨r, h1, cell, q1, q2, q3, -⟩ := hH.2.1 key _ hk
  refine va_runV (Ts := kw_tbl) (C := y.cls) (bytes := cc2) (maxL := nL2) (ret := ret2) (n := n) (As := As.map (kw_v ad)) (b := ad key) ⟨E.1, E.2.1, E.2.2.1, E.2.2.2.1, hts⟩ (hM D ad H.size) ⟨callB_of n hts (kw_goodIn c2) rfl rfl rfl (hts _ c1) (hts _ c6) ⟨c3, c4, c5⟩ ⟨hR.1, hR.2.1⟩, hts _ c7, hts _ c8⟩ ⟨kw_blind, ⟨cell, q1, by rw [q3]; rfl, ?_⟩, fun U hU hW => ⟨rfl, by rw [hU], by rw [hU]; exact hH.moved hW.alike, E.2.2.2.2.2.2.2.2.warm hW⟩⟩ rfl (by rw [List.length_map]; exact hn) hl.1 (by rw [hst]; simp [List.map_reverse]; rfl) (lv_room (by rw [kw_catsum]; exact hrest)) hd ⟨hR.2.2.1, hR.2.2.2⟩
  rw [q2]
  exact (hH.1.1 ci _ hcl).2.1
theorem kw_runS {idx n nL2 : Nat} {y : MethodName} {cc2 : ByteArray} {ret2 : Option FieldType} {R2 : Room} {As rest : List PV} {K2 : (KK → Nat) → Option PV → (KK → Nat) → PH → Prop} (hM : kw_M l y cc2 nL2 ret2 R2 As h K2) (hd : decode cc pc = .ok (.invokestatic idx, 3)) (hC : kw_CS own idx y cc2 nL2 ret2 n)
    (hn : As.length = n) (hst : st = As.reverse ++ rest) (hrest : (rest.map kw_cat).sum ≤ 8) (hR : kw_Rm R R2 nL2 cells slots)
    {p : Program} {e : Env} {s : State} {m : MethodId} {args : Array Value} {below : List Frame} {meth : Method} {c : Code} {H : Heap} {locs : List Loc} {ls : Array Slot} (E : kw_Env cc lv.length own ret nm p s m args meth c) (hH : kw_H D s H ad h) (hl : kw_L ad ls lv) :
    va_Run p l e R s m args below meth c H locs cells slots R2.cells R2.slots (F0 m pc ls (st.map (kw_v ad))) (rest.map (kw_v ad)) (kw_Qc D (K2 ad) (kw_A ad h H.size) (As.map (kw_v ad)).toArray) (kw_A ad h H.size) := by
  obtain ⟨⟨c1, c2, c3, c4, c5⟩, c6, c7⟩ := hC
  have hts := E.2.2.2.2.1
  exact va_runS (Ts := kw_tbl) (bytes := cc2) (maxL := nL2) (ret := ret2) (n := n) (As := As.map (kw_v ad)) ⟨E.1, E.2.1, E.2.2.1, E.2.2.2.1, hts⟩ (hM D ad H.size) ⟨callB_of n hts (kw_goodIn c2) rfl rfl rfl (hts _ c1) (hts _ c6) ⟨c3, c4, c5⟩ ⟨hR.1, hR.2.1⟩, hts _ c7⟩ ⟨kw_blind, fun U hU hW => ⟨rfl, by rw [hU], by rw [hU]; exact hH.moved hW.alike, E.2.2.2.2.2.2.2.2.warm hW⟩⟩ rfl (by rw [List.length_map]; exact hn) hl.1 (by rw [hst]; simp [List.map_reverse]) (lv_room (by rw [kw_catsum]; exact hrest)) hd ⟨hR.2.2.1, hR.2.2.2⟩
theorem kw_runI {idx n nL2 : Nat} {y : MethodName} {cc2 : ByteArray} {R2 : Room} {As rest : List PV} {key : KK} {K2 : (KK → Nat) → Option PV → (KK → Nat) → PH → Prop} (hM : kw_M l y cc2 nL2 none R2 (pr_ key :: As) h K2) (hd : decode cc pc = .ok (.invokespecial idx, 3)) (hC : kw_CI own idx y cc2 nL2 n)
    (hn : As.length = n) (hst : st = As.reverse ++ pr_ key :: rest) (hrest : (rest.map kw_cat).sum ≤ 8) (hR : kw_Rm R R2 nL2 cells slots)
    {p : Program} {e : Env} {s : State} {m : MethodId} {args : Array Value} {below : List Frame} {meth : Method} {c : Code} {H : Heap} {locs : List Loc} {ls : Array Slot} (E : kw_Env cc lv.length own ret nm p s m args meth c) (hH : kw_H D s H ad h) (hl : kw_L ad ls lv) :
    va_Run p l e R s m args below meth c H locs cells slots R2.cells R2.slots (F0 m pc ls (st.map (kw_v ad))) (rest.map (kw_v ad)) (kw_Qc D (K2 ad) (kw_A ad h H.size) (Value.ref (ad key) :: As.map (kw_v ad)).toArray) (kw_A ad h H.size) := by
  obtain ⟨⟨c1, c2, c3, c4, c5⟩, c6, c7, c8⟩ := hC
  have hts := E.2.2.2.2.1
  exact va_runI (Ts := kw_tbl) (bytes := cc2) (maxL := nL2) (n := n) (As := As.map (kw_v ad)) (b := ad key) ⟨E.1, E.2.1, E.2.2.1, E.2.2.2.1, hts⟩ (hM D ad H.size) ⟨callB_of n hts (kw_goodIn c2) rfl rfl rfl (hts _ c1) (hts _ c6) ⟨c3, c4, c5⟩ ⟨hR.1, hR.2.1⟩, c8, hts _ c7⟩ ⟨kw_blind, fun U hU hW => ⟨rfl, by rw [hU], by rw [hU]; exact hH.moved hW.alike, E.2.2.2.2.2.2.2.2.warm hW⟩⟩ rfl (by rw [List.length_map]; exact hn) hl.1 (by rw [hst]; simp [List.map_reverse]; rfl) (lv_room (by rw [kw_catsum]; exact hrest)) hd ⟨hR.2.2.1, hR.2.2.2⟩
theorem kw_runIN {idx n nL2 : Nat} {y : MethodName} {cc2 : ByteArray} {R2 : Room} {As rest : List PV} {key : KK} {host : String} {K2 : (KK → Nat) → Option PV → (KK → Nat) → PH → Prop} (hM : kw_M l y cc2 nL2 none R2 (pr_ key :: As) h K2) (hd : decode cc pc = .ok (.invokespecial idx, 3)) (hC : kw_CIN own idx y cc2 nL2 n host)
    (hn : As.length = n) (hst : st = As.reverse ++ pr_ key :: rest) (hrest : (rest.map kw_cat).sum ≤ 8) (hR : kw_Rm R R2 nL2 cells slots)
    {p : Program} {e : Env} {s : State} {m : MethodId} {args : Array Value} {below : List Frame} {meth : Method} {c : Code} {H : Heap} {locs : List Loc} {ls : Array Slot} (E : kw_Env cc lv.length own ret nm p s m args meth c) (hH : kw_H D s H ad h) (hl : kw_L ad ls lv) :
    va_Run p l e R s m args below meth c H locs cells slots R2.cells R2.slots (F0 m pc ls (st.map (kw_v ad))) (rest.map (kw_v ad)) (kw_Qc D (K2 ad) (kw_A ad h H.size) (Value.ref (ad key) :: As.map (kw_v ad)).toArray) (kw_A ad h H.size) := by
  obtain ⟨⟨c1, c2, c3, c4, c5⟩, c6, c7, c8⟩ := hC
  have hts := E.2.2.2.2.1
  exact va_runIN (Ts := kw_tbl) (bytes := cc2) (maxL := nL2) (n := n) (As := As.map (kw_v ad)) (b := ad key) ⟨E.1, E.2.1, E.2.2.1, E.2.2.2.1, hts⟩ (hM D ad H.size) ⟨va_cnB n hts (kw_goodIn c2) rfl rfl rfl (E.2.2.2.2.2.2.2.2.1 _ c6) (hts _ c1) ⟨c3, c4, c5⟩ ⟨hR.1, hR.2.1⟩, c8, hts _ c7⟩ ⟨kw_blind, fun U hU hW => ⟨rfl, by rw [hU], by rw [hU]; exact hH.moved hW.alike, E.2.2.2.2.2.2.2.2.warm hW⟩⟩ rfl (by rw [List.length_map]; exact hn) hl.1 (by rw [hst]; simp [List.map_reverse]; rfl) (lv_room (by rw [kw_catsum]; exact hrest)) hd ⟨hR.2.2.1, hR.2.2.2⟩
end KwCalls
end
section
/-! CALLS IN THE JUDGEMENT; NEW CELLS -/
def kw_alv (h : PH) (v : PV) : Prop := match v with
  | .inr (.inr (some k)) => h k ≠ none
  | _ => True
def kw_alo (h : PH) (v : Option PV) : Prop := match v with
  | some w => kw_alv h w
  | none => True
def kw_all {α : Type} (p : α → Prop) : List α → Prop
  | [] => True
  | a :: t => p a ∧ kw_all p t
theorem kw_all_get {α : Type} {p : α → Prop} : ∀ {l : List α} {i : Nat} {a : α}, kw_all p l → l[i]? = some a → p a
  | [], i, a, _, h => by simp at h
  | b :: t, 0, a, q, h => by simp at h; subst h; exact q.1
  | b :: t, i + 1, a, q, h => by simp at h; exact kw_all_get q.2 h
theorem kw_v_eq {ad ad' : KK → Nat} {h : PH} (he : ∀ k, h k ≠ none → ad' k = ad k) {v : PV} (hv : kw_alv h v) : kw_v ad' v = kw_v ad v := by
  rcases v with x | x | x
  · rfl
  · rfl
  · cases x with
    | none => rfl
    | some k => exact congrArg Value.ref (he k hv)
theorem kw_L.re {ad ad' : KK → Nat} {h : PH} (he : ∀ k, h k ≠ none → ad' k = ad k) {ls : Array Slot} {lv : List (Option PV)} (hv : kw_all (kw_alo h) lv) (x : kw_L ad ls lv) : kw_L ad' ls lv :=
  ⟨x.1, x.2.1, fun i v hi => by rw [kw_v_eq he (kw_all_get (p := kw_alo h) hv hi)]; exact x.2.2 i v hi⟩
theorem kw_map_re {ad ad' : KK → Nat} {h : PH} (he : ∀ k, h k ≠ none → ad' k = ad k) : ∀ {st : List PV}, kw_all (kw_alv h) st → st.map (kw_v ad') = st.map (kw_v ad)
  | [], _ => rfl
  | v :: t, q => by simp only [List.map_cons]; rw [kw_v_eq he q.1, kw_map_re he q.2]
section KwGlue
variable {l : Launch} {D : va_G} {cc : ByteArray} {own : String} {ret : Option FieldType} {nm : String} {R : Room} {A : Nat → Prop} {K : Option PV → (KK → Nat) → PH → Prop} {ad : KK → Nat} {h : PH} {cells slots pc : Nat} {lv : List (Option PV)} {st : List PV}
theorem kw_toList (ad : KK → Nat) (r : Option PV) (rest : List PV) : (r.map (kw_v ad)).toList ++ rest.map (kw_v ad) = (r.toList ++ rest).map (kw_v ad) := by cases r <;> rfl
theorem kw_callV {idx n nL2 : Nat} {y : MethodName} {cc2 : ByteArray} {ret2 : Option FieldType} {R2 : Room} {As rest : List PV} {key : KK} {P : Option PV → PH → Prop} (hM : kw_P l y cc2 nL2 ret2 R2 (pr_ key :: As) h P) (hd : decode cc pc = .ok (.invokevirtual idx, 3)) (hC : kw_CV own idx y cc2 nL2 ret2 n)
    {ci N : Nat} {T : u_T} {fs : List PV} (hk : h key = some (.inr (ci, fs))) (hcl : vwCl[ci]? = some (y.cls, T, N)) (hn : As.length = n) (hst : st = As.reverse ++ pr_ key :: rest) (hrest : (rest.map kw_cat).sum ≤ 8) (hR : kw_Rm R R2 nL2 cells slots)
    (k : ∀ (r : Option PV) (h' : PH), P r h' → kw_G l D cc own ret nm R A K ad h' (cells + R2.cells) (slots + R2.slots) (pc + 3) lv (r.toList ++ rest)) : kw_G l D cc own ret nm R A K ad h cells slots pc lv st := by
  intro p e s m args below meth c H locs ls E hH hA hS hB hl
  refine kw_after (kw_runV hM hd hC hk hcl hn hst hrest hR E hH hl) hS (kw_Ain hA hS hB) fun r ad1 h1 H1 locs1 hp hH1 hA1 hz hS1 => ?_
  obtain ⟨rfl, hp⟩ := hp
  rw [kw_toList]
  exact k r h1 hp p e s m args below meth c H1 locs1 ls E hH1 hA1 hS1 hB hl
theorem kw_callVf {idx n nL2 : Nat} {y : MethodName} {cc2 : ByteArray} {ret2 : Option FieldType} {R2 : Room} {As rest : List PV} {key : KK} {r0 : Option PV} {h0 : PH} (hM : kw_F l y cc2 nL2 ret2 R2 (pr_ key :: As) h r0 h0) (hd : decode cc pc = .ok (.invokevirtual idx, 3)) (hC : kw_CV own idx y cc2 nL2 ret2 n)
    {ci N : Nat} {T : u_T} {fs : List PV} (hk : h key = some (.inr (ci, fs))) (hcl : vwCl[ci]? = some (y.cls, T, N)) (hn : As.length = n) (hst : st = As.reverse ++ pr_ key :: rest) (hrest : (rest.map kw_cat).sum ≤ 8) (hR : kw_Rm R R2 nL2 cells slots)
    (k : kw_G l D cc own ret nm R A K ad h0 (cells + R2.cells) (slots + R2.slots) (pc + 3) lv (r0.toList ++ rest)) : kw_G l D cc own ret nm R A K ad h cells slots pc lv st :=
  kw_callV hM hd hC hk hcl hn hst hrest hR fun r h' q => by obtain ⟨rfl, rfl⟩ := q; exact k
theorem kw_callS {idx n nL2 : Nat} {y : MethodName} {cc2 : ByteArray} {ret2 : Option FieldType} {R2 : Room} {As rest : List PV} {P : Option PV → PH → Prop} (hM : kw_P l y cc2 nL2 ret2 R2 As h P) (hd : decode cc pc = .ok (.invokestatic idx, 3)) (hC : kw_CS own idx y cc2 nL2 ret2 n)
    (hn : As.length = n) (hst : st = As.reverse ++ rest) (hrest : (rest.map kw_cat).sum ≤ 8) (hR : kw_Rm R R2 nL2 cells slots)
    (k : ∀ (r : Option PV) (h' : PH), P r h' → kw_G l D cc own ret nm R A K ad h' (cells + R2.cells) (slots + R2.slots) (pc + 3) lv (r.toList ++ rest)) : kw_G l D cc own ret nm R A K ad h cells slots pc lv st := by
  intro p e s m args below meth c H locs ls E hH hA hS hB hl
  refine kw_after (kw_runS hM hd hC hn hst hrest hR E hH hl) hS (kw_Ain hA hS hB) fun r ad1 h1 H1 locs1 hp hH1 hA1 hz hS1 => ?_
  obtain ⟨rfl, hp⟩ := hp
  rw [kw_toList]
  exact k r h1 hp p e s m args below meth c H1 locs1 ls E hH1 hA1 hS1 hB hl
theorem kw_callSf {idx n nL2 : Nat} {y : MethodName} {cc2 : ByteArray} {ret2 : Option FieldType} {R2 : Room} {As rest : List PV} {r0 : Option PV} {h0 : PH} (hM : kw_F l y cc2 nL2 ret2 R2 As h r0 h0) (hd : decode cc pc = .ok (.invokestatic idx, 3)) (hC : kw_CS own idx y cc2 nL2 ret2 n)
    (hn : As.length = n) (hst : st = As.reverse ++ rest) (hrest : (rest.map kw_cat).sum ≤ 8) (hR : kw_Rm R R2 nL2 cells slots)
    (k : kw_G l D cc own ret nm R A K ad h0 (cells + R2.cells) (slots + R2.slots) (pc + 3) lv (r0.toList ++ rest)) : kw_G l D cc own ret nm R A K ad h cells slots pc lv st :=
  kw_callS hM hd hC hn hst hrest hR fun r h' q => by obtain ⟨rfl, rfl⟩ := q; exact k
/-- calls that make cells: the frame's own keys are there, and stay -/
theorem kw_callVq {idx n nL2 : Nat} {y : MethodName} {cc2 : ByteArray} {ret2 : Option FieldType} {R2 : Room} {As rest : List PV} {key : KK} {P : Option PV → PH → Prop} (hM : kw_Q l y cc2 nL2 ret2 R2 (pr_ key :: As) h P) (hd : decode cc pc = .ok (.invokevirtual idx, 3)) (hC : kw_CV own idx y cc2 nL2 ret2 n)
    {ci N : Nat} {T : u_T} {fs : List PV} (hk : h key = some (.inr (ci, fs))) (hcl : vwCl[ci]? = some (y.cls, T, N)) (hn : As.length = n) (hst : st = As.reverse ++ pr_ key :: rest) (hrest : (rest.map kw_cat).sum ≤ 8) (hR : kw_Rm R R2 nL2 cells slots) (hv : kw_all (kw_alo h) lv) (hv2 : kw_all (kw_alv h) rest)
    (k : ∀ (r : Option PV) (ad' : KK → Nat) (h' : PH), (∀ k, h k ≠ none → ad' k = ad k) → P r h' → kw_G l D cc own ret nm R A K ad' h' (cells + R2.cells) (slots + R2.slots) (pc + 3) lv (r.toList ++ rest)) : kw_G l D cc own ret nm R A K ad h cells slots pc lv st := by
  intro p e s m args below meth c H locs ls E hH hA hS hB hl
  refine kw_after (kw_runV hM hd hC hk hcl hn hst hrest hR E hH hl) hS (kw_Ain hA hS hB) fun r ad1 h1 H1 locs1 hp hH1 hA1 hz hS1 => ?_
  obtain ⟨he, hp⟩ := hp
  rw [← kw_map_re he hv2, kw_toList]
  exact k r ad1 h1 he hp p e s m args below meth c H1 locs1 ls E hH1 hA1 hS1 hB (hl.re he hv)
theorem kw_callSq {idx n nL2 : Nat} {y : MethodName} {cc2 : ByteArray} {ret2 : Option FieldType} {R2 : Room} {As rest : List PV} {P : Option PV → PH → Prop} (hM : kw_Q l y cc2 nL2 ret2 R2 As h P) (hd : decode cc pc = .ok (.invokestatic idx, 3)) (hC : kw_CS own idx y cc2 nL2 ret2 n)
    (hn : As.length = n) (hst : st = As.reverse ++ rest) (hrest : (rest.map kw_cat).sum ≤ 8) (hR : kw_Rm R R2 nL2 cells slots) (hv : kw_all (kw_alo h) lv) (hv2 : kw_all (kw_alv h) rest)
    (k : ∀ (r : Option PV) (ad' : KK → Nat) (h' : PH), (∀ k, h k ≠ none → ad' k = ad k) → P r h' → kw_G l D cc own ret nm R A K ad' h' (cells + R2.cells) (slots + R2.slots) (pc + 3) lv (r.toList ++ rest)) : kw_G l D cc own ret nm R A K ad h cells slots pc lv st := by
  intro p e s m args below meth c H locs ls E hH hA hS hB hl
  refine kw_after (kw_runS hM hd hC hn hst hrest hR E hH hl) hS (kw_Ain hA hS hB) fun r ad1 h1 H1 locs1 hp hH1 hA1 hz hS1 => ?_
  obtain ⟨he, hp⟩ := hp
  rw [← kw_map_re he hv2, kw_toList]
  exact k r ad1 h1 he hp p e s m args below meth c H1 locs1 ls E hH1 hA1 hS1 hB (hl.re he hv)
theorem kw_callIq {idx n nL2 : Nat} {y : MethodName} {cc2 : ByteArray} {R2 : Room} {As rest : List PV} {key : KK} {P : Option PV → PH → Prop} (hM : kw_Q l y cc2 nL2 none R2 (pr_ key :: As) h P) (hd : decode cc pc = .ok (.invokespecial idx, 3)) (hC : kw_CI own idx y cc2 nL2 n)
    (hn : As.length = n) (hst : st = As.reverse ++ pr_ key :: rest) (hrest : (rest.map kw_cat).sum ≤ 8) (hR : kw_Rm R R2 nL2 cells slots) (hv : kw_all (kw_alo h) lv) (hv2 : kw_all (kw_alv h) rest)
    (k : ∀ (r : Option PV) (ad' : KK → Nat) (h' : PH), (∀ k, h k ≠ none → ad' k = ad k) → P r h' → kw_G l D cc own ret nm R A K ad' h' (cells + R2.cells) (slots + R2.slots) (pc + 3) lv (r.toList ++ rest)) : kw_G l D cc own ret nm R A K ad h cells slots pc lv st := by
  intro p e s m args below meth c H locs ls E hH hA hS hB hl
  refine kw_after (kw_runI hM hd hC hn hst hrest hR E hH hl) hS (kw_Ain hA hS hB) fun r ad1 h1 H1 locs1 hp hH1 hA1 hz hS1 => ?_
  obtain ⟨he, hp⟩ := hp
  rw [← kw_map_re he hv2, kw_toList]
  exact k r ad1 h1 he hp p e s m args below meth c H1 locs1 ls E hH1 hA1 hS1 hB (hl.re he hv)
theorem kw_callINq {idx n nL2 : Nat} {y : MethodName} {cc2 : ByteArray} {R2 : Room} {As rest : List PV} {key : KK} {host : String} {P : Option PV → PH → Prop} (hM : kw_Q l y cc2 nL2 none R2 (pr_ key :: As) h P) (hd : decode cc pc = .ok (.invokespecial idx, 3)) (hC : kw_CIN own idx y cc2 nL2 n host)
    (hn : As.length = n) (hst : st = As.reverse ++ pr_ key :: rest) (hrest : (rest.map kw_cat).sum ≤ 8) (hR : kw_Rm R R2 nL2 cells slots) (hv : kw_all (kw_alo h) lv) (hv2 : kw_all (kw_alv h) rest)
    (k : ∀ (r : Option PV) (ad' : KK → Nat) (h' : PH), (∀ k, h k ≠ none → ad' k = ad k) → P r h' → kw_G l D cc own ret nm R A K ad' h' (cells + R2.cells) (slots + R2.slots) (pc + 3) lv (r.toList ++ rest)) : kw_G l D cc own ret nm R A K ad h cells slots pc lv st := by
  intro p e s m args below meth c H locs ls E hH hA hS hB hl
  refine kw_after (kw_runIN hM hd hC hn hst hrest hR E hH hl) hS (kw_Ain hA hS hB) fun r ad1 h1 H1 locs1 hp hH1 hA1 hz hS1 => ?_
  obtain ⟨he, hp⟩ := hp
  rw [← kw_map_re he hv2, kw_toList]
  exact k r ad1 h1 he hp p e s m args below meth c H1 locs1 ls E hH1 hA1 hS1 hB (hl.re he hv)
/-- Object's own constructor -/
theorem kw_objInit {idx : Nat} {x : KK} (hd : decode cc pc = .ok (.invokespecial idx, 3)) (h1 : Cond.methodLink own idx Lib.objectInit ∈ kw_tbl) (h2 : Cond.instanceMethod Lib.objectInit ∈ kw_tbl) (h3 : Cond.code Lib.objectInit ⟨#[0xb1]⟩ 1 none ∈ kw_tbl) (hf : 1 ≤ R.frames) (hlo : (st.map kw_cat).sum + 12 ≤ R.locals)
    (k : kw_G l D cc own ret nm R A K ad h cells slots (pc + 3) lv st) : kw_G l D cc own ret nm R A K ad h cells slots pc lv (pr_ x :: st) := by
  intro p e s m args below meth c H locs ls E hH hA hS hB hl
  refine W.objInit E.1 E.2.1 E.2.2.2.1 (E.2.2.2.2.1 _ h1) (E.2.2.2.2.1 _ h2) (E.2.2.2.2.1 _ h3) rfl (hl.1.trans E.2.2.1.symm) rfl hd hf ?_ (k p e s m args below meth c H locs ls E hH hA hS hB hl)
  have := kw_catsum ad st
  have hm : (F0 m pc ls (kw_v ad (pr_ x) :: st.map (kw_v ad))).monitorRoom = 0 := rfl
  show 2 * (F0 m pc ls (kw_v ad (pr_ x) :: st.map (kw_v ad))).monitorRoom + _ + 12 ≤ R.locals
  rw [hm, this]
  omega
/-- a new cell under a key that nothing names -/
def kw_nmv (k : KK) (v : PV) : Prop := match v with
  | .inr (.inr (some k')) => k' ≠ k
  | _ => True
def kw_nmc (k : KK) (c : PC) : Prop := match c with
  | .inl (_, n, .inr (.inr f)) => ∀ j, j < n → f j ≠ some k
  | .inl _ => True
  | .inr (_, fs) => ∀ v ∈ fs, kw_nmv k v
def kw_ad (ad : KK → Nat) (k : KK) (a : Nat) : KK → Nat := fun k' => if k' = k then a else ad k'
theorem kw_ad_s (ad : KK → Nat) (k : KK) (a : Nat) : kw_ad ad k a k = a := by simp [kw_ad]
theorem kw_ad_n (ad : KK → Nat) {k k' : KK} (a : Nat) (hn : k' ≠ k) : kw_ad ad k a k' = ad k' := by simp [kw_ad, hn]
theorem kw_v_ad {ad : KK → Nat} {k : KK} {a : Nat} {v : PV} (hv : kw_nmv k v) : kw_v (kw_ad ad k a) v = kw_v ad v := by
  rcases v with x | x | x
  · rfl
  · rfl
  · cases x with
    | none => rfl
    | some k' => exact congrArg Value.ref (kw_ad_n ad a hv)
theorem kw_at.adn {D : va_G} {U : State} {H : Heap} {ad : KK → Nat} {k k' : KK} {a : Nat} {c : PC} (hn : k' ≠ k) (hc : kw_nmc k c) (x : kw_at D U H ad k' c) : kw_at D U H (kw_ad ad k a) k' c := by
  match c, hc, x with
  | .inr (ci, fs), hc, x =>
    have e : fs.map (kw_v (kw_ad ad k a)) = fs.map (kw_v ad) := List.map_congr_left (fun v hv => kw_v_ad (hc v hv))
    show va_at D vwCl (kw_ad ad k a k', .inr (ci, fs.map (kw_v (kw_ad ad k a)))) H
    rw [e, kw_ad_n ad a hn]
    exact x
  | .inl (ty, n, .inl f), _, x =>
    obtain ⟨cA, h1, h2⟩ := x
    refine ⟨cA, ?_, h2⟩
    rw [kw_ad_n ad a hn]
    exact h1
  | .inl (ty, n, .inr (.inl f)), _, x =>
    obtain ⟨cA, h1, h2⟩ := x
    refine ⟨cA, ?_, h2⟩
    rw [kw_ad_n ad a hn]
    exact h1
  | .inl (ty, n, .inr (.inr f)), hc, x =>
    obtain ⟨cA, h1, h2⟩ := x
    refine ⟨cA, ?_, h2⟩
    rw [kw_ad_n ad a hn]
    show H[ad k']? = some (vp_cell cA (n, .inr (.inr (.inr (.inr (fun j => (f j).map (kw_ad ad k a)))))))
    have h1 : H[ad k']? = some (vp_cell cA (n, .inr (.inr (.inr (.inr (fun j => (f j).map ad)))))) := h1
    rw [h1, vp_cell_q, vp_cell_q]
    congr 1
    unfold arrV
    congr 1
    apply Array.ext
    · simp
    · intro j hj hj2
      simp only [Array.getElem_ofFn]
      have hjn : j < n := by simpa using hj
      congr 1
      cases hf : f j with
      | none => rfl
      | some q =>
        have hq : q ≠ k := fun z => hc j hjn (by rw [hf, z])
        show some (ad q) = some (kw_ad ad k a q)
        rw [kw_ad_n ad a hq]
theorem kw_H.new {D : va_G} {U : State} {H H1 : Heap} {ad : KK → Nat} {h : PH} {k : KK} {c : PC} (x : kw_H D U H ad h) (hk : h k = none) (hnm : ∀ k' c', h k' = some c' → kw_nmc k c') (ho : ∀ q : Nat, q < H.size → H1[q]? = H[q]?) (hc : kw_at D U H1 (kw_ad ad k H.size) k c) : kw_H D U H1 (kw_ad ad k H.size) (kw_up h k c) := by
  refine ⟨x.1, fun k' c' h' => ?_, fun k1 k2 h1 h2 he => ?_⟩
  · by_cases e : k' = k
    · subst e
      rw [kw_up_s] at h'
      cases h'
      exact hc
    · rw [kw_up_n _ _ e] at h'
      have := x.2.1 k' c' h'
      exact ((this.adn e (hnm k' c' h')).kept (by rw [kw_ad_n ad _ e]; exact ho _ this.lt))
  · by_cases e1 : k1 = k <;> by_cases e2 : k2 = k
    · rw [e1, e2]
    · exfalso
      rw [kw_up_n _ _ e2] at h2
      rw [e1, kw_ad_s, kw_ad_n ad _ e2] at he
      cases hq : h k2 with
      | none => exact h2 hq
      | some c2 => have := (x.2.1 k2 c2 hq).lt; omega
    · exfalso
      rw [kw_up_n _ _ e1] at h1
      rw [e2, kw_ad_s, kw_ad_n ad _ e1] at he
      cases hq : h k1 with
      | none => exact h1 hq
      | some c2 => have := (x.2.1 k1 c2 hq).lt; omega
    · rw [kw_up_n _ _ e1] at h1
      rw [kw_up_n _ _ e2] at h2
      rw [kw_ad_n ad _ e1, kw_ad_n ad _ e2] at he
      exact x.2.2 k1 k2 h1 h2 he
def kw_nmo (k : KK) (v : Option PV) : Prop := match v with
  | some w => kw_nmv k w
  | none => True
theorem kw_L.adn {ad : KK → Nat} {k : KK} {a : Nat} {ls : Array Slot} {lv : List (Option PV)} (hv : kw_all (kw_nmo k) lv) (x : kw_L ad ls lv) : kw_L (kw_ad ad k a) ls lv :=
  ⟨x.1, x.2.1, fun i v hi => by rw [kw_v_ad (kw_all_get (p := kw_nmo k) hv hi)]; exact x.2.2 i v hi⟩
theorem kw_map_ad {ad : KK → Nat} {k : KK} {a : Nat} : ∀ {st : List PV}, kw_all (kw_nmv k) st → st.map (kw_v (kw_ad ad k a)) = st.map (kw_v ad)
  | [], _ => rfl
  | v :: t, q => by simp only [List.map_cons]; rw [kw_v_ad q.1, kw_map_ad q.2]
theorem kw_hAn {A : Nat → Prop} {ad : KK → Nat} {h : PH} {k : KK} {c : PC} {a : Nat} (ha : A a) (hA : ∀ k, h k ≠ none → A (ad k)) : ∀ k', kw_up h k c k' ≠ none → A (kw_ad ad k a k') := by
  intro k' h1
  by_cases e : k' = k
  · subst e; rw [kw_ad_s]; exact ha
  · rw [kw_up_n _ _ e] at h1; rw [kw_ad_n ad _ e]; exact hA _ h1
theorem kw_new {idx ci N : Nat} {C : String} {T : u_T} {ty : Nat → FieldType} (key : KK) {fs : List PV} (hd : decode cc pc = .ok (.new idx, 3)) (hcd : kw_CD ci C T N ty) (hcl : Cond.classLink own idx C ∈ kw_tbl) (hins : Cond.instantiable C N ∈ kw_tbl) (hini : Cond.initialized C ∈ kw_tbl) (hfs : ∀ (ad : KK → Nat) (j : Nat), j < N → defaultValue (ty j) = vp_V (fs.map (kw_v ad)) j)
    (hk : h key = none) (hnm : ∀ k' c', h k' = some c' → kw_nmc key c') (hlv : kw_all (kw_nmo key) lv) (hst : kw_all (kw_nmv key) st) (hcells : cells + 1 ≤ R.cells) (hslots : slots + N ≤ R.slots)
    (k : ∀ a : Nat, kw_G l D cc own ret nm R A K (kw_ad ad key a) (kw_up h key (.inr (ci, fs))) (cells + 1) (slots + N) (pc + 3) lv (pr_ key :: st)) : kw_G l D cc own ret nm R A K ad h cells slots pc lv st := by
  intro p e s m args below meth c H locs ls E hH hA hS hB hl
  obtain ⟨hc, hin, hty, -, -⟩ := hcd
  have hts := E.2.2.2.2.1
  have hKn := hH.1.1 ci _ hc
  refine W.newcK E.1 E.2.1 E.2.2.2.1 (hts _ hcl) (hts _ hins) (hts _ hini) rfl hd hcells hslots hKn.2.1 rfl fun H1 kC hkC e1 z1 o1 => ?_
  have hb := (u_born ty hts hin hKn hkC e1 hty).to (hfs (kw_ad ad key H.size))
  have hw := k H.size p e s m args below meth c H1 locs ls E (hH.new hk hnm o1 ⟨_, hc, by rw [kw_ad_s]; exact hb⟩) (kw_hAn (hB _ hS.1) hA) ⟨Nat.le_trans hS.1 (by omega), fun x h1 h2 => (o1 x (Nat.lt_of_lt_of_le h1 hS.1)).trans (hS.2.1 x h1 h2), hS.2.2⟩ hB (hl.adn hlv)
  simp only [List.map_cons, kw_map_ad hst] at hw
  have e3 : kw_v (kw_ad ad key H.size) (pr_ key) = .ref H.size := congrArg Value.ref (kw_ad_s ad key H.size)
  rw [e3] at hw
  exact hw
/-- an array of numbers; kinds: .int, .long, .boolean -/
theorem kw_newarr {atype : ArrayType} {ty : FieldType} {n : Int32} {N : Nat} {x : PX} (key : KK) (hd : decode cc pc = .ok (.newarray atype, 2)) (hty : newarray.typeOf atype = ty) (hac : Cond.arrayClass ty ∈ kw_tbl) (hx : ∀ (ad : KK → Nat) (cA : ClassId), vp_cell cA (N, kw_x ad x) = arrV cA N (fun _ => defaultValue ty)) (hn : ¬ n < 0) (hN : n.toNatClampNeg = N) (hb : N * componentBytes ty ≤ 536870912) (hra : ∀ (U : State) (cA : ClassId), U.vm.findClass ("[" ++ ty.toString) = some cA → va_RA U cA ty)
    (hk : h key = none) (hnm : ∀ k' c', h k' = some c' → kw_nmc key c') (hlv : kw_all (kw_nmo key) lv) (hst : kw_all (kw_nmv key) st) (hcells : cells + 1 ≤ R.cells) (hslots : slots + N ≤ R.slots)
    (k : ∀ a : Nat, kw_G l D cc own ret nm R A K (kw_ad ad key a) (kw_up h key (.inl (ty, N, x))) (cells + 1) (slots + N) (pc + 2) lv (pr_ key :: st)) : kw_G l D cc own ret nm R A K ad h cells slots pc lv (pi_ n :: st) := by
  intro p e s m args below meth c H locs ls E hH hA hS hB hl
  subst hty
  refine va_newaK E.1 E.2.1 (E.2.2.2.2.1 _ hac) rfl hd rfl hn hN hb hcells hslots rfl fun H1 cA e1 z1 o1 hAr hNm => ?_
  have hw := k H.size p e s m args below meth c H1 locs ls E (hH.new hk hnm o1 ⟨cA, by rw [kw_ad_s]; show H1[H.size]? = some (vp_cell _ _); rw [hx]; exact e1, hAr, hra s cA hNm⟩) (kw_hAn (hB _ hS.1) hA) ⟨Nat.le_trans hS.1 (by omega), fun x h1 h2 => (o1 x (Nat.lt_of_lt_of_le h1 hS.1)).trans (hS.2.1 x h1 h2), hS.2.2⟩ hB (hl.adn hlv)
  simp only [List.map_cons, kw_map_ad hst] at hw
  have e3 : kw_v (kw_ad ad key H.size) (pr_ key) = .ref H.size := congrArg Value.ref (kw_ad_s ad key H.size)
  rw [e3] at hw
  exact hw
/-- an array of objects -/
theorem kw_anew {idx : Nat} {C : String} {n : Int32} {N : Nat} (key : KK) (hd : decode cc pc = .ok (.anewarray idx, 3)) (hcl : Cond.classLink own idx C ∈ kw_tbl) (hov : C ∈ kw_overs) (hn : ¬ n < 0) (hN : n.toNatClampNeg = N) (hb : N * 4 ≤ 536870912)
    (hk : h key = none) (hnm : ∀ k' c', h k' = some c' → kw_nmc key c') (hlv : kw_all (kw_nmo key) lv) (hst : kw_all (kw_nmv key) st) (hcells : cells + 1 ≤ R.cells) (hslots : slots + N ≤ R.slots)
    (k : ∀ a : Nat, kw_G l D cc own ret nm R A K (kw_ad ad key a) (kw_up h key (.inl (.object C, N, .inr (.inr (fun _ => none))))) (cells + 1) (slots + N) (pc + 3) lv (pr_ key :: st)) : kw_G l D cc own ret nm R A K ad h cells slots pc lv (pi_ n :: st) := by
  intro p e s m args below meth c H locs ls E hH hA hS hB hl
  subst hN
  refine W.anew E.1 E.2.1 E.2.2.2.1 (E.2.2.2.2.1 _ hcl) (va_AO.use (E.2.2.2.2.2.2.2.2.2 C hov)) rfl hd rfl hn hb hcells hslots fun cA kA comp f1 f2 f3 f4 => ?_
  generalize hH1 : H.push ({ cls := cA, slots := Array.replicate n.toNatClampNeg .null, vm := .none } : Cell) = H1
  have z1 : H1.size = H.size + 1 := by rw [← hH1, Array.size_push]
  have e1 : H1[H.size]? = some (arrV cA n.toNatClampNeg (fun _ => .null)) := by rw [← hH1, Array.getElem?_push_size, ← arrV_new]
  have o1 : ∀ q : Nat, q < H.size → H1[q]? = H[q]? := fun q hq => by rw [← hH1, Array.getElem?_push, if_neg (Nat.ne_of_lt hq)]
  have hAr : ArrOfT s cA (.object C) := fun N z => ⟨(fun k h => by cases h), kA, f2, comp, f3⟩
  have hw := k H.size p e s m args below meth c H1 locs ls E (hH.new hk hnm o1 ⟨cA, by rw [kw_ad_s]; exact e1, hAr, kA, comp, f2, f3, f4, f1⟩) (kw_hAn (hB _ hS.1) hA) ⟨Nat.le_trans hS.1 (by omega), fun x h1 h2 => (o1 x (Nat.lt_of_lt_of_le h1 hS.1)).trans (hS.2.1 x h1 h2), hS.2.2⟩ hB (hl.adn hlv)
  simp only [List.map_cons, kw_map_ad hst] at hw
  have e3 : kw_v (kw_ad ad key H.size) (pr_ key) = .ref H.size := congrArg Value.ref (kw_ad_s ad key H.size)
  rw [e3] at hw
  exact hw
end KwGlue
end
section
theorem kts_1 {w : Cond} {i : Nat} (hi : tables_1_1[i]? = some w) (hg : goodWord w = true) : w ∈ kw_tbl := List.mem_filter.mpr ⟨List.mem_append_right _ (have h := List.mem_of_getElem? hi; List.mem_append_left _ h), hg⟩
theorem kts_2 {w : Cond} {i : Nat} (hi : tables_1_2[i]? = some w) (hg : goodWord w = true) : w ∈ kw_tbl := List.mem_filter.mpr ⟨List.mem_append_right _ (have h := List.mem_of_getElem? hi; List.mem_append_right _ (List.mem_append_left _ h)), hg⟩
theorem kts_3 {w : Cond} {i : Nat} (hi : tables_1_3[i]? = some w) (hg : goodWord w = true) : w ∈ kw_tbl := List.mem_filter.mpr ⟨List.mem_append_right _ (have h := List.mem_of_getElem? hi; List.mem_append_right _ (List.mem_append_right _ (List.mem_append_left _ h))), hg⟩
theorem kts_4 {w : Cond} {i : Nat} (hi : tables_1_4[i]? = some w) (hg : goodWord w = true) : w ∈ kw_tbl := List.mem_filter.mpr ⟨List.mem_append_right _ (have h := List.mem_of_getElem? hi; List.mem_append_right _ (List.mem_append_right _ (List.mem_append_right _ (List.mem_append_left _ h)))), hg⟩
theorem kts_5 {w : Cond} {i : Nat} (hi : tables_1_5[i]? = some w) (hg : goodWord w = true) : w ∈ kw_tbl := List.mem_filter.mpr ⟨List.mem_append_right _ (have h := List.mem_of_getElem? hi; List.mem_append_right _ (List.mem_append_right _ (List.mem_append_right _ (List.mem_append_right _ (List.mem_append_left _ h))))), hg⟩
theorem kts_6 {w : Cond} {i : Nat} (hi : tables_1_6[i]? = some w) (hg : goodWord w = true) : w ∈ kw_tbl := List.mem_filter.mpr ⟨List.mem_append_right _ (have h := List.mem_of_getElem? hi; List.mem_append_right _ (List.mem_append_right _ (List.mem_append_right _ (List.mem_append_right _ (List.mem_append_right _ (h)))))), hg⟩
set_option maxRecDepth 100000 in
theorem kt_0 : (Jvm.Cond.initialized "SafeSweepsLaw") ∈ kw_tbl := kts_1 (i := 0) rfl rfl
set_option maxRecDepth 100000 in
theorem kt_1 : (Jvm.Cond.initialized "SafeSweeps") ∈ kw_tbl := kts_1 (i := 1) rfl rfl
set_option maxRecDepth 100000 in
theorem kt_2 : (Jvm.Cond.initialized "SafeSweeps$Journal") ∈ kw_tbl := kts_1 (i := 2) rfl rfl
set_option maxRecDepth 100000 in
theorem kt_3 : (Jvm.Cond.initialized "SafeSweeps$Store") ∈ kw_tbl := kts_1 (i := 3) rfl rfl
set_option maxRecDepth 100000 in
theorem kt_4 : (Jvm.Cond.initialized "java/lang/Math") ∈ kw_tbl := kts_1 (i := 4) rfl rfl
set_option maxRecDepth 100000 in
theorem kt_5 : (Jvm.Cond.initialized "SafeSweeps$Sweep") ∈ kw_tbl := kts_1 (i := 5) rfl rfl
set_option maxRecDepth 100000 in
theorem kt_6 : (Jvm.Cond.initialized "SafeSweeps$Mover") ∈ kw_tbl := kts_1 (i := 6) rfl rfl
set_option maxRecDepth 100000 in
theorem kt_7 : (Jvm.Cond.initialized "SafeSweeps$Rules") ∈ kw_tbl := kts_1 (i := 7) rfl rfl
set_option maxRecDepth 100000 in
theorem kt_8 : (Jvm.Cond.initialized "SafeSweeps$Saver") ∈ kw_tbl := kts_1 (i := 8) rfl rfl
set_option maxRecDepth 100000 in
theorem kt_9 : (Jvm.Cond.initialized "SafeSweeps$Mirror") ∈ kw_tbl := kts_1 (i := 9) rfl rfl
set_option maxRecDepth 100000 in
theorem kt_10 : (Jvm.Cond.initialized "SafeSweepsModel") ∈ kw_tbl := kts_1 (i := 10) rfl rfl
set_option maxRecDepth 100000 in
theorem kt_11 : (Jvm.Cond.initialized "java/util/Arrays") ∈ kw_tbl := kts_1 (i := 11) rfl rfl
set_option maxRecDepth 100000 in
theorem kt_12 : (Jvm.Cond.initialized "java/lang/System") ∈ kw_tbl := kts_1 (i := 12) rfl rfl
set_option maxRecDepth 100000 in
theorem kt_13 : (Jvm.Cond.initialized "SafeSweeps$Block") ∈ kw_tbl := kts_1 (i := 13) rfl rfl
set_option maxRecDepth 100000 in
theorem kt_14 : (Jvm.Cond.initialized "SafeSweeps$Pack") ∈ kw_tbl := kts_1 (i := 14) rfl rfl
set_option maxRecDepth 100000 in
theorem kt_15 : (Jvm.Cond.initialized "SafeSweeps$Snapshot") ∈ kw_tbl := kts_1 (i := 15) rfl rfl
set_option maxRecDepth 100000 in
theorem kt_16 : (Jvm.Cond.initialized "SafeSweeps$Calendar") ∈ kw_tbl := kts_1 (i := 16) rfl rfl
set_option maxRecDepth 100000 in
theorem kt_17 : (Jvm.Cond.classLink "SafeSweepsLaw" (7 : Nat) "SafeSweeps") ∈ kw_tbl := kts_1 (i := 17) rfl rfl
set_option maxRecDepth 100000 in
theorem kt_18 : (Jvm.Cond.instantiable "SafeSweeps" (10 : Nat)) ∈ kw_tbl := kts_1 (i := 18) rfl rfl
set_option maxRecDepth 100000 in
theorem kt_19 : (Jvm.Cond.methodLink "SafeSweepsLaw" (15 : Nat) ({ cls := "SafeSweeps", name := "<init>", desc := "(I)V" } : Jvm.MethodName)) ∈ kw_tbl := kts_1 (i := 19) rfl rfl
set_option maxRecDepth 100000 in
theorem kt_20 : (Jvm.Cond.instanceMethod ({ cls := "SafeSweeps", name := "<init>", desc := "(I)V" } : Jvm.MethodName)) ∈ kw_tbl := kts_1 (i := 20) rfl rfl
set_option maxRecDepth 100000 in
theorem kt_21 : (Jvm.Cond.code ({ cls := "SafeSweeps", name := "<init>", desc := "(I)V" } : Jvm.MethodName) prog_1_method_1_code (3 : Nat) (Option.none : Option Jvm.ClassFile.FieldType)) ∈ kw_tbl := kts_1 (i := 21) rfl rfl
set_option maxRecDepth 100000 in
theorem kt_22 : (Jvm.Cond.methodLink "SafeSweeps" (1 : Nat) ({ cls := "java/lang/Object", name := "<init>", desc := "()V" } : Jvm.MethodName)) ∈ kw_tbl := kts_1 (i := 22) rfl rfl
set_option maxRecDepth 100000 in
theorem kt_23 : (Jvm.Cond.instanceMethod ({ cls := "java/lang/Object", name := "<init>", desc := "()V" } : Jvm.MethodName)) ∈ kw_tbl := kts_1 (i := 23) rfl rfl
set_option maxRecDepth 100000 in
theorem kt_24 : (Jvm.Cond.code ({ cls := "java/lang/Object", name := "<init>", desc := "()V" } : Jvm.MethodName) object_method_1_code (1 : Nat) (Option.none : Option Jvm.ClassFile.FieldType)) ∈ kw_tbl := kts_1 (i := 24) rfl rfl
set_option maxRecDepth 100000 in
theorem kt_25 : (Jvm.Cond.classLink "SafeSweeps" (7 : Nat) "SafeSweeps$Journal") ∈ kw_tbl := kts_1 (i := 25) rfl rfl
set_option maxRecDepth 100000 in
theorem kt_26 : (Jvm.Cond.instantiable "SafeSweeps$Journal" (6 : Nat)) ∈ kw_tbl := kts_1 (i := 26) rfl rfl
set_option maxRecDepth 100000 in
theorem kt_28 : (Jvm.Cond.instanceMethod ({ cls := "SafeSweeps$Journal", name := "<init>", desc := "()V" } : Jvm.MethodName)) ∈ kw_tbl := kts_1 (i := 28) rfl rfl
set_option maxRecDepth 100000 in
theorem kt_29 : (Jvm.Cond.code ({ cls := "SafeSweeps$Journal", name := "<init>", desc := "()V" } : Jvm.MethodName) prog_4_method_1_code (1 : Nat) (Option.none : Option Jvm.ClassFile.FieldType)) ∈ kw_tbl := kts_1 (i := 29) rfl rfl
set_option maxRecDepth 100000 in
theorem kt_30 : (Jvm.Cond.methodLink "SafeSweeps$Journal" (3 : Nat) ({ cls := "java/lang/Object", name := "<init>", desc := "()V" } : Jvm.MethodName)) ∈ kw_tbl := kts_1 (i := 30) rfl rfl
set_option maxRecDepth 100000 in
theorem kt_31 : (Jvm.Cond.fieldLink "SafeSweeps$Journal" (11 : Nat) "SafeSweeps$Journal" "events" "[I") ∈ kw_tbl := kts_1 (i := 31) rfl rfl
set_option maxRecDepth 100000 in
theorem kt_32 : (Jvm.Cond.fieldLink "SafeSweeps$Mirror" (33 : Nat) "SafeSweeps$Journal" "events" "[I") ∈ kw_tbl := kts_1 (i := 32) rfl rfl
set_option maxRecDepth 100000 in
theorem kt_33 : (Jvm.Cond.fieldLink "SafeSweeps$Journal" (15 : Nat) "SafeSweeps$Journal" "numbers" "[I") ∈ kw_tbl := kts_1 (i := 33) rfl rfl
set_option maxRecDepth 100000 in
theorem kt_34 : (Jvm.Cond.fieldLink "SafeSweeps$Mirror" (37 : Nat) "SafeSweeps$Journal" "numbers" "[I") ∈ kw_tbl := kts_1 (i := 34) rfl rfl
set_option maxRecDepth 100000 in
theorem kt_35 : (Jvm.Cond.fieldLink "SafeSweeps$Mirror" (18 : Nat) "SafeSweeps$Journal" "length" "I") ∈ kw_tbl := kts_1 (i := 35) rfl rfl
set_option maxRecDepth 100000 in
theorem kt_36 : (Jvm.Cond.fieldLink "SafeSweeps$Journal" (33 : Nat) "SafeSweeps$Journal" "length" "I") ∈ kw_tbl := kts_1 (i := 36) rfl rfl
set_option maxRecDepth 100000 in
theorem kt_37 : (Jvm.Cond.fieldLink "SafeSweeps" (268 : Nat) "SafeSweeps$Journal" "length" "I") ∈ kw_tbl := kts_1 (i := 37) rfl rfl
set_option maxRecDepth 100000 in
theorem kt_38 : (Jvm.Cond.fieldLink "SafeSweeps$Journal" (26 : Nat) "SafeSweeps$Journal" "writes" "I") ∈ kw_tbl := kts_1 (i := 38) rfl rfl
set_option maxRecDepth 100000 in
theorem kt_39 : (Jvm.Cond.fieldLink "SafeSweeps" (289 : Nat) "SafeSweeps$Journal" "writes" "I") ∈ kw_tbl := kts_1 (i := 39) rfl rfl
set_option maxRecDepth 100000 in
theorem kt_40 : (Jvm.Cond.fieldLink "SafeSweeps$Journal" (18 : Nat) "SafeSweeps$Journal" "writesLeft" "I") ∈ kw_tbl := kts_1 (i := 40) rfl rfl
set_option maxRecDepth 100000 in
theorem kt_41 : (Jvm.Cond.fieldLink "SafeSweeps" (258 : Nat) "SafeSweeps$Journal" "writesLeft" "I") ∈ kw_tbl := kts_1 (i := 41) rfl rfl
set_option maxRecDepth 100000 in
theorem kt_42 : (Jvm.Cond.fieldLink "SafeSweeps" (80 : Nat) "SafeSweeps$Journal" "down" "Z") ∈ kw_tbl := kts_1 (i := 42) rfl rfl
set_option maxRecDepth 100000 in
theorem kt_43 : (Jvm.Cond.fieldLink "SafeSweeps$Journal" (22 : Nat) "SafeSweeps$Journal" "down" "Z") ∈ kw_tbl := kts_1 (i := 43) rfl rfl
set_option maxRecDepth 100000 in
theorem kt_44 : (Jvm.Cond.laysFinal "SafeSweeps$Journal" "SafeSweeps$Journal" "events" "[I") ∈ kw_tbl := kts_1 (i := 44) rfl rfl
set_option maxRecDepth 100000 in
theorem kt_46 : (Jvm.Cond.laysFinal "SafeSweeps$Journal" "SafeSweeps$Journal" "numbers" "[I") ∈ kw_tbl := kts_1 (i := 46) rfl rfl
set_option maxRecDepth 100000 in
theorem kt_48 : (Jvm.Cond.lays "SafeSweeps$Journal" "SafeSweeps$Journal" "length" "I") ∈ kw_tbl := kts_1 (i := 48) rfl rfl
set_option maxRecDepth 100000 in
theorem kt_50 : (Jvm.Cond.lays "SafeSweeps$Journal" "SafeSweeps$Journal" "writes" "I") ∈ kw_tbl := kts_1 (i := 50) rfl rfl
set_option maxRecDepth 100000 in
theorem kt_52 : (Jvm.Cond.lays "SafeSweeps$Journal" "SafeSweeps$Journal" "writesLeft" "I") ∈ kw_tbl := kts_1 (i := 52) rfl rfl
set_option maxRecDepth 100000 in
theorem kt_54 : (Jvm.Cond.lays "SafeSweeps$Journal" "SafeSweeps$Journal" "down" "Z") ∈ kw_tbl := kts_1 (i := 54) rfl rfl
set_option maxRecDepth 100000 in
theorem kt_57 : (Jvm.Cond.arrayClass Jvm.ClassFile.FieldType.int) ∈ kw_tbl := kts_1 (i := 57) rfl rfl
set_option maxRecDepth 100000 in
theorem kt_58 : (Jvm.Cond.classLink "SafeSweeps" (16 : Nat) "SafeSweeps$Store") ∈ kw_tbl := kts_1 (i := 58) rfl rfl
set_option maxRecDepth 100000 in
theorem kt_59 : (Jvm.Cond.instantiable "SafeSweeps$Store" (10 : Nat)) ∈ kw_tbl := kts_1 (i := 59) rfl rfl
set_option maxRecDepth 100000 in
theorem kt_60 : (Jvm.Cond.methodLink "SafeSweeps" (18 : Nat) ({ cls := "java/lang/Math", name := "min", desc := "(II)I" } : Jvm.MethodName)) ∈ kw_tbl := kts_1 (i := 60) rfl rfl
set_option maxRecDepth 100000 in
theorem kt_61 : (Jvm.Cond.static ({ cls := "java/lang/Math", name := "min", desc := "(II)I" } : Jvm.MethodName)) ∈ kw_tbl := kts_1 (i := 61) rfl rfl
set_option maxRecDepth 100000 in
theorem kt_62 : (Jvm.Cond.code ({ cls := "java/lang/Math", name := "min", desc := "(II)I" } : Jvm.MethodName) prog_16_method_69_code (2 : Nat) (Option.some Jvm.ClassFile.FieldType.int)) ∈ kw_tbl := kts_1 (i := 62) rfl rfl
set_option maxRecDepth 100000 in
theorem kt_63 : (Jvm.Cond.methodLink "SafeSweeps" (24 : Nat) ({ cls := "java/lang/Math", name := "max", desc := "(II)I" } : Jvm.MethodName)) ∈ kw_tbl := kts_1 (i := 63) rfl rfl
set_option maxRecDepth 100000 in
theorem kt_64 : (Jvm.Cond.static ({ cls := "java/lang/Math", name := "max", desc := "(II)I" } : Jvm.MethodName)) ∈ kw_tbl := kts_1 (i := 64) rfl rfl
set_option maxRecDepth 100000 in
theorem kt_65 : (Jvm.Cond.code ({ cls := "java/lang/Math", name := "max", desc := "(II)I" } : Jvm.MethodName) prog_16_method_65_code (2 : Nat) (Option.some Jvm.ClassFile.FieldType.int)) ∈ kw_tbl := kts_1 (i := 65) rfl rfl
set_option maxRecDepth 100000 in
theorem kt_66 : (Jvm.Cond.methodLink "SafeSweeps" (27 : Nat) ({ cls := "SafeSweeps$Store", name := "<init>", desc := "(ILSafeSweeps$Journal;)V" } : Jvm.MethodName)) ∈ kw_tbl := kts_1 (i := 66) rfl rfl
set_option maxRecDepth 100000 in
theorem kt_67 : (Jvm.Cond.instanceMethod ({ cls := "SafeSweeps$Store", name := "<init>", desc := "(ILSafeSweeps$Journal;)V" } : Jvm.MethodName)) ∈ kw_tbl := kts_1 (i := 67) rfl rfl
set_option maxRecDepth 100000 in
theorem kt_68 : (Jvm.Cond.code ({ cls := "SafeSweeps$Store", name := "<init>", desc := "(ILSafeSweeps$Journal;)V" } : Jvm.MethodName) prog_11_method_1_code (3 : Nat) (Option.none : Option Jvm.ClassFile.FieldType)) ∈ kw_tbl := kts_1 (i := 68) rfl rfl
set_option maxRecDepth 100000 in
theorem kt_69 : (Jvm.Cond.methodLink "SafeSweeps$Store" (3 : Nat) ({ cls := "java/lang/Object", name := "<init>", desc := "()V" } : Jvm.MethodName)) ∈ kw_tbl := kts_1 (i := 69) rfl rfl
set_option maxRecDepth 100000 in
theorem kt_70 : (Jvm.Cond.classLink "SafeSweeps$Store" (9 : Nat) "SafeSweeps$Block") ∈ kw_tbl := kts_1 (i := 70) rfl rfl
set_option maxRecDepth 100000 in
theorem kt_72 : (Jvm.Cond.classLink "SafeSweeps$Store" (17 : Nat) "SafeSweeps$Pack") ∈ kw_tbl := kts_1 (i := 72) rfl rfl
set_option maxRecDepth 100000 in
theorem kt_74 : (Jvm.Cond.fieldLink "SafeSweeps$Store" (27 : Nat) "SafeSweeps$Store" "capacity" "I") ∈ kw_tbl := kts_1 (i := 74) rfl rfl
set_option maxRecDepth 100000 in
theorem kt_75 : (Jvm.Cond.fieldLink "SafeSweeps" (116 : Nat) "SafeSweeps$Store" "capacity" "I") ∈ kw_tbl := kts_1 (i := 75) rfl rfl
set_option maxRecDepth 100000 in
theorem kt_76 : (Jvm.Cond.fieldLink "SafeSweeps$Mover" (96 : Nat) "SafeSweeps$Store" "capacity" "I") ∈ kw_tbl := kts_1 (i := 76) rfl rfl
set_option maxRecDepth 100000 in
theorem kt_77 : (Jvm.Cond.fieldLink "SafeSweeps$Store" (31 : Nat) "SafeSweeps$Store" "journal" "LSafeSweeps$Journal;") ∈ kw_tbl := kts_1 (i := 77) rfl rfl
set_option maxRecDepth 100000 in
theorem kt_78 : (Jvm.Cond.fieldLink "SafeSweeps$Store" (11 : Nat) "SafeSweeps$Store" "blocks" "[LSafeSweeps$Block;") ∈ kw_tbl := kts_1 (i := 78) rfl rfl
set_option maxRecDepth 100000 in
theorem kt_79 : (Jvm.Cond.fieldLink "SafeSweeps$Sweep" (52 : Nat) "SafeSweeps$Store" "blocks" "[LSafeSweeps$Block;") ∈ kw_tbl := kts_1 (i := 79) rfl rfl
set_option maxRecDepth 100000 in
theorem kt_80 : (Jvm.Cond.fieldLink "SafeSweeps$Mover" (77 : Nat) "SafeSweeps$Store" "blocks" "[LSafeSweeps$Block;") ∈ kw_tbl := kts_1 (i := 80) rfl rfl
set_option maxRecDepth 100000 in
theorem kt_81 : (Jvm.Cond.fieldLink "SafeSweeps" (295 : Nat) "SafeSweeps$Store" "blocks" "[LSafeSweeps$Block;") ∈ kw_tbl := kts_1 (i := 81) rfl rfl
set_option maxRecDepth 100000 in
theorem kt_82 : (Jvm.Cond.fieldLink "SafeSweeps$Store" (19 : Nat) "SafeSweeps$Store" "packs" "[LSafeSweeps$Pack;") ∈ kw_tbl := kts_1 (i := 82) rfl rfl
set_option maxRecDepth 100000 in
theorem kt_83 : (Jvm.Cond.fieldLink "SafeSweeps$Mover" (29 : Nat) "SafeSweeps$Store" "packs" "[LSafeSweeps$Pack;") ∈ kw_tbl := kts_1 (i := 83) rfl rfl
set_option maxRecDepth 100000 in
theorem kt_84 : (Jvm.Cond.fieldLink "SafeSweeps" (326 : Nat) "SafeSweeps$Store" "packs" "[LSafeSweeps$Pack;") ∈ kw_tbl := kts_1 (i := 84) rfl rfl
set_option maxRecDepth 100000 in
theorem kt_85 : (Jvm.Cond.fieldLink "SafeSweeps$Store" (23 : Nat) "SafeSweeps$Store" "reached" "[Z") ∈ kw_tbl := kts_1 (i := 85) rfl rfl
set_option maxRecDepth 100000 in
theorem kt_86 : (Jvm.Cond.fieldLink "SafeSweeps$Store" (35 : Nat) "SafeSweeps$Store" "blocksMade" "I") ∈ kw_tbl := kts_1 (i := 86) rfl rfl
set_option maxRecDepth 100000 in
theorem kt_87 : (Jvm.Cond.fieldLink "SafeSweeps$Sweep" (44 : Nat) "SafeSweeps$Store" "blocksMade" "I") ∈ kw_tbl := kts_1 (i := 87) rfl rfl
set_option maxRecDepth 100000 in
theorem kt_88 : (Jvm.Cond.fieldLink "SafeSweeps$Mover" (67 : Nat) "SafeSweeps$Store" "blocksMade" "I") ∈ kw_tbl := kts_1 (i := 88) rfl rfl
set_option maxRecDepth 100000 in
theorem kt_89 : (Jvm.Cond.fieldLink "SafeSweeps" (274 : Nat) "SafeSweeps$Store" "blocksMade" "I") ∈ kw_tbl := kts_1 (i := 89) rfl rfl
set_option maxRecDepth 100000 in
theorem kt_90 : (Jvm.Cond.fieldLink "SafeSweeps$Store" (91 : Nat) "SafeSweeps$Store" "blocksFreed" "I") ∈ kw_tbl := kts_1 (i := 90) rfl rfl
set_option maxRecDepth 100000 in
theorem kt_91 : (Jvm.Cond.fieldLink "SafeSweeps" (277 : Nat) "SafeSweeps$Store" "blocksFreed" "I") ∈ kw_tbl := kts_1 (i := 91) rfl rfl
set_option maxRecDepth 100000 in
theorem kt_92 : (Jvm.Cond.fieldLink "SafeSweeps$Store" (111 : Nat) "SafeSweeps$Store" "blocksRevived" "I") ∈ kw_tbl := kts_1 (i := 92) rfl rfl
set_option maxRecDepth 100000 in
theorem kt_93 : (Jvm.Cond.fieldLink "SafeSweeps" (292 : Nat) "SafeSweeps$Store" "blocksRevived" "I") ∈ kw_tbl := kts_1 (i := 93) rfl rfl
set_option maxRecDepth 100000 in
theorem kt_94 : (Jvm.Cond.fieldLink "SafeSweeps$Mover" (86 : Nat) "SafeSweeps$Store" "packsMade" "I") ∈ kw_tbl := kts_1 (i := 94) rfl rfl
set_option maxRecDepth 100000 in
theorem kt_95 : (Jvm.Cond.fieldLink "SafeSweeps$Store" (56 : Nat) "SafeSweeps$Store" "packsMade" "I") ∈ kw_tbl := kts_1 (i := 95) rfl rfl
set_option maxRecDepth 100000 in
theorem kt_96 : (Jvm.Cond.fieldLink "SafeSweeps$Sweep" (88 : Nat) "SafeSweeps$Store" "packsMade" "I") ∈ kw_tbl := kts_1 (i := 96) rfl rfl
set_option maxRecDepth 100000 in
theorem kt_97 : (Jvm.Cond.fieldLink "SafeSweeps" (280 : Nat) "SafeSweeps$Store" "packsMade" "I") ∈ kw_tbl := kts_1 (i := 97) rfl rfl
set_option maxRecDepth 100000 in
theorem kt_98 : (Jvm.Cond.fieldLink "SafeSweeps$Mover" (103 : Nat) "SafeSweeps$Store" "packsPackedAnew" "I") ∈ kw_tbl := kts_1 (i := 98) rfl rfl
set_option maxRecDepth 100000 in
theorem kt_99 : (Jvm.Cond.fieldLink "SafeSweeps" (283 : Nat) "SafeSweeps$Store" "packsPackedAnew" "I") ∈ kw_tbl := kts_1 (i := 99) rfl rfl
set_option maxRecDepth 100000 in
theorem kt_100 : (Jvm.Cond.laysFinal "SafeSweeps$Store" "SafeSweeps$Store" "capacity" "I") ∈ kw_tbl := kts_1 (i := 100) rfl rfl
set_option maxRecDepth 100000 in
theorem kt_102 : (Jvm.Cond.laysFinal "SafeSweeps$Store" "SafeSweeps$Store" "journal" "LSafeSweeps$Journal;") ∈ kw_tbl := kts_1 (i := 102) rfl rfl
set_option maxRecDepth 100000 in
theorem kt_104 : (Jvm.Cond.laysFinal "SafeSweeps$Store" "SafeSweeps$Store" "blocks" "[LSafeSweeps$Block;") ∈ kw_tbl := kts_1 (i := 104) rfl rfl
set_option maxRecDepth 100000 in
theorem kt_106 : (Jvm.Cond.laysFinal "SafeSweeps$Store" "SafeSweeps$Store" "packs" "[LSafeSweeps$Pack;") ∈ kw_tbl := kts_1 (i := 106) rfl rfl
set_option maxRecDepth 100000 in
theorem kt_108 : (Jvm.Cond.laysFinal "SafeSweeps$Store" "SafeSweeps$Store" "reached" "[Z") ∈ kw_tbl := kts_1 (i := 108) rfl rfl
set_option maxRecDepth 100000 in
theorem kt_110 : (Jvm.Cond.lays "SafeSweeps$Store" "SafeSweeps$Store" "blocksMade" "I") ∈ kw_tbl := kts_1 (i := 110) rfl rfl
set_option maxRecDepth 100000 in
theorem kt_112 : (Jvm.Cond.lays "SafeSweeps$Store" "SafeSweeps$Store" "blocksFreed" "I") ∈ kw_tbl := kts_1 (i := 112) rfl rfl
set_option maxRecDepth 100000 in
theorem kt_114 : (Jvm.Cond.lays "SafeSweeps$Store" "SafeSweeps$Store" "blocksRevived" "I") ∈ kw_tbl := kts_1 (i := 114) rfl rfl
set_option maxRecDepth 100000 in
theorem kt_116 : (Jvm.Cond.lays "SafeSweeps$Store" "SafeSweeps$Store" "packsMade" "I") ∈ kw_tbl := kts_1 (i := 116) rfl rfl
set_option maxRecDepth 100000 in
theorem kt_118 : (Jvm.Cond.lays "SafeSweeps$Store" "SafeSweeps$Store" "packsPackedAnew" "I") ∈ kw_tbl := kts_1 (i := 118) rfl rfl
set_option maxRecDepth 100000 in
theorem kt_121 : (Jvm.Cond.arrayClass Jvm.ClassFile.FieldType.boolean) ∈ kw_tbl := kts_1 (i := 121) rfl rfl
set_option maxRecDepth 100000 in
theorem kt_122 : (Jvm.Cond.classLink "SafeSweeps" (34 : Nat) "SafeSweeps$Sweep") ∈ kw_tbl := kts_1 (i := 122) rfl rfl
set_option maxRecDepth 100000 in
theorem kt_123 : (Jvm.Cond.instantiable "SafeSweeps$Sweep" (11 : Nat)) ∈ kw_tbl := kts_1 (i := 123) rfl rfl
set_option maxRecDepth 100000 in
theorem kt_124 : (Jvm.Cond.methodLink "SafeSweeps" (36 : Nat) ({ cls := "SafeSweeps$Sweep", name := "<init>", desc := "(LSafeSweeps$Store;LSafeSweeps$Journal;)V" } : Jvm.MethodName)) ∈ kw_tbl := kts_1 (i := 124) rfl rfl
set_option maxRecDepth 100000 in
theorem kt_125 : (Jvm.Cond.instanceMethod ({ cls := "SafeSweeps$Sweep", name := "<init>", desc := "(LSafeSweeps$Store;LSafeSweeps$Journal;)V" } : Jvm.MethodName)) ∈ kw_tbl := kts_1 (i := 125) rfl rfl
set_option maxRecDepth 100000 in
theorem kt_126 : (Jvm.Cond.code ({ cls := "SafeSweeps$Sweep", name := "<init>", desc := "(LSafeSweeps$Store;LSafeSweeps$Journal;)V" } : Jvm.MethodName) prog_12_method_1_code (3 : Nat) (Option.none : Option Jvm.ClassFile.FieldType)) ∈ kw_tbl := kts_1 (i := 126) rfl rfl
set_option maxRecDepth 100000 in
theorem kt_127 : (Jvm.Cond.methodLink "SafeSweeps$Sweep" (3 : Nat) ({ cls := "java/lang/Object", name := "<init>", desc := "()V" } : Jvm.MethodName)) ∈ kw_tbl := kts_1 (i := 127) rfl rfl
set_option maxRecDepth 100000 in
theorem kt_128 : (Jvm.Cond.classLink "SafeSweeps$Sweep" (23 : Nat) "SafeSweeps$Mover") ∈ kw_tbl := kts_1 (i := 128) rfl rfl
set_option maxRecDepth 100000 in
theorem kt_129 : (Jvm.Cond.instantiable "SafeSweeps$Mover" (6 : Nat)) ∈ kw_tbl := kts_1 (i := 129) rfl rfl
set_option maxRecDepth 100000 in
theorem kt_130 : (Jvm.Cond.methodLink "SafeSweeps$Sweep" (25 : Nat) ({ cls := "SafeSweeps$Mover", name := "<init>", desc := "(LSafeSweeps$Store;LSafeSweeps$Journal;)V" } : Jvm.MethodName)) ∈ kw_tbl := kts_1 (i := 130) rfl rfl
set_option maxRecDepth 100000 in
theorem kt_131 : (Jvm.Cond.instanceMethod ({ cls := "SafeSweeps$Mover", name := "<init>", desc := "(LSafeSweeps$Store;LSafeSweeps$Journal;)V" } : Jvm.MethodName)) ∈ kw_tbl := kts_1 (i := 131) rfl rfl
set_option maxRecDepth 100000 in
theorem kt_132 : (Jvm.Cond.code ({ cls := "SafeSweeps$Mover", name := "<init>", desc := "(LSafeSweeps$Store;LSafeSweeps$Journal;)V" } : Jvm.MethodName) prog_6_method_1_code (3 : Nat) (Option.none : Option Jvm.ClassFile.FieldType)) ∈ kw_tbl := kts_1 (i := 132) rfl rfl
set_option maxRecDepth 100000 in
theorem kt_133 : (Jvm.Cond.methodLink "SafeSweeps$Mover" (3 : Nat) ({ cls := "java/lang/Object", name := "<init>", desc := "()V" } : Jvm.MethodName)) ∈ kw_tbl := kts_1 (i := 133) rfl rfl
set_option maxRecDepth 100000 in
theorem kt_134 : (Jvm.Cond.fieldLink "SafeSweeps$Mover" (21 : Nat) "SafeSweeps$Mover" "store" "LSafeSweeps$Store;") ∈ kw_tbl := kts_1 (i := 134) rfl rfl
set_option maxRecDepth 100000 in
theorem kt_135 : (Jvm.Cond.fieldLink "SafeSweeps$Mover" (25 : Nat) "SafeSweeps$Mover" "journal" "LSafeSweeps$Journal;") ∈ kw_tbl := kts_1 (i := 135) rfl rfl
set_option maxRecDepth 100000 in
theorem kt_136 : (Jvm.Cond.fieldLink "SafeSweeps$Mover" (9 : Nat) "SafeSweeps$Mover" "moved" "[I") ∈ kw_tbl := kts_1 (i := 136) rfl rfl
set_option maxRecDepth 100000 in
theorem kt_137 : (Jvm.Cond.fieldLink "SafeSweeps$Mover" (15 : Nat) "SafeSweeps$Mover" "packs" "[I") ∈ kw_tbl := kts_1 (i := 137) rfl rfl
set_option maxRecDepth 100000 in
theorem kt_138 : (Jvm.Cond.fieldLink "SafeSweeps$Mover" (18 : Nat) "SafeSweeps$Mover" "places" "[I") ∈ kw_tbl := kts_1 (i := 138) rfl rfl
set_option maxRecDepth 100000 in
theorem kt_139 : (Jvm.Cond.fieldLink "SafeSweeps$Mover" (55 : Nat) "SafeSweeps$Mover" "length" "I") ∈ kw_tbl := kts_1 (i := 139) rfl rfl
set_option maxRecDepth 100000 in
theorem kt_140 : (Jvm.Cond.laysFinal "SafeSweeps$Mover" "SafeSweeps$Mover" "store" "LSafeSweeps$Store;") ∈ kw_tbl := kts_1 (i := 140) rfl rfl
set_option maxRecDepth 100000 in
theorem kt_142 : (Jvm.Cond.laysFinal "SafeSweeps$Mover" "SafeSweeps$Mover" "journal" "LSafeSweeps$Journal;") ∈ kw_tbl := kts_1 (i := 142) rfl rfl
set_option maxRecDepth 100000 in
theorem kt_144 : (Jvm.Cond.laysFinal "SafeSweeps$Mover" "SafeSweeps$Mover" "moved" "[I") ∈ kw_tbl := kts_1 (i := 144) rfl rfl
set_option maxRecDepth 100000 in
theorem kt_146 : (Jvm.Cond.laysFinal "SafeSweeps$Mover" "SafeSweeps$Mover" "packs" "[I") ∈ kw_tbl := kts_1 (i := 146) rfl rfl
set_option maxRecDepth 100000 in
theorem kt_148 : (Jvm.Cond.laysFinal "SafeSweeps$Mover" "SafeSweeps$Mover" "places" "[I") ∈ kw_tbl := kts_1 (i := 148) rfl rfl
set_option maxRecDepth 100000 in
theorem kt_150 : (Jvm.Cond.lays "SafeSweeps$Mover" "SafeSweeps$Mover" "length" "I") ∈ kw_tbl := kts_1 (i := 150) rfl rfl
set_option maxRecDepth 100000 in
theorem kt_153 : (Jvm.Cond.fieldLink "SafeSweeps$Sweep" (19 : Nat) "SafeSweeps$Sweep" "store" "LSafeSweeps$Store;") ∈ kw_tbl := kts_1 (i := 153) rfl rfl
set_option maxRecDepth 100000 in
theorem kt_154 : (Jvm.Cond.fieldLink "SafeSweeps$Sweep" (28 : Nat) "SafeSweeps$Sweep" "mover" "LSafeSweeps$Mover;") ∈ kw_tbl := kts_1 (i := 154) rfl rfl
set_option maxRecDepth 100000 in
theorem kt_155 : (Jvm.Cond.fieldLink "SafeSweeps$Sweep" (11 : Nat) "SafeSweeps$Sweep" "row" "[I") ∈ kw_tbl := kts_1 (i := 155) rfl rfl
set_option maxRecDepth 100000 in
theorem kt_156 : (Jvm.Cond.fieldLink "SafeSweeps$Sweep" (38 : Nat) "SafeSweeps$Sweep" "first" "I") ∈ kw_tbl := kts_1 (i := 156) rfl rfl
set_option maxRecDepth 100000 in
theorem kt_157 : (Jvm.Cond.fieldLink "SafeSweeps" (351 : Nat) "SafeSweeps$Sweep" "first" "I") ∈ kw_tbl := kts_1 (i := 157) rfl rfl
set_option maxRecDepth 100000 in
theorem kt_158 : (Jvm.Cond.fieldLink "SafeSweeps$Sweep" (41 : Nat) "SafeSweeps$Sweep" "behind" "I") ∈ kw_tbl := kts_1 (i := 158) rfl rfl
set_option maxRecDepth 100000 in
theorem kt_159 : (Jvm.Cond.fieldLink "SafeSweeps" (348 : Nat) "SafeSweeps$Sweep" "behind" "I") ∈ kw_tbl := kts_1 (i := 159) rfl rfl
set_option maxRecDepth 100000 in
theorem kt_160 : (Jvm.Cond.fieldLink "SafeSweeps$Sweep" (35 : Nat) "SafeSweeps$Sweep" "phase" "I") ∈ kw_tbl := kts_1 (i := 160) rfl rfl
set_option maxRecDepth 100000 in
theorem kt_161 : (Jvm.Cond.fieldLink "SafeSweeps" (226 : Nat) "SafeSweeps$Sweep" "phase" "I") ∈ kw_tbl := kts_1 (i := 161) rfl rfl
set_option maxRecDepth 100000 in
theorem kt_162 : (Jvm.Cond.fieldLink "SafeSweeps$Sweep" (32 : Nat) "SafeSweeps$Sweep" "number" "I") ∈ kw_tbl := kts_1 (i := 162) rfl rfl
set_option maxRecDepth 100000 in
theorem kt_163 : (Jvm.Cond.fieldLink "SafeSweeps" (249 : Nat) "SafeSweeps$Sweep" "number" "I") ∈ kw_tbl := kts_1 (i := 163) rfl rfl
set_option maxRecDepth 100000 in
theorem kt_164 : (Jvm.Cond.fieldLink "SafeSweeps$Sweep" (49 : Nat) "SafeSweeps$Sweep" "end" "I") ∈ kw_tbl := kts_1 (i := 164) rfl rfl
set_option maxRecDepth 100000 in
theorem kt_165 : (Jvm.Cond.fieldLink "SafeSweeps" (354 : Nat) "SafeSweeps$Sweep" "end" "I") ∈ kw_tbl := kts_1 (i := 165) rfl rfl
set_option maxRecDepth 100000 in
theorem kt_166 : (Jvm.Cond.fieldLink "SafeSweeps$Sweep" (85 : Nat) "SafeSweeps$Sweep" "next" "I") ∈ kw_tbl := kts_1 (i := 166) rfl rfl
set_option maxRecDepth 100000 in
theorem kt_167 : (Jvm.Cond.fieldLink "SafeSweeps" (357 : Nat) "SafeSweeps$Sweep" "next" "I") ∈ kw_tbl := kts_1 (i := 167) rfl rfl
set_option maxRecDepth 100000 in
theorem kt_168 : (Jvm.Cond.fieldLink "SafeSweeps$Sweep" (91 : Nat) "SafeSweeps$Sweep" "packs" "I") ∈ kw_tbl := kts_1 (i := 168) rfl rfl
set_option maxRecDepth 100000 in
theorem kt_169 : (Jvm.Cond.fieldLink "SafeSweeps$Sweep" (15 : Nat) "SafeSweeps$Sweep" "percent" "I") ∈ kw_tbl := kts_1 (i := 169) rfl rfl
set_option maxRecDepth 100000 in
theorem kt_170 : (Jvm.Cond.fieldLink "SafeSweeps" (255 : Nat) "SafeSweeps$Sweep" "percent" "I") ∈ kw_tbl := kts_1 (i := 170) rfl rfl
set_option maxRecDepth 100000 in
theorem kt_171 : (Jvm.Cond.laysFinal "SafeSweeps$Sweep" "SafeSweeps$Sweep" "store" "LSafeSweeps$Store;") ∈ kw_tbl := kts_1 (i := 171) rfl rfl
set_option maxRecDepth 100000 in
theorem kt_173 : (Jvm.Cond.laysFinal "SafeSweeps$Sweep" "SafeSweeps$Sweep" "mover" "LSafeSweeps$Mover;") ∈ kw_tbl := kts_1 (i := 173) rfl rfl
set_option maxRecDepth 100000 in
theorem kt_175 : (Jvm.Cond.laysFinal "SafeSweeps$Sweep" "SafeSweeps$Sweep" "row" "[I") ∈ kw_tbl := kts_1 (i := 175) rfl rfl
set_option maxRecDepth 100000 in
theorem kt_177 : (Jvm.Cond.lays "SafeSweeps$Sweep" "SafeSweeps$Sweep" "first" "I") ∈ kw_tbl := kts_1 (i := 177) rfl rfl
set_option maxRecDepth 100000 in
theorem kt_179 : (Jvm.Cond.lays "SafeSweeps$Sweep" "SafeSweeps$Sweep" "behind" "I") ∈ kw_tbl := kts_1 (i := 179) rfl rfl
set_option maxRecDepth 100000 in
theorem kt_181 : (Jvm.Cond.lays "SafeSweeps$Sweep" "SafeSweeps$Sweep" "phase" "I") ∈ kw_tbl := kts_1 (i := 181) rfl rfl
set_option maxRecDepth 100000 in
theorem kt_183 : (Jvm.Cond.lays "SafeSweeps$Sweep" "SafeSweeps$Sweep" "number" "I") ∈ kw_tbl := kts_1 (i := 183) rfl rfl
set_option maxRecDepth 100000 in
theorem kt_185 : (Jvm.Cond.lays "SafeSweeps$Sweep" "SafeSweeps$Sweep" "end" "I") ∈ kw_tbl := kts_1 (i := 185) rfl rfl
set_option maxRecDepth 100000 in
theorem kt_187 : (Jvm.Cond.lays "SafeSweeps$Sweep" "SafeSweeps$Sweep" "next" "I") ∈ kw_tbl := kts_1 (i := 187) rfl rfl
set_option maxRecDepth 100000 in
theorem kt_189 : (Jvm.Cond.lays "SafeSweeps$Sweep" "SafeSweeps$Sweep" "packs" "I") ∈ kw_tbl := kts_1 (i := 189) rfl rfl
set_option maxRecDepth 100000 in
theorem kt_191 : (Jvm.Cond.lays "SafeSweeps$Sweep" "SafeSweeps$Sweep" "percent" "I") ∈ kw_tbl := kts_1 (i := 191) rfl rfl
set_option maxRecDepth 100000 in
theorem kt_194 : (Jvm.Cond.classLink "SafeSweeps" (43 : Nat) "SafeSweeps$Rules") ∈ kw_tbl := kts_1 (i := 194) rfl rfl
set_option maxRecDepth 100000 in
theorem kt_195 : (Jvm.Cond.instantiable "SafeSweeps$Rules" (2 : Nat)) ∈ kw_tbl := kts_1 (i := 195) rfl rfl
set_option maxRecDepth 100000 in
theorem kt_197 : (Jvm.Cond.instanceMethod ({ cls := "SafeSweeps$Rules", name := "<init>", desc := "()V" } : Jvm.MethodName)) ∈ kw_tbl := kts_1 (i := 197) rfl rfl
set_option maxRecDepth 100000 in
theorem kt_198 : (Jvm.Cond.code ({ cls := "SafeSweeps$Rules", name := "<init>", desc := "()V" } : Jvm.MethodName) prog_8_method_1_code (1 : Nat) (Option.none : Option Jvm.ClassFile.FieldType)) ∈ kw_tbl := kts_1 (i := 198) rfl rfl
set_option maxRecDepth 100000 in
theorem kt_199 : (Jvm.Cond.methodLink "SafeSweeps$Rules" (3 : Nat) ({ cls := "java/lang/Object", name := "<init>", desc := "()V" } : Jvm.MethodName)) ∈ kw_tbl := kts_1 (i := 199) rfl rfl
set_option maxRecDepth 100000 in
theorem kt_200 : (Jvm.Cond.fieldLink "SafeSweeps$Rules" (9 : Nat) "SafeSweeps$Rules" "numbers" "[I") ∈ kw_tbl := kts_1 (i := 200) rfl rfl
set_option maxRecDepth 100000 in
theorem kt_201 : (Jvm.Cond.fieldLink "SafeSweeps" (210 : Nat) "SafeSweeps$Rules" "numbers" "[I") ∈ kw_tbl := kts_1 (i := 201) rfl rfl
set_option maxRecDepth 100000 in
theorem kt_202 : (Jvm.Cond.fieldLink "SafeSweeps$Rules" (15 : Nat) "SafeSweeps$Rules" "kept" "[I") ∈ kw_tbl := kts_1 (i := 202) rfl rfl
set_option maxRecDepth 100000 in
theorem kt_203 : (Jvm.Cond.fieldLink "SafeSweeps" (217 : Nat) "SafeSweeps$Rules" "kept" "[I") ∈ kw_tbl := kts_1 (i := 203) rfl rfl
set_option maxRecDepth 100000 in
theorem kt_204 : (Jvm.Cond.laysFinal "SafeSweeps$Rules" "SafeSweeps$Rules" "numbers" "[I") ∈ kw_tbl := kts_1 (i := 204) rfl rfl
set_option maxRecDepth 100000 in
theorem kt_206 : (Jvm.Cond.laysFinal "SafeSweeps$Rules" "SafeSweeps$Rules" "kept" "[I") ∈ kw_tbl := kts_1 (i := 206) rfl rfl
set_option maxRecDepth 100000 in
theorem kt_209 : (Jvm.Cond.classLink "SafeSweeps" (50 : Nat) "SafeSweeps$Saver") ∈ kw_tbl := kts_1 (i := 209) rfl rfl
set_option maxRecDepth 100000 in
theorem kt_211 : (Jvm.Cond.instantiable "SafeSweeps$Saver" (7 : Nat)) ∈ kw_tbl := kts_1 (i := 211) rfl rfl
set_option maxRecDepth 100000 in
theorem kt_213 : (Jvm.Cond.instanceMethod ({ cls := "SafeSweeps$Saver", name := "<init>", desc := "()V" } : Jvm.MethodName)) ∈ kw_tbl := kts_1 (i := 213) rfl rfl
set_option maxRecDepth 100000 in
theorem kt_214 : (Jvm.Cond.code ({ cls := "SafeSweeps$Saver", name := "<init>", desc := "()V" } : Jvm.MethodName) prog_9_method_1_code (1 : Nat) (Option.none : Option Jvm.ClassFile.FieldType)) ∈ kw_tbl := kts_1 (i := 214) rfl rfl
set_option maxRecDepth 100000 in
theorem kt_215 : (Jvm.Cond.methodLink "SafeSweeps$Saver" (3 : Nat) ({ cls := "java/lang/Object", name := "<init>", desc := "()V" } : Jvm.MethodName)) ∈ kw_tbl := kts_1 (i := 215) rfl rfl
set_option maxRecDepth 100000 in
theorem kt_216 : (Jvm.Cond.fieldLink "SafeSweeps$Saver" (9 : Nat) "SafeSweeps$Saver" "used" "[I") ∈ kw_tbl := kts_1 (i := 216) rfl rfl
set_option maxRecDepth 100000 in
theorem kt_217 : (Jvm.Cond.fieldLink "SafeSweeps" (190 : Nat) "SafeSweeps$Saver" "used" "[I") ∈ kw_tbl := kts_1 (i := 217) rfl rfl
set_option maxRecDepth 100000 in
theorem kt_218 : (Jvm.Cond.fieldLink "SafeSweeps$Saver" (15 : Nat) "SafeSweeps$Saver" "children" "[I") ∈ kw_tbl := kts_1 (i := 218) rfl rfl
set_option maxRecDepth 100000 in
theorem kt_219 : (Jvm.Cond.fieldLink "SafeSweeps" (119 : Nat) "SafeSweeps$Saver" "children" "[I") ∈ kw_tbl := kts_1 (i := 219) rfl rfl
set_option maxRecDepth 100000 in
theorem kt_220 : (Jvm.Cond.fieldLink "SafeSweeps$Saver" (22 : Nat) "SafeSweeps$Saver" "usedCount" "I") ∈ kw_tbl := kts_1 (i := 220) rfl rfl
set_option maxRecDepth 100000 in
theorem kt_221 : (Jvm.Cond.fieldLink "SafeSweeps" (135 : Nat) "SafeSweeps$Saver" "usedCount" "I") ∈ kw_tbl := kts_1 (i := 221) rfl rfl
set_option maxRecDepth 100000 in
theorem kt_222 : (Jvm.Cond.fieldLink "SafeSweeps$Saver" (26 : Nat) "SafeSweeps$Saver" "childCount" "I") ∈ kw_tbl := kts_1 (i := 222) rfl rfl
set_option maxRecDepth 100000 in
theorem kt_223 : (Jvm.Cond.fieldLink "SafeSweeps" (112 : Nat) "SafeSweeps$Saver" "childCount" "I") ∈ kw_tbl := kts_1 (i := 223) rfl rfl
set_option maxRecDepth 100000 in
theorem kt_224 : (Jvm.Cond.fieldLink "SafeSweeps$Saver" (29 : Nat) "SafeSweeps$Saver" "lease" "I") ∈ kw_tbl := kts_1 (i := 224) rfl rfl
set_option maxRecDepth 100000 in
theorem kt_225 : (Jvm.Cond.fieldLink "SafeSweeps$Saver" (36 : Nat) "SafeSweeps$Saver" "until" "J") ∈ kw_tbl := kts_1 (i := 225) rfl rfl
set_option maxRecDepth 100000 in
theorem kt_226 : (Jvm.Cond.fieldLink "SafeSweeps$Saver" (18 : Nat) "SafeSweeps$Saver" "here" "Z") ∈ kw_tbl := kts_1 (i := 226) rfl rfl
set_option maxRecDepth 100000 in
theorem kt_227 : (Jvm.Cond.fieldLink "SafeSweeps" (87 : Nat) "SafeSweeps$Saver" "here" "Z") ∈ kw_tbl := kts_1 (i := 227) rfl rfl
set_option maxRecDepth 100000 in
theorem kt_228 : (Jvm.Cond.laysFinal "SafeSweeps$Saver" "SafeSweeps$Saver" "used" "[I") ∈ kw_tbl := kts_1 (i := 228) rfl rfl
set_option maxRecDepth 100000 in
theorem kt_230 : (Jvm.Cond.laysFinal "SafeSweeps$Saver" "SafeSweeps$Saver" "children" "[I") ∈ kw_tbl := kts_1 (i := 230) rfl rfl
set_option maxRecDepth 100000 in
theorem kt_232 : (Jvm.Cond.lays "SafeSweeps$Saver" "SafeSweeps$Saver" "usedCount" "I") ∈ kw_tbl := kts_1 (i := 232) rfl rfl
set_option maxRecDepth 100000 in
theorem kt_234 : (Jvm.Cond.lays "SafeSweeps$Saver" "SafeSweeps$Saver" "childCount" "I") ∈ kw_tbl := kts_1 (i := 234) rfl rfl
set_option maxRecDepth 100000 in
theorem kt_236 : (Jvm.Cond.lays "SafeSweeps$Saver" "SafeSweeps$Saver" "lease" "I") ∈ kw_tbl := kts_1 (i := 236) rfl rfl
set_option maxRecDepth 100000 in
theorem kt_238 : (Jvm.Cond.lays "SafeSweeps$Saver" "SafeSweeps$Saver" "until" "J") ∈ kw_tbl := kts_1 (i := 238) rfl rfl
set_option maxRecDepth 100000 in
theorem kt_240 : (Jvm.Cond.lays "SafeSweeps$Saver" "SafeSweeps$Saver" "here" "Z") ∈ kw_tbl := kts_2 (i := 0) rfl rfl
set_option maxRecDepth 100000 in
theorem kt_243 : (Jvm.Cond.classLink "SafeSweeps" (57 : Nat) "SafeSweeps$Snapshot") ∈ kw_tbl := kts_2 (i := 3) rfl rfl
set_option maxRecDepth 100000 in
theorem kt_245 : (Jvm.Cond.classLink "SafeSweeps" (63 : Nat) "SafeSweeps$Mirror") ∈ kw_tbl := kts_2 (i := 5) rfl rfl
set_option maxRecDepth 100000 in
theorem kt_247 : (Jvm.Cond.instantiable "SafeSweeps$Mirror" (3 : Nat)) ∈ kw_tbl := kts_2 (i := 7) rfl rfl
set_option maxRecDepth 100000 in
theorem kt_249 : (Jvm.Cond.instanceMethod ({ cls := "SafeSweeps$Mirror", name := "<init>", desc := "()V" } : Jvm.MethodName)) ∈ kw_tbl := kts_2 (i := 9) rfl rfl
set_option maxRecDepth 100000 in
theorem kt_250 : (Jvm.Cond.code ({ cls := "SafeSweeps$Mirror", name := "<init>", desc := "()V" } : Jvm.MethodName) prog_5_method_1_code (1 : Nat) (Option.none : Option Jvm.ClassFile.FieldType)) ∈ kw_tbl := kts_2 (i := 10) rfl rfl
set_option maxRecDepth 100000 in
theorem kt_251 : (Jvm.Cond.methodLink "SafeSweeps$Mirror" (3 : Nat) ({ cls := "java/lang/Object", name := "<init>", desc := "()V" } : Jvm.MethodName)) ∈ kw_tbl := kts_2 (i := 11) rfl rfl
set_option maxRecDepth 100000 in
theorem kt_252 : (Jvm.Cond.fieldLink "SafeSweeps$Mirror" (9 : Nat) "SafeSweeps$Mirror" "blocks" "[Z") ∈ kw_tbl := kts_2 (i := 12) rfl rfl
set_option maxRecDepth 100000 in
theorem kt_253 : (Jvm.Cond.fieldLink "SafeSweeps" (381 : Nat) "SafeSweeps$Mirror" "blocks" "[Z") ∈ kw_tbl := kts_2 (i := 13) rfl rfl
set_option maxRecDepth 100000 in
theorem kt_254 : (Jvm.Cond.fieldLink "SafeSweeps$Mirror" (15 : Nat) "SafeSweeps$Mirror" "snapshots" "[Z") ∈ kw_tbl := kts_2 (i := 14) rfl rfl
set_option maxRecDepth 100000 in
theorem kt_255 : (Jvm.Cond.fieldLink "SafeSweeps" (388 : Nat) "SafeSweeps$Mirror" "snapshots" "[Z") ∈ kw_tbl := kts_2 (i := 15) rfl rfl
set_option maxRecDepth 100000 in
theorem kt_256 : (Jvm.Cond.fieldLink "SafeSweeps$Mirror" (24 : Nat) "SafeSweeps$Mirror" "done" "I") ∈ kw_tbl := kts_2 (i := 16) rfl rfl
set_option maxRecDepth 100000 in
theorem kt_257 : (Jvm.Cond.fieldLink "SafeSweeps" (271 : Nat) "SafeSweeps$Mirror" "done" "I") ∈ kw_tbl := kts_2 (i := 17) rfl rfl
set_option maxRecDepth 100000 in
theorem kt_258 : (Jvm.Cond.laysFinal "SafeSweeps$Mirror" "SafeSweeps$Mirror" "blocks" "[Z") ∈ kw_tbl := kts_2 (i := 18) rfl rfl
set_option maxRecDepth 100000 in
theorem kt_260 : (Jvm.Cond.laysFinal "SafeSweeps$Mirror" "SafeSweeps$Mirror" "snapshots" "[Z") ∈ kw_tbl := kts_2 (i := 20) rfl rfl
set_option maxRecDepth 100000 in
theorem kt_262 : (Jvm.Cond.lays "SafeSweeps$Mirror" "SafeSweeps$Mirror" "done" "I") ∈ kw_tbl := kts_2 (i := 22) rfl rfl
set_option maxRecDepth 100000 in
theorem kt_265 : (Jvm.Cond.constantLong "SafeSweeps" (74 : Nat) (-10000000000 : Int64)) ∈ kw_tbl := kts_2 (i := 25) rfl rfl
set_option maxRecDepth 100000 in
theorem kt_266 : (Jvm.Cond.fieldLink "SafeSweeps" (10 : Nat) "SafeSweeps" "journal" "LSafeSweeps$Journal;") ∈ kw_tbl := kts_2 (i := 26) rfl rfl
set_option maxRecDepth 100000 in
theorem kt_267 : (Jvm.Cond.fieldLink "SafeSweeps" (30 : Nat) "SafeSweeps" "store" "LSafeSweeps$Store;") ∈ kw_tbl := kts_2 (i := 27) rfl rfl
set_option maxRecDepth 100000 in
theorem kt_268 : (Jvm.Cond.fieldLink "SafeSweeps" (39 : Nat) "SafeSweeps" "sweeper" "LSafeSweeps$Sweep;") ∈ kw_tbl := kts_2 (i := 28) rfl rfl
set_option maxRecDepth 100000 in
theorem kt_269 : (Jvm.Cond.fieldLink "SafeSweeps" (46 : Nat) "SafeSweeps" "rules" "LSafeSweeps$Rules;") ∈ kw_tbl := kts_2 (i := 29) rfl rfl
set_option maxRecDepth 100000 in
theorem kt_270 : (Jvm.Cond.fieldLink "SafeSweeps" (52 : Nat) "SafeSweeps" "savers" "[LSafeSweeps$Saver;") ∈ kw_tbl := kts_2 (i := 30) rfl rfl
set_option maxRecDepth 100000 in
theorem kt_271 : (Jvm.Cond.fieldLink "SafeSweeps" (59 : Nat) "SafeSweeps" "snapshots" "[LSafeSweeps$Snapshot;") ∈ kw_tbl := kts_2 (i := 31) rfl rfl
set_option maxRecDepth 100000 in
theorem kt_272 : (Jvm.Cond.fieldLink "SafeSweeps" (65 : Nat) "SafeSweeps" "mirrors" "[LSafeSweeps$Mirror;") ∈ kw_tbl := kts_2 (i := 32) rfl rfl
set_option maxRecDepth 100000 in
theorem kt_273 : (Jvm.Cond.fieldLink "SafeSweeps" (70 : Nat) "SafeSweeps" "replayed" "LSafeSweeps$Mirror;") ∈ kw_tbl := kts_2 (i := 33) rfl rfl
set_option maxRecDepth 100000 in
theorem kt_274 : (Jvm.Cond.fieldLink "SafeSweeps" (180 : Nat) "SafeSweeps" "snapshotsMade" "I") ∈ kw_tbl := kts_2 (i := 34) rfl rfl
set_option maxRecDepth 100000 in
theorem kt_275 : (Jvm.Cond.fieldLink "SafeSweeps" (76 : Nat) "SafeSweeps" "now" "J") ∈ kw_tbl := kts_2 (i := 35) rfl rfl
set_option maxRecDepth 100000 in
theorem kt_276 : (Jvm.Cond.laysFinal "SafeSweeps" "SafeSweeps" "journal" "LSafeSweeps$Journal;") ∈ kw_tbl := kts_2 (i := 36) rfl rfl
set_option maxRecDepth 100000 in
theorem kt_278 : (Jvm.Cond.laysFinal "SafeSweeps" "SafeSweeps" "store" "LSafeSweeps$Store;") ∈ kw_tbl := kts_2 (i := 38) rfl rfl
set_option maxRecDepth 100000 in
theorem kt_280 : (Jvm.Cond.laysFinal "SafeSweeps" "SafeSweeps" "sweeper" "LSafeSweeps$Sweep;") ∈ kw_tbl := kts_2 (i := 40) rfl rfl
set_option maxRecDepth 100000 in
theorem kt_282 : (Jvm.Cond.laysFinal "SafeSweeps" "SafeSweeps" "rules" "LSafeSweeps$Rules;") ∈ kw_tbl := kts_2 (i := 42) rfl rfl
set_option maxRecDepth 100000 in
theorem kt_284 : (Jvm.Cond.laysFinal "SafeSweeps" "SafeSweeps" "savers" "[LSafeSweeps$Saver;") ∈ kw_tbl := kts_2 (i := 44) rfl rfl
set_option maxRecDepth 100000 in
theorem kt_286 : (Jvm.Cond.laysFinal "SafeSweeps" "SafeSweeps" "snapshots" "[LSafeSweeps$Snapshot;") ∈ kw_tbl := kts_2 (i := 46) rfl rfl
set_option maxRecDepth 100000 in
theorem kt_288 : (Jvm.Cond.laysFinal "SafeSweeps" "SafeSweeps" "mirrors" "[LSafeSweeps$Mirror;") ∈ kw_tbl := kts_2 (i := 48) rfl rfl
set_option maxRecDepth 100000 in
theorem kt_290 : (Jvm.Cond.laysFinal "SafeSweeps" "SafeSweeps" "replayed" "LSafeSweeps$Mirror;") ∈ kw_tbl := kts_2 (i := 50) rfl rfl
set_option maxRecDepth 100000 in
theorem kt_292 : (Jvm.Cond.lays "SafeSweeps" "SafeSweeps" "snapshotsMade" "I") ∈ kw_tbl := kts_2 (i := 52) rfl rfl
set_option maxRecDepth 100000 in
theorem kt_294 : (Jvm.Cond.lays "SafeSweeps" "SafeSweeps" "now" "J") ∈ kw_tbl := kts_2 (i := 54) rfl rfl
set_option maxRecDepth 100000 in
theorem kt_297 : (Jvm.Cond.methodLink "SafeSweepsLaw" (23 : Nat) ({ cls := "SafeSweeps", name := "at", desc := "(J)I" } : Jvm.MethodName)) ∈ kw_tbl := kts_2 (i := 57) rfl rfl
set_option maxRecDepth 100000 in
theorem kt_298 : (Jvm.Cond.instanceMethod ({ cls := "SafeSweeps", name := "at", desc := "(J)I" } : Jvm.MethodName)) ∈ kw_tbl := kts_2 (i := 58) rfl rfl
set_option maxRecDepth 100000 in
theorem kt_299 : (Jvm.Cond.selects "SafeSweeps" ({ cls := "SafeSweeps", name := "at", desc := "(J)I" } : Jvm.MethodName) ({ cls := "SafeSweeps", name := "at", desc := "(J)I" } : Jvm.MethodName)) ∈ kw_tbl := kts_2 (i := 59) rfl rfl
set_option maxRecDepth 100000 in
theorem kt_300 : (Jvm.Cond.code ({ cls := "SafeSweeps", name := "at", desc := "(J)I" } : Jvm.MethodName) prog_1_method_2_code (3 : Nat) (Option.some Jvm.ClassFile.FieldType.int)) ∈ kw_tbl := kts_2 (i := 60) rfl rfl
set_option maxRecDepth 100000 in
theorem kt_301 : (Jvm.Cond.constantLong "SafeSweeps" (84 : Nat) (1000000000000 : Int64)) ∈ kw_tbl := kts_2 (i := 61) rfl rfl
set_option maxRecDepth 100000 in
theorem kt_302 : (Jvm.Cond.methodLink "SafeSweepsLaw" (28 : Nat) ({ cls := "SafeSweeps", name := "begin", desc := "(I)I" } : Jvm.MethodName)) ∈ kw_tbl := kts_2 (i := 62) rfl rfl
set_option maxRecDepth 100000 in
theorem kt_303 : (Jvm.Cond.instanceMethod ({ cls := "SafeSweeps", name := "begin", desc := "(I)I" } : Jvm.MethodName)) ∈ kw_tbl := kts_2 (i := 63) rfl rfl
set_option maxRecDepth 100000 in
theorem kt_304 : (Jvm.Cond.selects "SafeSweeps" ({ cls := "SafeSweeps", name := "begin", desc := "(I)I" } : Jvm.MethodName) ({ cls := "SafeSweeps", name := "begin", desc := "(I)I" } : Jvm.MethodName)) ∈ kw_tbl := kts_2 (i := 64) rfl rfl
set_option maxRecDepth 100000 in
theorem kt_305 : (Jvm.Cond.code ({ cls := "SafeSweeps", name := "begin", desc := "(I)I" } : Jvm.MethodName) prog_1_method_3_code (3 : Nat) (Option.some Jvm.ClassFile.FieldType.int)) ∈ kw_tbl := kts_2 (i := 65) rfl rfl
set_option maxRecDepth 100000 in
theorem kt_306 : (Jvm.Cond.constant "SafeSweeps" (86 : Nat) (1000000 : Int32)) ∈ kw_tbl := kts_2 (i := 66) rfl rfl
set_option maxRecDepth 100000 in
theorem kt_307 : (Jvm.Cond.methodLink "SafeSweeps" (90 : Nat) ({ cls := "SafeSweeps$Saver", name := "arrive", desc := "(IJ)V" } : Jvm.MethodName)) ∈ kw_tbl := kts_2 (i := 67) rfl rfl
set_option maxRecDepth 100000 in
theorem kt_308 : (Jvm.Cond.instanceMethod ({ cls := "SafeSweeps$Saver", name := "arrive", desc := "(IJ)V" } : Jvm.MethodName)) ∈ kw_tbl := kts_2 (i := 68) rfl rfl
set_option maxRecDepth 100000 in
theorem kt_309 : (Jvm.Cond.selects "SafeSweeps$Saver" ({ cls := "SafeSweeps$Saver", name := "arrive", desc := "(IJ)V" } : Jvm.MethodName) ({ cls := "SafeSweeps$Saver", name := "arrive", desc := "(IJ)V" } : Jvm.MethodName)) ∈ kw_tbl := kts_2 (i := 69) rfl rfl
set_option maxRecDepth 100000 in
theorem kt_310 : (Jvm.Cond.code ({ cls := "SafeSweeps$Saver", name := "arrive", desc := "(IJ)V" } : Jvm.MethodName) prog_9_method_2_code (4 : Nat) (Option.none : Option Jvm.ClassFile.FieldType)) ∈ kw_tbl := kts_2 (i := 70) rfl rfl
set_option maxRecDepth 100000 in
theorem kt_311 : (Jvm.Cond.methodLink "SafeSweeps$Saver" (32 : Nat) ({ cls := "SafeSweeps$Saver", name := "renew", desc := "(J)V" } : Jvm.MethodName)) ∈ kw_tbl := kts_2 (i := 71) rfl rfl
set_option maxRecDepth 100000 in
theorem kt_312 : (Jvm.Cond.instanceMethod ({ cls := "SafeSweeps$Saver", name := "renew", desc := "(J)V" } : Jvm.MethodName)) ∈ kw_tbl := kts_2 (i := 72) rfl rfl
set_option maxRecDepth 100000 in
theorem kt_313 : (Jvm.Cond.selects "SafeSweeps$Saver" ({ cls := "SafeSweeps$Saver", name := "renew", desc := "(J)V" } : Jvm.MethodName) ({ cls := "SafeSweeps$Saver", name := "renew", desc := "(J)V" } : Jvm.MethodName)) ∈ kw_tbl := kts_2 (i := 73) rfl rfl
set_option maxRecDepth 100000 in
theorem kt_314 : (Jvm.Cond.code ({ cls := "SafeSweeps$Saver", name := "renew", desc := "(J)V" } : Jvm.MethodName) prog_9_method_3_code (3 : Nat) (Option.none : Option Jvm.ClassFile.FieldType)) ∈ kw_tbl := kts_2 (i := 74) rfl rfl
set_option maxRecDepth 100000 in
theorem kt_315 : (Jvm.Cond.methodLink "SafeSweepsLaw" (33 : Nat) ({ cls := "SafeSweeps", name := "child", desc := "(II)I" } : Jvm.MethodName)) ∈ kw_tbl := kts_2 (i := 75) rfl rfl
set_option maxRecDepth 100000 in
theorem kt_316 : (Jvm.Cond.instanceMethod ({ cls := "SafeSweeps", name := "child", desc := "(II)I" } : Jvm.MethodName)) ∈ kw_tbl := kts_2 (i := 76) rfl rfl
set_option maxRecDepth 100000 in
theorem kt_317 : (Jvm.Cond.selects "SafeSweeps" ({ cls := "SafeSweeps", name := "child", desc := "(II)I" } : Jvm.MethodName) ({ cls := "SafeSweeps", name := "child", desc := "(II)I" } : Jvm.MethodName)) ∈ kw_tbl := kts_2 (i := 77) rfl rfl
set_option maxRecDepth 100000 in
theorem kt_318 : (Jvm.Cond.code ({ cls := "SafeSweeps", name := "child", desc := "(II)I" } : Jvm.MethodName) prog_1_method_4_code (4 : Nat) (Option.some Jvm.ClassFile.FieldType.int)) ∈ kw_tbl := kts_2 (i := 78) rfl rfl
set_option maxRecDepth 100000 in
theorem kt_319 : (Jvm.Cond.methodLink "SafeSweeps" (94 : Nat) ({ cls := "SafeSweeps", name := "renewed", desc := "(I)LSafeSweeps$Saver;" } : Jvm.MethodName)) ∈ kw_tbl := kts_2 (i := 79) rfl rfl
set_option maxRecDepth 100000 in
theorem kt_321 : (Jvm.Cond.instanceMethod ({ cls := "SafeSweeps", name := "renewed", desc := "(I)LSafeSweeps$Saver;" } : Jvm.MethodName)) ∈ kw_tbl := kts_2 (i := 81) rfl rfl
set_option maxRecDepth 100000 in
theorem kt_322 : (Jvm.Cond.code ({ cls := "SafeSweeps", name := "renewed", desc := "(I)LSafeSweeps$Saver;" } : Jvm.MethodName) prog_1_method_13_code (3 : Nat) (Option.some (Jvm.ClassFile.FieldType.object "SafeSweeps$Saver"))) ∈ kw_tbl := kts_2 (i := 82) rfl rfl
set_option maxRecDepth 100000 in
theorem kt_323 : (Jvm.Cond.methodLink "SafeSweeps" (177 : Nat) ({ cls := "SafeSweeps", name := "saverHere", desc := "(I)LSafeSweeps$Saver;" } : Jvm.MethodName)) ∈ kw_tbl := kts_2 (i := 83) rfl rfl
set_option maxRecDepth 100000 in
theorem kt_325 : (Jvm.Cond.instanceMethod ({ cls := "SafeSweeps", name := "saverHere", desc := "(I)LSafeSweeps$Saver;" } : Jvm.MethodName)) ∈ kw_tbl := kts_2 (i := 85) rfl rfl
set_option maxRecDepth 100000 in
theorem kt_326 : (Jvm.Cond.code ({ cls := "SafeSweeps", name := "saverHere", desc := "(I)LSafeSweeps$Saver;" } : Jvm.MethodName) prog_1_method_12_code (3 : Nat) (Option.some (Jvm.ClassFile.FieldType.object "SafeSweeps$Saver"))) ∈ kw_tbl := kts_2 (i := 86) rfl rfl
set_option maxRecDepth 100000 in
theorem kt_327 : (Jvm.Cond.methodLink "SafeSweeps" (102 : Nat) ({ cls := "SafeSweeps$Saver", name := "isDead", desc := "(J)Z" } : Jvm.MethodName)) ∈ kw_tbl := kts_2 (i := 87) rfl rfl
set_option maxRecDepth 100000 in
theorem kt_328 : (Jvm.Cond.instanceMethod ({ cls := "SafeSweeps$Saver", name := "isDead", desc := "(J)Z" } : Jvm.MethodName)) ∈ kw_tbl := kts_2 (i := 88) rfl rfl
set_option maxRecDepth 100000 in
theorem kt_329 : (Jvm.Cond.selects "SafeSweeps$Saver" ({ cls := "SafeSweeps$Saver", name := "isDead", desc := "(J)Z" } : Jvm.MethodName) ({ cls := "SafeSweeps$Saver", name := "isDead", desc := "(J)Z" } : Jvm.MethodName)) ∈ kw_tbl := kts_2 (i := 89) rfl rfl
set_option maxRecDepth 100000 in
theorem kt_330 : (Jvm.Cond.code ({ cls := "SafeSweeps$Saver", name := "isDead", desc := "(J)Z" } : Jvm.MethodName) prog_9_method_4_code (3 : Nat) (Option.some Jvm.ClassFile.FieldType.boolean)) ∈ kw_tbl := kts_2 (i := 90) rfl rfl
set_option maxRecDepth 100000 in
theorem kt_331 : (Jvm.Cond.methodLink "SafeSweeps" (196 : Nat) ({ cls := "SafeSweeps$Saver", name := "renew", desc := "(J)V" } : Jvm.MethodName)) ∈ kw_tbl := kts_2 (i := 91) rfl rfl
set_option maxRecDepth 100000 in
theorem kt_332 : (Jvm.Cond.methodLink "SafeSweeps" (98 : Nat) ({ cls := "SafeSweeps$Store", name := "holds", desc := "(I)Z" } : Jvm.MethodName)) ∈ kw_tbl := kts_2 (i := 92) rfl rfl
set_option maxRecDepth 100000 in
theorem kt_333 : (Jvm.Cond.instanceMethod ({ cls := "SafeSweeps$Store", name := "holds", desc := "(I)Z" } : Jvm.MethodName)) ∈ kw_tbl := kts_2 (i := 93) rfl rfl
set_option maxRecDepth 100000 in
theorem kt_334 : (Jvm.Cond.selects "SafeSweeps$Store" ({ cls := "SafeSweeps$Store", name := "holds", desc := "(I)Z" } : Jvm.MethodName) ({ cls := "SafeSweeps$Store", name := "holds", desc := "(I)Z" } : Jvm.MethodName)) ∈ kw_tbl := kts_2 (i := 94) rfl rfl
set_option maxRecDepth 100000 in
theorem kt_335 : (Jvm.Cond.code ({ cls := "SafeSweeps$Store", name := "holds", desc := "(I)Z" } : Jvm.MethodName) prog_11_method_2_code (2 : Nat) (Option.some Jvm.ClassFile.FieldType.boolean)) ∈ kw_tbl := kts_2 (i := 95) rfl rfl
set_option maxRecDepth 100000 in
theorem kt_336 : (Jvm.Cond.methodLink "SafeSweeps" (106 : Nat) ({ cls := "SafeSweeps$Saver", name := "uses", desc := "(I)Z" } : Jvm.MethodName)) ∈ kw_tbl := kts_2 (i := 96) rfl rfl
set_option maxRecDepth 100000 in
theorem kt_337 : (Jvm.Cond.instanceMethod ({ cls := "SafeSweeps$Saver", name := "uses", desc := "(I)Z" } : Jvm.MethodName)) ∈ kw_tbl := kts_2 (i := 97) rfl rfl
set_option maxRecDepth 100000 in
theorem kt_338 : (Jvm.Cond.selects "SafeSweeps$Saver" ({ cls := "SafeSweeps$Saver", name := "uses", desc := "(I)Z" } : Jvm.MethodName) ({ cls := "SafeSweeps$Saver", name := "uses", desc := "(I)Z" } : Jvm.MethodName)) ∈ kw_tbl := kts_2 (i := 98) rfl rfl
set_option maxRecDepth 100000 in
theorem kt_339 : (Jvm.Cond.code ({ cls := "SafeSweeps$Saver", name := "uses", desc := "(I)Z" } : Jvm.MethodName) prog_9_method_5_code (3 : Nat) (Option.some Jvm.ClassFile.FieldType.boolean)) ∈ kw_tbl := kts_2 (i := 99) rfl rfl
set_option maxRecDepth 100000 in
theorem kt_340 : (Jvm.Cond.methodLink "SafeSweeps" (109 : Nat) ({ cls := "SafeSweeps$Saver", name := "addChild", desc := "(I)Z" } : Jvm.MethodName)) ∈ kw_tbl := kts_2 (i := 100) rfl rfl
set_option maxRecDepth 100000 in
theorem kt_341 : (Jvm.Cond.instanceMethod ({ cls := "SafeSweeps$Saver", name := "addChild", desc := "(I)Z" } : Jvm.MethodName)) ∈ kw_tbl := kts_2 (i := 101) rfl rfl
set_option maxRecDepth 100000 in
theorem kt_342 : (Jvm.Cond.selects "SafeSweeps$Saver" ({ cls := "SafeSweeps$Saver", name := "addChild", desc := "(I)Z" } : Jvm.MethodName) ({ cls := "SafeSweeps$Saver", name := "addChild", desc := "(I)Z" } : Jvm.MethodName)) ∈ kw_tbl := kts_2 (i := 102) rfl rfl
set_option maxRecDepth 100000 in
theorem kt_343 : (Jvm.Cond.code ({ cls := "SafeSweeps$Saver", name := "addChild", desc := "(I)Z" } : Jvm.MethodName) prog_9_method_8_code (2 : Nat) (Option.some Jvm.ClassFile.FieldType.boolean)) ∈ kw_tbl := kts_2 (i := 103) rfl rfl
set_option maxRecDepth 100000 in
theorem kt_344 : (Jvm.Cond.methodLink "SafeSweepsLaw" (38 : Nat) ({ cls := "SafeSweeps", name := "save", desc := "(IJI)I" } : Jvm.MethodName)) ∈ kw_tbl := kts_2 (i := 104) rfl rfl
set_option maxRecDepth 100000 in
theorem kt_345 : (Jvm.Cond.instanceMethod ({ cls := "SafeSweeps", name := "save", desc := "(IJI)I" } : Jvm.MethodName)) ∈ kw_tbl := kts_2 (i := 105) rfl rfl
set_option maxRecDepth 100000 in
theorem kt_346 : (Jvm.Cond.selects "SafeSweeps" ({ cls := "SafeSweeps", name := "save", desc := "(IJI)I" } : Jvm.MethodName) ({ cls := "SafeSweeps", name := "save", desc := "(IJI)I" } : Jvm.MethodName)) ∈ kw_tbl := kts_2 (i := 106) rfl rfl
set_option maxRecDepth 100000 in
theorem kt_347 : (Jvm.Cond.code ({ cls := "SafeSweeps", name := "save", desc := "(IJI)I" } : Jvm.MethodName) prog_1_method_5_code (7 : Nat) (Option.some Jvm.ClassFile.FieldType.int)) ∈ kw_tbl := kts_2 (i := 107) rfl rfl
set_option maxRecDepth 100000 in
theorem kt_348 : (Jvm.Cond.methodLink "SafeSweeps" (123 : Nat) ({ cls := "SafeSweeps$Store", name := "find", desc := "(JI[II)I" } : Jvm.MethodName)) ∈ kw_tbl := kts_2 (i := 108) rfl rfl
set_option maxRecDepth 100000 in
theorem kt_349 : (Jvm.Cond.instanceMethod ({ cls := "SafeSweeps$Store", name := "find", desc := "(JI[II)I" } : Jvm.MethodName)) ∈ kw_tbl := kts_2 (i := 109) rfl rfl
set_option maxRecDepth 100000 in
theorem kt_350 : (Jvm.Cond.selects "SafeSweeps$Store" ({ cls := "SafeSweeps$Store", name := "find", desc := "(JI[II)I" } : Jvm.MethodName) ({ cls := "SafeSweeps$Store", name := "find", desc := "(JI[II)I" } : Jvm.MethodName)) ∈ kw_tbl := kts_2 (i := 110) rfl rfl
set_option maxRecDepth 100000 in
theorem kt_351 : (Jvm.Cond.code ({ cls := "SafeSweeps$Store", name := "find", desc := "(JI[II)I" } : Jvm.MethodName) prog_11_method_6_code (7 : Nat) (Option.some Jvm.ClassFile.FieldType.int)) ∈ kw_tbl := kts_2 (i := 111) rfl rfl
set_option maxRecDepth 100000 in
theorem kt_352 : (Jvm.Cond.methodLink "SafeSweeps$Store" (52 : Nat) ({ cls := "SafeSweeps$Block", name := "isLike", desc := "(JI[II)Z" } : Jvm.MethodName)) ∈ kw_tbl := kts_2 (i := 112) rfl rfl
set_option maxRecDepth 100000 in
theorem kt_353 : (Jvm.Cond.instanceMethod ({ cls := "SafeSweeps$Block", name := "isLike", desc := "(JI[II)Z" } : Jvm.MethodName)) ∈ kw_tbl := kts_2 (i := 113) rfl rfl
set_option maxRecDepth 100000 in
theorem kt_354 : (Jvm.Cond.selects "SafeSweeps$Block" ({ cls := "SafeSweeps$Block", name := "isLike", desc := "(JI[II)Z" } : Jvm.MethodName) ({ cls := "SafeSweeps$Block", name := "isLike", desc := "(JI[II)Z" } : Jvm.MethodName)) ∈ kw_tbl := kts_2 (i := 114) rfl rfl
set_option maxRecDepth 100000 in
theorem kt_355 : (Jvm.Cond.code ({ cls := "SafeSweeps$Block", name := "isLike", desc := "(JI[II)Z" } : Jvm.MethodName) prog_2_method_2_code (7 : Nat) (Option.some Jvm.ClassFile.FieldType.boolean)) ∈ kw_tbl := kts_2 (i := 115) rfl rfl
set_option maxRecDepth 100000 in
theorem kt_356 : (Jvm.Cond.methodLink "SafeSweeps" (127 : Nat) ({ cls := "SafeSweeps", name := "saveNew", desc := "(LSafeSweeps$Saver;JI)I" } : Jvm.MethodName)) ∈ kw_tbl := kts_2 (i := 116) rfl rfl
set_option maxRecDepth 100000 in
theorem kt_358 : (Jvm.Cond.instanceMethod ({ cls := "SafeSweeps", name := "saveNew", desc := "(LSafeSweeps$Saver;JI)I" } : Jvm.MethodName)) ∈ kw_tbl := kts_2 (i := 118) rfl rfl
set_option maxRecDepth 100000 in
theorem kt_359 : (Jvm.Cond.code ({ cls := "SafeSweeps", name := "saveNew", desc := "(LSafeSweeps$Saver;JI)I" } : Jvm.MethodName) prog_1_method_6_code (6 : Nat) (Option.some Jvm.ClassFile.FieldType.int)) ∈ kw_tbl := kts_2 (i := 119) rfl rfl
set_option maxRecDepth 100000 in
theorem kt_360 : (Jvm.Cond.methodLink "SafeSweeps" (138 : Nat) ({ cls := "SafeSweeps$Store", name := "hasRoomFor", desc := "(I)Z" } : Jvm.MethodName)) ∈ kw_tbl := kts_2 (i := 120) rfl rfl
set_option maxRecDepth 100000 in
theorem kt_361 : (Jvm.Cond.instanceMethod ({ cls := "SafeSweeps$Store", name := "hasRoomFor", desc := "(I)Z" } : Jvm.MethodName)) ∈ kw_tbl := kts_2 (i := 121) rfl rfl
set_option maxRecDepth 100000 in
theorem kt_362 : (Jvm.Cond.selects "SafeSweeps$Store" ({ cls := "SafeSweeps$Store", name := "hasRoomFor", desc := "(I)Z" } : Jvm.MethodName) ({ cls := "SafeSweeps$Store", name := "hasRoomFor", desc := "(I)Z" } : Jvm.MethodName)) ∈ kw_tbl := kts_2 (i := 122) rfl rfl
set_option maxRecDepth 100000 in
theorem kt_363 : (Jvm.Cond.code ({ cls := "SafeSweeps$Store", name := "hasRoomFor", desc := "(I)Z" } : Jvm.MethodName) prog_11_method_8_code (3 : Nat) (Option.some Jvm.ClassFile.FieldType.boolean)) ∈ kw_tbl := kts_2 (i := 123) rfl rfl
set_option maxRecDepth 100000 in
theorem kt_364 : (Jvm.Cond.methodLink "SafeSweeps$Store" (65 : Nat) ({ cls := "SafeSweeps$Store", name := "filledOfLatest", desc := "(I)I" } : Jvm.MethodName)) ∈ kw_tbl := kts_2 (i := 124) rfl rfl
set_option maxRecDepth 100000 in
theorem kt_365 : (Jvm.Cond.instanceMethod ({ cls := "SafeSweeps$Store", name := "filledOfLatest", desc := "(I)I" } : Jvm.MethodName)) ∈ kw_tbl := kts_2 (i := 125) rfl rfl
set_option maxRecDepth 100000 in
theorem kt_366 : (Jvm.Cond.selects "SafeSweeps$Store" ({ cls := "SafeSweeps$Store", name := "filledOfLatest", desc := "(I)I" } : Jvm.MethodName) ({ cls := "SafeSweeps$Store", name := "filledOfLatest", desc := "(I)I" } : Jvm.MethodName)) ∈ kw_tbl := kts_2 (i := 126) rfl rfl
set_option maxRecDepth 100000 in
theorem kt_367 : (Jvm.Cond.code ({ cls := "SafeSweeps$Store", name := "filledOfLatest", desc := "(I)I" } : Jvm.MethodName) prog_11_method_7_code (4 : Nat) (Option.some Jvm.ClassFile.FieldType.int)) ∈ kw_tbl := kts_2 (i := 127) rfl rfl
set_option maxRecDepth 100000 in
theorem kt_368 : (Jvm.Cond.methodLink "SafeSweeps" (141 : Nat) ({ cls := "java/util/Arrays", name := "copyOf", desc := "([II)[I" } : Jvm.MethodName)) ∈ kw_tbl := kts_2 (i := 128) rfl rfl
set_option maxRecDepth 100000 in
theorem kt_369 : (Jvm.Cond.static ({ cls := "java/util/Arrays", name := "copyOf", desc := "([II)[I" } : Jvm.MethodName)) ∈ kw_tbl := kts_2 (i := 129) rfl rfl
set_option maxRecDepth 100000 in
theorem kt_370 : (Jvm.Cond.code ({ cls := "java/util/Arrays", name := "copyOf", desc := "([II)[I" } : Jvm.MethodName) prog_18_method_123_code (3 : Nat) (Option.some (Jvm.ClassFile.FieldType.array Jvm.ClassFile.FieldType.int))) ∈ kw_tbl := kts_2 (i := 130) rfl rfl
set_option maxRecDepth 100000 in
theorem kt_371 : (Jvm.Cond.methodLink "java/util/Arrays" (316 : Nat) ({ cls := "[I", name := "clone", desc := "()Ljava/lang/Object;" } : Jvm.MethodName)) ∈ kw_tbl := kts_2 (i := 131) rfl rfl
set_option maxRecDepth 100000 in
theorem kt_374 : (Jvm.Cond.instanceMethod ({ cls := "java/lang/Object", name := "clone", desc := "()Ljava/lang/Object;" } : Jvm.MethodName)) ∈ kw_tbl := kts_2 (i := 134) rfl rfl
set_option maxRecDepth 100000 in
theorem kt_375 : (Jvm.Cond.selects "[I" ({ cls := "[I", name := "clone", desc := "()Ljava/lang/Object;" } : Jvm.MethodName) ({ cls := "java/lang/Object", name := "clone", desc := "()Ljava/lang/Object;" } : Jvm.MethodName)) ∈ kw_tbl := kts_2 (i := 135) rfl rfl
set_option maxRecDepth 100000 in
theorem kt_377 : (Jvm.Cond.classLink "java/util/Arrays" (317 : Nat) "[I") ∈ kw_tbl := kts_2 (i := 137) rfl rfl
set_option maxRecDepth 100000 in
theorem kt_378 : (Jvm.Cond.methodLink "java/util/Arrays" (304 : Nat) ({ cls := "java/lang/Math", name := "min", desc := "(II)I" } : Jvm.MethodName)) ∈ kw_tbl := kts_2 (i := 138) rfl rfl
set_option maxRecDepth 100000 in
theorem kt_379 : (Jvm.Cond.methodLink "java/util/Arrays" (150 : Nat) ({ cls := "java/lang/System", name := "arraycopy", desc := "(Ljava/lang/Object;ILjava/lang/Object;II)V" } : Jvm.MethodName)) ∈ kw_tbl := kts_2 (i := 139) rfl rfl
set_option maxRecDepth 100000 in
theorem kt_380 : (Jvm.Cond.static ({ cls := "java/lang/System", name := "arraycopy", desc := "(Ljava/lang/Object;ILjava/lang/Object;II)V" } : Jvm.MethodName)) ∈ kw_tbl := kts_2 (i := 140) rfl rfl
set_option maxRecDepth 100000 in
theorem kt_382 : (Jvm.Cond.methodLink "SafeSweeps" (147 : Nat) ({ cls := "SafeSweeps$Store", name := "add", desc := "(JI[I)I" } : Jvm.MethodName)) ∈ kw_tbl := kts_2 (i := 142) rfl rfl
set_option maxRecDepth 100000 in
theorem kt_383 : (Jvm.Cond.instanceMethod ({ cls := "SafeSweeps$Store", name := "add", desc := "(JI[I)I" } : Jvm.MethodName)) ∈ kw_tbl := kts_2 (i := 143) rfl rfl
set_option maxRecDepth 100000 in
theorem kt_384 : (Jvm.Cond.selects "SafeSweeps$Store" ({ cls := "SafeSweeps$Store", name := "add", desc := "(JI[I)I" } : Jvm.MethodName) ({ cls := "SafeSweeps$Store", name := "add", desc := "(JI[I)I" } : Jvm.MethodName)) ∈ kw_tbl := kts_2 (i := 144) rfl rfl
set_option maxRecDepth 100000 in
theorem kt_385 : (Jvm.Cond.code ({ cls := "SafeSweeps$Store", name := "add", desc := "(JI[I)I" } : Jvm.MethodName) prog_11_method_9_code (8 : Nat) (Option.some Jvm.ClassFile.FieldType.int)) ∈ kw_tbl := kts_2 (i := 145) rfl rfl
set_option maxRecDepth 100000 in
theorem kt_386 : (Jvm.Cond.methodLink "SafeSweeps$Store" (71 : Nat) ({ cls := "SafeSweeps$Journal", name := "write", desc := "(II)Z" } : Jvm.MethodName)) ∈ kw_tbl := kts_2 (i := 146) rfl rfl
set_option maxRecDepth 100000 in
theorem kt_387 : (Jvm.Cond.instanceMethod ({ cls := "SafeSweeps$Journal", name := "write", desc := "(II)Z" } : Jvm.MethodName)) ∈ kw_tbl := kts_2 (i := 147) rfl rfl
set_option maxRecDepth 100000 in
theorem kt_388 : (Jvm.Cond.selects "SafeSweeps$Journal" ({ cls := "SafeSweeps$Journal", name := "write", desc := "(II)Z" } : Jvm.MethodName) ({ cls := "SafeSweeps$Journal", name := "write", desc := "(II)Z" } : Jvm.MethodName)) ∈ kw_tbl := kts_2 (i := 148) rfl rfl
set_option maxRecDepth 100000 in
theorem kt_389 : (Jvm.Cond.code ({ cls := "SafeSweeps$Journal", name := "write", desc := "(II)Z" } : Jvm.MethodName) prog_4_method_3_code (3 : Nat) (Option.some Jvm.ClassFile.FieldType.boolean)) ∈ kw_tbl := kts_2 (i := 149) rfl rfl
set_option maxRecDepth 100000 in
theorem kt_390 : (Jvm.Cond.methodLink "SafeSweeps$Journal" (29 : Nat) ({ cls := "SafeSweeps$Journal", name := "write", desc := "()Z" } : Jvm.MethodName)) ∈ kw_tbl := kts_2 (i := 150) rfl rfl
set_option maxRecDepth 100000 in
theorem kt_391 : (Jvm.Cond.instanceMethod ({ cls := "SafeSweeps$Journal", name := "write", desc := "()Z" } : Jvm.MethodName)) ∈ kw_tbl := kts_2 (i := 151) rfl rfl
set_option maxRecDepth 100000 in
theorem kt_392 : (Jvm.Cond.selects "SafeSweeps$Journal" ({ cls := "SafeSweeps$Journal", name := "write", desc := "()Z" } : Jvm.MethodName) ({ cls := "SafeSweeps$Journal", name := "write", desc := "()Z" } : Jvm.MethodName)) ∈ kw_tbl := kts_2 (i := 152) rfl rfl
set_option maxRecDepth 100000 in
theorem kt_393 : (Jvm.Cond.code ({ cls := "SafeSweeps$Journal", name := "write", desc := "()Z" } : Jvm.MethodName) prog_4_method_2_code (1 : Nat) (Option.some Jvm.ClassFile.FieldType.boolean)) ∈ kw_tbl := kts_2 (i := 153) rfl rfl
set_option maxRecDepth 100000 in
theorem kt_394 : (Jvm.Cond.instantiable "SafeSweeps$Block" (8 : Nat)) ∈ kw_tbl := kts_2 (i := 154) rfl rfl
set_option maxRecDepth 100000 in
theorem kt_395 : (Jvm.Cond.methodLink "SafeSweeps$Store" (74 : Nat) ({ cls := "SafeSweeps$Block", name := "<init>", desc := "(JI[I)V" } : Jvm.MethodName)) ∈ kw_tbl := kts_2 (i := 155) rfl rfl
set_option maxRecDepth 100000 in
theorem kt_396 : (Jvm.Cond.instanceMethod ({ cls := "SafeSweeps$Block", name := "<init>", desc := "(JI[I)V" } : Jvm.MethodName)) ∈ kw_tbl := kts_2 (i := 156) rfl rfl
set_option maxRecDepth 100000 in
theorem kt_397 : (Jvm.Cond.code ({ cls := "SafeSweeps$Block", name := "<init>", desc := "(JI[I)V" } : Jvm.MethodName) prog_2_method_1_code (5 : Nat) (Option.none : Option Jvm.ClassFile.FieldType)) ∈ kw_tbl := kts_2 (i := 157) rfl rfl
set_option maxRecDepth 100000 in
theorem kt_398 : (Jvm.Cond.methodLink "SafeSweeps$Block" (1 : Nat) ({ cls := "java/lang/Object", name := "<init>", desc := "()V" } : Jvm.MethodName)) ∈ kw_tbl := kts_2 (i := 158) rfl rfl
set_option maxRecDepth 100000 in
theorem kt_399 : (Jvm.Cond.fieldLink "SafeSweeps$Block" (7 : Nat) "SafeSweeps$Block" "key" "J") ∈ kw_tbl := kts_2 (i := 159) rfl rfl
set_option maxRecDepth 100000 in
theorem kt_400 : (Jvm.Cond.fieldLink "SafeSweeps" (323 : Nat) "SafeSweeps$Block" "key" "J") ∈ kw_tbl := kts_2 (i := 160) rfl rfl
set_option maxRecDepth 100000 in
theorem kt_401 : (Jvm.Cond.fieldLink "SafeSweeps$Block" (13 : Nat) "SafeSweeps$Block" "size" "I") ∈ kw_tbl := kts_2 (i := 161) rfl rfl
set_option maxRecDepth 100000 in
theorem kt_402 : (Jvm.Cond.fieldLink "SafeSweeps$Mover" (93 : Nat) "SafeSweeps$Block" "size" "I") ∈ kw_tbl := kts_2 (i := 162) rfl rfl
set_option maxRecDepth 100000 in
theorem kt_403 : (Jvm.Cond.fieldLink "SafeSweeps$Store" (85 : Nat) "SafeSweeps$Block" "size" "I") ∈ kw_tbl := kts_2 (i := 163) rfl rfl
set_option maxRecDepth 100000 in
theorem kt_404 : (Jvm.Cond.fieldLink "SafeSweeps" (304 : Nat) "SafeSweeps$Block" "size" "I") ∈ kw_tbl := kts_2 (i := 164) rfl rfl
set_option maxRecDepth 100000 in
theorem kt_405 : (Jvm.Cond.fieldLink "SafeSweeps$Block" (17 : Nat) "SafeSweeps$Block" "children" "[I") ∈ kw_tbl := kts_2 (i := 165) rfl rfl
set_option maxRecDepth 100000 in
theorem kt_406 : (Jvm.Cond.fieldLink "SafeSweeps$Sweep" (94 : Nat) "SafeSweeps$Block" "children" "[I") ∈ kw_tbl := kts_2 (i := 166) rfl rfl
set_option maxRecDepth 100000 in
theorem kt_407 : (Jvm.Cond.fieldLink "SafeSweeps$Store" (101 : Nat) "SafeSweeps$Block" "children" "[I") ∈ kw_tbl := kts_2 (i := 167) rfl rfl
set_option maxRecDepth 100000 in
theorem kt_408 : (Jvm.Cond.fieldLink "SafeSweeps" (322 : Nat) "SafeSweeps$Block" "children" "[I") ∈ kw_tbl := kts_2 (i := 168) rfl rfl
set_option maxRecDepth 100000 in
theorem kt_409 : (Jvm.Cond.fieldLink "SafeSweeps$Store" (49 : Nat) "SafeSweeps$Block" "pack" "I") ∈ kw_tbl := kts_2 (i := 169) rfl rfl
set_option maxRecDepth 100000 in
theorem kt_410 : (Jvm.Cond.fieldLink "SafeSweeps" (307 : Nat) "SafeSweeps$Block" "pack" "I") ∈ kw_tbl := kts_2 (i := 170) rfl rfl
set_option maxRecDepth 100000 in
theorem kt_411 : (Jvm.Cond.fieldLink "SafeSweeps$Mover" (81 : Nat) "SafeSweeps$Block" "place" "I") ∈ kw_tbl := kts_2 (i := 171) rfl rfl
set_option maxRecDepth 100000 in
theorem kt_412 : (Jvm.Cond.fieldLink "SafeSweeps$Store" (82 : Nat) "SafeSweeps$Block" "place" "I") ∈ kw_tbl := kts_2 (i := 172) rfl rfl
set_option maxRecDepth 100000 in
theorem kt_413 : (Jvm.Cond.fieldLink "SafeSweeps" (310 : Nat) "SafeSweeps$Block" "place" "I") ∈ kw_tbl := kts_2 (i := 173) rfl rfl
set_option maxRecDepth 100000 in
theorem kt_414 : (Jvm.Cond.fieldLink "SafeSweeps$Store" (42 : Nat) "SafeSweeps$Block" "waiting" "I") ∈ kw_tbl := kts_2 (i := 174) rfl rfl
set_option maxRecDepth 100000 in
theorem kt_415 : (Jvm.Cond.fieldLink "SafeSweeps$Sweep" (101 : Nat) "SafeSweeps$Block" "waiting" "I") ∈ kw_tbl := kts_2 (i := 175) rfl rfl
set_option maxRecDepth 100000 in
theorem kt_416 : (Jvm.Cond.fieldLink "SafeSweeps" (313 : Nat) "SafeSweeps$Block" "waiting" "I") ∈ kw_tbl := kts_2 (i := 176) rfl rfl
set_option maxRecDepth 100000 in
theorem kt_417 : (Jvm.Cond.fieldLink "SafeSweeps$Store" (38 : Nat) "SafeSweeps$Block" "freed" "Z") ∈ kw_tbl := kts_2 (i := 177) rfl rfl
set_option maxRecDepth 100000 in
theorem kt_418 : (Jvm.Cond.fieldLink "SafeSweeps$Sweep" (108 : Nat) "SafeSweeps$Block" "freed" "Z") ∈ kw_tbl := kts_2 (i := 178) rfl rfl
set_option maxRecDepth 100000 in
theorem kt_419 : (Jvm.Cond.fieldLink "SafeSweeps" (299 : Nat) "SafeSweeps$Block" "freed" "Z") ∈ kw_tbl := kts_2 (i := 179) rfl rfl
set_option maxRecDepth 100000 in
theorem kt_420 : (Jvm.Cond.fieldLink "SafeSweeps$Sweep" (56 : Nat) "SafeSweeps$Block" "marked" "Z") ∈ kw_tbl := kts_2 (i := 180) rfl rfl
set_option maxRecDepth 100000 in
theorem kt_421 : (Jvm.Cond.fieldLink "SafeSweeps$Store" (114 : Nat) "SafeSweeps$Block" "marked" "Z") ∈ kw_tbl := kts_2 (i := 181) rfl rfl
set_option maxRecDepth 100000 in
theorem kt_422 : (Jvm.Cond.fieldLink "SafeSweeps" (316 : Nat) "SafeSweeps$Block" "marked" "Z") ∈ kw_tbl := kts_2 (i := 182) rfl rfl
set_option maxRecDepth 100000 in
theorem kt_423 : (Jvm.Cond.laysFinal "SafeSweeps$Block" "SafeSweeps$Block" "key" "J") ∈ kw_tbl := kts_2 (i := 183) rfl rfl
set_option maxRecDepth 100000 in
theorem kt_425 : (Jvm.Cond.laysFinal "SafeSweeps$Block" "SafeSweeps$Block" "size" "I") ∈ kw_tbl := kts_2 (i := 185) rfl rfl
set_option maxRecDepth 100000 in
theorem kt_427 : (Jvm.Cond.laysFinal "SafeSweeps$Block" "SafeSweeps$Block" "children" "[I") ∈ kw_tbl := kts_2 (i := 187) rfl rfl
set_option maxRecDepth 100000 in
theorem kt_429 : (Jvm.Cond.lays "SafeSweeps$Block" "SafeSweeps$Block" "pack" "I") ∈ kw_tbl := kts_2 (i := 189) rfl rfl
set_option maxRecDepth 100000 in
theorem kt_431 : (Jvm.Cond.lays "SafeSweeps$Block" "SafeSweeps$Block" "place" "I") ∈ kw_tbl := kts_2 (i := 191) rfl rfl
set_option maxRecDepth 100000 in
theorem kt_433 : (Jvm.Cond.lays "SafeSweeps$Block" "SafeSweeps$Block" "waiting" "I") ∈ kw_tbl := kts_2 (i := 193) rfl rfl
set_option maxRecDepth 100000 in
theorem kt_435 : (Jvm.Cond.lays "SafeSweeps$Block" "SafeSweeps$Block" "freed" "Z") ∈ kw_tbl := kts_2 (i := 195) rfl rfl
set_option maxRecDepth 100000 in
theorem kt_437 : (Jvm.Cond.lays "SafeSweeps$Block" "SafeSweeps$Block" "marked" "Z") ∈ kw_tbl := kts_2 (i := 197) rfl rfl
set_option maxRecDepth 100000 in
theorem kt_440 : (Jvm.Cond.methodLink "SafeSweeps$Store" (77 : Nat) ({ cls := "SafeSweeps$Store", name := "lay", desc := "(III)V" } : Jvm.MethodName)) ∈ kw_tbl := kts_2 (i := 200) rfl rfl
set_option maxRecDepth 100000 in
theorem kt_441 : (Jvm.Cond.instanceMethod ({ cls := "SafeSweeps$Store", name := "lay", desc := "(III)V" } : Jvm.MethodName)) ∈ kw_tbl := kts_2 (i := 201) rfl rfl
set_option maxRecDepth 100000 in
theorem kt_442 : (Jvm.Cond.selects "SafeSweeps$Store" ({ cls := "SafeSweeps$Store", name := "lay", desc := "(III)V" } : Jvm.MethodName) ({ cls := "SafeSweeps$Store", name := "lay", desc := "(III)V" } : Jvm.MethodName)) ∈ kw_tbl := kts_2 (i := 202) rfl rfl
set_option maxRecDepth 100000 in
theorem kt_443 : (Jvm.Cond.code ({ cls := "SafeSweeps$Store", name := "lay", desc := "(III)V" } : Jvm.MethodName) prog_11_method_10_code (4 : Nat) (Option.none : Option Jvm.ClassFile.FieldType)) ∈ kw_tbl := kts_2 (i := 203) rfl rfl
set_option maxRecDepth 100000 in
theorem kt_444 : (Jvm.Cond.instantiable "SafeSweeps$Pack" (3 : Nat)) ∈ kw_tbl := kts_2 (i := 204) rfl rfl
set_option maxRecDepth 100000 in
theorem kt_446 : (Jvm.Cond.instanceMethod ({ cls := "SafeSweeps$Pack", name := "<init>", desc := "()V" } : Jvm.MethodName)) ∈ kw_tbl := kts_2 (i := 206) rfl rfl
set_option maxRecDepth 100000 in
theorem kt_447 : (Jvm.Cond.code ({ cls := "SafeSweeps$Pack", name := "<init>", desc := "()V" } : Jvm.MethodName) prog_7_method_1_code (1 : Nat) (Option.none : Option Jvm.ClassFile.FieldType)) ∈ kw_tbl := kts_2 (i := 207) rfl rfl
set_option maxRecDepth 100000 in
theorem kt_448 : (Jvm.Cond.methodLink "SafeSweeps$Pack" (1 : Nat) ({ cls := "java/lang/Object", name := "<init>", desc := "()V" } : Jvm.MethodName)) ∈ kw_tbl := kts_2 (i := 208) rfl rfl
set_option maxRecDepth 100000 in
theorem kt_449 : (Jvm.Cond.fieldLink "SafeSweeps$Mover" (44 : Nat) "SafeSweeps$Pack" "all" "I") ∈ kw_tbl := kts_2 (i := 209) rfl rfl
set_option maxRecDepth 100000 in
theorem kt_450 : (Jvm.Cond.fieldLink "SafeSweeps$Store" (62 : Nat) "SafeSweeps$Pack" "all" "I") ∈ kw_tbl := kts_2 (i := 210) rfl rfl
set_option maxRecDepth 100000 in
theorem kt_451 : (Jvm.Cond.fieldLink "SafeSweeps" (333 : Nat) "SafeSweeps$Pack" "all" "I") ∈ kw_tbl := kts_2 (i := 211) rfl rfl
set_option maxRecDepth 100000 in
theorem kt_452 : (Jvm.Cond.fieldLink "SafeSweeps$Mover" (40 : Nat) "SafeSweeps$Pack" "holes" "I") ∈ kw_tbl := kts_2 (i := 212) rfl rfl
set_option maxRecDepth 100000 in
theorem kt_453 : (Jvm.Cond.fieldLink "SafeSweeps$Store" (88 : Nat) "SafeSweeps$Pack" "holes" "I") ∈ kw_tbl := kts_2 (i := 213) rfl rfl
set_option maxRecDepth 100000 in
theorem kt_454 : (Jvm.Cond.fieldLink "SafeSweeps" (336 : Nat) "SafeSweeps$Pack" "holes" "I") ∈ kw_tbl := kts_2 (i := 214) rfl rfl
set_option maxRecDepth 100000 in
theorem kt_455 : (Jvm.Cond.fieldLink "SafeSweeps$Mover" (34 : Nat) "SafeSweeps$Pack" "gone" "Z") ∈ kw_tbl := kts_2 (i := 215) rfl rfl
set_option maxRecDepth 100000 in
theorem kt_456 : (Jvm.Cond.fieldLink "SafeSweeps$Store" (59 : Nat) "SafeSweeps$Pack" "gone" "Z") ∈ kw_tbl := kts_2 (i := 216) rfl rfl
set_option maxRecDepth 100000 in
theorem kt_457 : (Jvm.Cond.fieldLink "SafeSweeps" (330 : Nat) "SafeSweeps$Pack" "gone" "Z") ∈ kw_tbl := kts_2 (i := 217) rfl rfl
set_option maxRecDepth 100000 in
theorem kt_458 : (Jvm.Cond.lays "SafeSweeps$Pack" "SafeSweeps$Pack" "all" "I") ∈ kw_tbl := kts_2 (i := 218) rfl rfl
set_option maxRecDepth 100000 in
theorem kt_460 : (Jvm.Cond.lays "SafeSweeps$Pack" "SafeSweeps$Pack" "holes" "I") ∈ kw_tbl := kts_2 (i := 220) rfl rfl
set_option maxRecDepth 100000 in
theorem kt_462 : (Jvm.Cond.lays "SafeSweeps$Pack" "SafeSweeps$Pack" "gone" "Z") ∈ kw_tbl := kts_2 (i := 222) rfl rfl
set_option maxRecDepth 100000 in
theorem kt_465 : (Jvm.Cond.methodLink "SafeSweeps" (151 : Nat) ({ cls := "SafeSweeps", name := "losePower", desc := "()I" } : Jvm.MethodName)) ∈ kw_tbl := kts_2 (i := 225) rfl rfl
set_option maxRecDepth 100000 in
theorem kt_467 : (Jvm.Cond.instanceMethod ({ cls := "SafeSweeps", name := "losePower", desc := "()I" } : Jvm.MethodName)) ∈ kw_tbl := kts_2 (i := 227) rfl rfl
set_option maxRecDepth 100000 in
theorem kt_468 : (Jvm.Cond.code ({ cls := "SafeSweeps", name := "losePower", desc := "()I" } : Jvm.MethodName) prog_1_method_30_code (2 : Nat) (Option.some Jvm.ClassFile.FieldType.int)) ∈ kw_tbl := kts_2 (i := 228) rfl rfl
set_option maxRecDepth 100000 in
theorem kt_469 : (Jvm.Cond.methodLink "SafeSweeps" (155 : Nat) ({ cls := "SafeSweeps$Saver", name := "use", desc := "(I)V" } : Jvm.MethodName)) ∈ kw_tbl := kts_2 (i := 229) rfl rfl
set_option maxRecDepth 100000 in
theorem kt_470 : (Jvm.Cond.instanceMethod ({ cls := "SafeSweeps$Saver", name := "use", desc := "(I)V" } : Jvm.MethodName)) ∈ kw_tbl := kts_2 (i := 230) rfl rfl
set_option maxRecDepth 100000 in
theorem kt_471 : (Jvm.Cond.selects "SafeSweeps$Saver" ({ cls := "SafeSweeps$Saver", name := "use", desc := "(I)V" } : Jvm.MethodName) ({ cls := "SafeSweeps$Saver", name := "use", desc := "(I)V" } : Jvm.MethodName)) ∈ kw_tbl := kts_2 (i := 231) rfl rfl
set_option maxRecDepth 100000 in
theorem kt_472 : (Jvm.Cond.code ({ cls := "SafeSweeps$Saver", name := "use", desc := "(I)V" } : Jvm.MethodName) prog_9_method_7_code (2 : Nat) (Option.none : Option Jvm.ClassFile.FieldType)) ∈ kw_tbl := kts_2 (i := 232) rfl rfl
set_option maxRecDepth 100000 in
theorem kt_473 : (Jvm.Cond.methodLink "SafeSweeps$Saver" (40 : Nat) ({ cls := "SafeSweeps$Saver", name := "uses", desc := "(I)Z" } : Jvm.MethodName)) ∈ kw_tbl := kts_2 (i := 233) rfl rfl
set_option maxRecDepth 100000 in
theorem kt_474 : (Jvm.Cond.methodLink "SafeSweeps" (131 : Nat) ({ cls := "SafeSweeps", name := "saveFound", desc := "(LSafeSweeps$Saver;I)I" } : Jvm.MethodName)) ∈ kw_tbl := kts_2 (i := 234) rfl rfl
set_option maxRecDepth 100000 in
theorem kt_476 : (Jvm.Cond.instanceMethod ({ cls := "SafeSweeps", name := "saveFound", desc := "(LSafeSweeps$Saver;I)I" } : Jvm.MethodName)) ∈ kw_tbl := kts_2 (i := 236) rfl rfl
set_option maxRecDepth 100000 in
theorem kt_477 : (Jvm.Cond.code ({ cls := "SafeSweeps", name := "saveFound", desc := "(LSafeSweeps$Saver;I)I" } : Jvm.MethodName) prog_1_method_7_code (3 : Nat) (Option.some Jvm.ClassFile.FieldType.int)) ∈ kw_tbl := kts_2 (i := 237) rfl rfl
set_option maxRecDepth 100000 in
theorem kt_478 : (Jvm.Cond.methodLink "SafeSweeps" (159 : Nat) ({ cls := "SafeSweeps$Saver", name := "canUse", desc := "(I)Z" } : Jvm.MethodName)) ∈ kw_tbl := kts_2 (i := 238) rfl rfl
set_option maxRecDepth 100000 in
theorem kt_479 : (Jvm.Cond.instanceMethod ({ cls := "SafeSweeps$Saver", name := "canUse", desc := "(I)Z" } : Jvm.MethodName)) ∈ kw_tbl := kts_2 (i := 239) rfl rfl
set_option maxRecDepth 100000 in
theorem kt_480 : (Jvm.Cond.selects "SafeSweeps$Saver" ({ cls := "SafeSweeps$Saver", name := "canUse", desc := "(I)Z" } : Jvm.MethodName) ({ cls := "SafeSweeps$Saver", name := "canUse", desc := "(I)Z" } : Jvm.MethodName)) ∈ kw_tbl := kts_3 (i := 0) rfl rfl
set_option maxRecDepth 100000 in
theorem kt_481 : (Jvm.Cond.code ({ cls := "SafeSweeps$Saver", name := "canUse", desc := "(I)Z" } : Jvm.MethodName) prog_9_method_6_code (2 : Nat) (Option.some Jvm.ClassFile.FieldType.boolean)) ∈ kw_tbl := kts_3 (i := 1) rfl rfl
set_option maxRecDepth 100000 in
theorem kt_482 : (Jvm.Cond.methodLink "SafeSweeps" (162 : Nat) ({ cls := "SafeSweeps", name := "takeFor", desc := "(LSafeSweeps$Saver;I)I" } : Jvm.MethodName)) ∈ kw_tbl := kts_3 (i := 2) rfl rfl
set_option maxRecDepth 100000 in
theorem kt_484 : (Jvm.Cond.instanceMethod ({ cls := "SafeSweeps", name := "takeFor", desc := "(LSafeSweeps$Saver;I)I" } : Jvm.MethodName)) ∈ kw_tbl := kts_3 (i := 4) rfl rfl
set_option maxRecDepth 100000 in
theorem kt_485 : (Jvm.Cond.code ({ cls := "SafeSweeps", name := "takeFor", desc := "(LSafeSweeps$Saver;I)I" } : Jvm.MethodName) prog_1_method_9_code (4 : Nat) (Option.some Jvm.ClassFile.FieldType.int)) ∈ kw_tbl := kts_3 (i := 5) rfl rfl
set_option maxRecDepth 100000 in
theorem kt_486 : (Jvm.Cond.methodLink "SafeSweeps" (165 : Nat) ({ cls := "SafeSweeps$Store", name := "reachNothing", desc := "()V" } : Jvm.MethodName)) ∈ kw_tbl := kts_3 (i := 6) rfl rfl
set_option maxRecDepth 100000 in
theorem kt_487 : (Jvm.Cond.instanceMethod ({ cls := "SafeSweeps$Store", name := "reachNothing", desc := "()V" } : Jvm.MethodName)) ∈ kw_tbl := kts_3 (i := 7) rfl rfl
set_option maxRecDepth 100000 in
theorem kt_488 : (Jvm.Cond.selects "SafeSweeps$Store" ({ cls := "SafeSweeps$Store", name := "reachNothing", desc := "()V" } : Jvm.MethodName) ({ cls := "SafeSweeps$Store", name := "reachNothing", desc := "()V" } : Jvm.MethodName)) ∈ kw_tbl := kts_3 (i := 8) rfl rfl
set_option maxRecDepth 100000 in
theorem kt_489 : (Jvm.Cond.code ({ cls := "SafeSweeps$Store", name := "reachNothing", desc := "()V" } : Jvm.MethodName) prog_11_method_13_code (2 : Nat) (Option.none : Option Jvm.ClassFile.FieldType)) ∈ kw_tbl := kts_3 (i := 9) rfl rfl
set_option maxRecDepth 100000 in
theorem kt_490 : (Jvm.Cond.methodLink "SafeSweeps" (168 : Nat) ({ cls := "SafeSweeps$Store", name := "reachFrom", desc := "(I)V" } : Jvm.MethodName)) ∈ kw_tbl := kts_3 (i := 10) rfl rfl
set_option maxRecDepth 100000 in
theorem kt_491 : (Jvm.Cond.instanceMethod ({ cls := "SafeSweeps$Store", name := "reachFrom", desc := "(I)V" } : Jvm.MethodName)) ∈ kw_tbl := kts_3 (i := 11) rfl rfl
set_option maxRecDepth 100000 in
theorem kt_492 : (Jvm.Cond.selects "SafeSweeps$Store" ({ cls := "SafeSweeps$Store", name := "reachFrom", desc := "(I)V" } : Jvm.MethodName) ({ cls := "SafeSweeps$Store", name := "reachFrom", desc := "(I)V" } : Jvm.MethodName)) ∈ kw_tbl := kts_3 (i := 12) rfl rfl
set_option maxRecDepth 100000 in
theorem kt_493 : (Jvm.Cond.code ({ cls := "SafeSweeps$Store", name := "reachFrom", desc := "(I)V" } : Jvm.MethodName) prog_11_method_14_code (3 : Nat) (Option.none : Option Jvm.ClassFile.FieldType)) ∈ kw_tbl := kts_3 (i := 13) rfl rfl
set_option maxRecDepth 100000 in
theorem kt_494 : (Jvm.Cond.methodLink "SafeSweeps$Store" (97 : Nat) ({ cls := "SafeSweeps$Store", name := "reachChildren", desc := "(I)V" } : Jvm.MethodName)) ∈ kw_tbl := kts_3 (i := 14) rfl rfl
set_option maxRecDepth 100000 in
theorem kt_495 : (Jvm.Cond.instanceMethod ({ cls := "SafeSweeps$Store", name := "reachChildren", desc := "(I)V" } : Jvm.MethodName)) ∈ kw_tbl := kts_3 (i := 15) rfl rfl
set_option maxRecDepth 100000 in
theorem kt_496 : (Jvm.Cond.selects "SafeSweeps$Store" ({ cls := "SafeSweeps$Store", name := "reachChildren", desc := "(I)V" } : Jvm.MethodName) ({ cls := "SafeSweeps$Store", name := "reachChildren", desc := "(I)V" } : Jvm.MethodName)) ∈ kw_tbl := kts_3 (i := 16) rfl rfl
set_option maxRecDepth 100000 in
theorem kt_497 : (Jvm.Cond.code ({ cls := "SafeSweeps$Store", name := "reachChildren", desc := "(I)V" } : Jvm.MethodName) prog_11_method_15_code (4 : Nat) (Option.none : Option Jvm.ClassFile.FieldType)) ∈ kw_tbl := kts_3 (i := 17) rfl rfl
set_option maxRecDepth 100000 in
theorem kt_498 : (Jvm.Cond.methodLink "SafeSweeps" (171 : Nat) ({ cls := "SafeSweeps$Store", name := "reviveReached", desc := "()I" } : Jvm.MethodName)) ∈ kw_tbl := kts_3 (i := 18) rfl rfl
set_option maxRecDepth 100000 in
theorem kt_499 : (Jvm.Cond.instanceMethod ({ cls := "SafeSweeps$Store", name := "reviveReached", desc := "()I" } : Jvm.MethodName)) ∈ kw_tbl := kts_3 (i := 19) rfl rfl
set_option maxRecDepth 100000 in
theorem kt_500 : (Jvm.Cond.selects "SafeSweeps$Store" ({ cls := "SafeSweeps$Store", name := "reviveReached", desc := "()I" } : Jvm.MethodName) ({ cls := "SafeSweeps$Store", name := "reviveReached", desc := "()I" } : Jvm.MethodName)) ∈ kw_tbl := kts_3 (i := 20) rfl rfl
set_option maxRecDepth 100000 in
theorem kt_501 : (Jvm.Cond.code ({ cls := "SafeSweeps$Store", name := "reviveReached", desc := "()I" } : Jvm.MethodName) prog_11_method_18_code (3 : Nat) (Option.some Jvm.ClassFile.FieldType.int)) ∈ kw_tbl := kts_3 (i := 21) rfl rfl
set_option maxRecDepth 100000 in
theorem kt_502 : (Jvm.Cond.methodLink "SafeSweeps$Store" (108 : Nat) ({ cls := "SafeSweeps$Store", name := "await", desc := "(II)Z" } : Jvm.MethodName)) ∈ kw_tbl := kts_3 (i := 22) rfl rfl
set_option maxRecDepth 100000 in
theorem kt_503 : (Jvm.Cond.instanceMethod ({ cls := "SafeSweeps$Store", name := "await", desc := "(II)Z" } : Jvm.MethodName)) ∈ kw_tbl := kts_3 (i := 23) rfl rfl
set_option maxRecDepth 100000 in
theorem kt_504 : (Jvm.Cond.selects "SafeSweeps$Store" ({ cls := "SafeSweeps$Store", name := "await", desc := "(II)Z" } : Jvm.MethodName) ({ cls := "SafeSweeps$Store", name := "await", desc := "(II)Z" } : Jvm.MethodName)) ∈ kw_tbl := kts_3 (i := 24) rfl rfl
set_option maxRecDepth 100000 in
theorem kt_505 : (Jvm.Cond.code ({ cls := "SafeSweeps$Store", name := "await", desc := "(II)Z" } : Jvm.MethodName) prog_11_method_12_code (3 : Nat) (Option.some Jvm.ClassFile.FieldType.boolean)) ∈ kw_tbl := kts_3 (i := 25) rfl rfl
set_option maxRecDepth 100000 in
theorem kt_506 : (Jvm.Cond.methodLink "SafeSweeps$Store" (94 : Nat) ({ cls := "SafeSweeps$Journal", name := "write", desc := "()Z" } : Jvm.MethodName)) ∈ kw_tbl := kts_3 (i := 26) rfl rfl
set_option maxRecDepth 100000 in
theorem kt_507 : (Jvm.Cond.methodLink "SafeSweeps" (174 : Nat) ({ cls := "SafeSweeps$Sweep", name := "spareReached", desc := "(I)V" } : Jvm.MethodName)) ∈ kw_tbl := kts_3 (i := 27) rfl rfl
set_option maxRecDepth 100000 in
theorem kt_508 : (Jvm.Cond.instanceMethod ({ cls := "SafeSweeps$Sweep", name := "spareReached", desc := "(I)V" } : Jvm.MethodName)) ∈ kw_tbl := kts_3 (i := 28) rfl rfl
set_option maxRecDepth 100000 in
theorem kt_509 : (Jvm.Cond.selects "SafeSweeps$Sweep" ({ cls := "SafeSweeps$Sweep", name := "spareReached", desc := "(I)V" } : Jvm.MethodName) ({ cls := "SafeSweeps$Sweep", name := "spareReached", desc := "(I)V" } : Jvm.MethodName)) ∈ kw_tbl := kts_3 (i := 29) rfl rfl
set_option maxRecDepth 100000 in
theorem kt_510 : (Jvm.Cond.code ({ cls := "SafeSweeps$Sweep", name := "spareReached", desc := "(I)V" } : Jvm.MethodName) prog_12_method_5_code (2 : Nat) (Option.none : Option Jvm.ClassFile.FieldType)) ∈ kw_tbl := kts_3 (i := 30) rfl rfl
set_option maxRecDepth 100000 in
theorem kt_511 : (Jvm.Cond.methodLink "SafeSweeps$Sweep" (66 : Nat) ({ cls := "SafeSweeps$Store", name := "markReached", desc := "()V" } : Jvm.MethodName)) ∈ kw_tbl := kts_3 (i := 31) rfl rfl
set_option maxRecDepth 100000 in
theorem kt_512 : (Jvm.Cond.instanceMethod ({ cls := "SafeSweeps$Store", name := "markReached", desc := "()V" } : Jvm.MethodName)) ∈ kw_tbl := kts_3 (i := 32) rfl rfl
set_option maxRecDepth 100000 in
theorem kt_513 : (Jvm.Cond.selects "SafeSweeps$Store" ({ cls := "SafeSweeps$Store", name := "markReached", desc := "()V" } : Jvm.MethodName) ({ cls := "SafeSweeps$Store", name := "markReached", desc := "()V" } : Jvm.MethodName)) ∈ kw_tbl := kts_3 (i := 33) rfl rfl
set_option maxRecDepth 100000 in
theorem kt_514 : (Jvm.Cond.code ({ cls := "SafeSweeps$Store", name := "markReached", desc := "()V" } : Jvm.MethodName) prog_11_method_19_code (2 : Nat) (Option.none : Option Jvm.ClassFile.FieldType)) ∈ kw_tbl := kts_3 (i := 34) rfl rfl
set_option maxRecDepth 100000 in
theorem kt_515 : (Jvm.Cond.methodLink "SafeSweeps$Sweep" (62 : Nat) ({ cls := "SafeSweeps$Sweep", name := "lineUp", desc := "(I)V" } : Jvm.MethodName)) ∈ kw_tbl := kts_3 (i := 35) rfl rfl
set_option maxRecDepth 100000 in
theorem kt_516 : (Jvm.Cond.instanceMethod ({ cls := "SafeSweeps$Sweep", name := "lineUp", desc := "(I)V" } : Jvm.MethodName)) ∈ kw_tbl := kts_3 (i := 36) rfl rfl
set_option maxRecDepth 100000 in
theorem kt_517 : (Jvm.Cond.selects "SafeSweeps$Sweep" ({ cls := "SafeSweeps$Sweep", name := "lineUp", desc := "(I)V" } : Jvm.MethodName) ({ cls := "SafeSweeps$Sweep", name := "lineUp", desc := "(I)V" } : Jvm.MethodName)) ∈ kw_tbl := kts_3 (i := 37) rfl rfl
set_option maxRecDepth 100000 in
theorem kt_518 : (Jvm.Cond.code ({ cls := "SafeSweeps$Sweep", name := "lineUp", desc := "(I)V" } : Jvm.MethodName) prog_12_method_3_code (2 : Nat) (Option.none : Option Jvm.ClassFile.FieldType)) ∈ kw_tbl := kts_3 (i := 38) rfl rfl
set_option maxRecDepth 100000 in
theorem kt_519 : (Jvm.Cond.methodLink "SafeSweepsLaw" (43 : Nat) ({ cls := "SafeSweeps", name := "take", desc := "(II)I" } : Jvm.MethodName)) ∈ kw_tbl := kts_3 (i := 39) rfl rfl
set_option maxRecDepth 100000 in
theorem kt_520 : (Jvm.Cond.instanceMethod ({ cls := "SafeSweeps", name := "take", desc := "(II)I" } : Jvm.MethodName)) ∈ kw_tbl := kts_3 (i := 40) rfl rfl
set_option maxRecDepth 100000 in
theorem kt_521 : (Jvm.Cond.selects "SafeSweeps" ({ cls := "SafeSweeps", name := "take", desc := "(II)I" } : Jvm.MethodName) ({ cls := "SafeSweeps", name := "take", desc := "(II)I" } : Jvm.MethodName)) ∈ kw_tbl := kts_3 (i := 41) rfl rfl
set_option maxRecDepth 100000 in
theorem kt_522 : (Jvm.Cond.code ({ cls := "SafeSweeps", name := "take", desc := "(II)I" } : Jvm.MethodName) prog_1_method_8_code (4 : Nat) (Option.some Jvm.ClassFile.FieldType.int)) ∈ kw_tbl := kts_3 (i := 42) rfl rfl
set_option maxRecDepth 100000 in
theorem kt_523 : (Jvm.Cond.methodLink "SafeSweepsLaw" (47 : Nat) ({ cls := "SafeSweeps", name := "commit", desc := "(II)I" } : Jvm.MethodName)) ∈ kw_tbl := kts_3 (i := 43) rfl rfl
set_option maxRecDepth 100000 in
theorem kt_524 : (Jvm.Cond.instanceMethod ({ cls := "SafeSweeps", name := "commit", desc := "(II)I" } : Jvm.MethodName)) ∈ kw_tbl := kts_3 (i := 44) rfl rfl
set_option maxRecDepth 100000 in
theorem kt_525 : (Jvm.Cond.selects "SafeSweeps" ({ cls := "SafeSweeps", name := "commit", desc := "(II)I" } : Jvm.MethodName) ({ cls := "SafeSweeps", name := "commit", desc := "(II)I" } : Jvm.MethodName)) ∈ kw_tbl := kts_3 (i := 45) rfl rfl
set_option maxRecDepth 100000 in
theorem kt_526 : (Jvm.Cond.code ({ cls := "SafeSweeps", name := "commit", desc := "(II)I" } : Jvm.MethodName) prog_1_method_10_code (5 : Nat) (Option.some Jvm.ClassFile.FieldType.int)) ∈ kw_tbl := kts_3 (i := 46) rfl rfl
set_option maxRecDepth 100000 in
theorem kt_527 : (Jvm.Cond.methodLink "SafeSweeps" (183 : Nat) ({ cls := "SafeSweeps", name := "snapshotsThere", desc := "()I" } : Jvm.MethodName)) ∈ kw_tbl := kts_3 (i := 47) rfl rfl
set_option maxRecDepth 100000 in
theorem kt_529 : (Jvm.Cond.instanceMethod ({ cls := "SafeSweeps", name := "snapshotsThere", desc := "()I" } : Jvm.MethodName)) ∈ kw_tbl := kts_3 (i := 49) rfl rfl
set_option maxRecDepth 100000 in
theorem kt_530 : (Jvm.Cond.code ({ cls := "SafeSweeps", name := "snapshotsThere", desc := "()I" } : Jvm.MethodName) prog_1_method_22_code (3 : Nat) (Option.some Jvm.ClassFile.FieldType.int)) ∈ kw_tbl := kts_3 (i := 50) rfl rfl
set_option maxRecDepth 100000 in
theorem kt_531 : (Jvm.Cond.methodLink "SafeSweeps" (186 : Nat) ({ cls := "SafeSweeps$Journal", name := "write", desc := "(II)Z" } : Jvm.MethodName)) ∈ kw_tbl := kts_3 (i := 51) rfl rfl
set_option maxRecDepth 100000 in
theorem kt_532 : (Jvm.Cond.instantiable "SafeSweeps$Snapshot" (4 : Nat)) ∈ kw_tbl := kts_3 (i := 52) rfl rfl
set_option maxRecDepth 100000 in
theorem kt_533 : (Jvm.Cond.methodLink "SafeSweeps" (193 : Nat) ({ cls := "SafeSweeps$Snapshot", name := "<init>", desc := "(JI[I)V" } : Jvm.MethodName)) ∈ kw_tbl := kts_3 (i := 53) rfl rfl
set_option maxRecDepth 100000 in
theorem kt_534 : (Jvm.Cond.instanceMethod ({ cls := "SafeSweeps$Snapshot", name := "<init>", desc := "(JI[I)V" } : Jvm.MethodName)) ∈ kw_tbl := kts_3 (i := 54) rfl rfl
set_option maxRecDepth 100000 in
theorem kt_535 : (Jvm.Cond.code ({ cls := "SafeSweeps$Snapshot", name := "<init>", desc := "(JI[I)V" } : Jvm.MethodName) prog_10_method_1_code (5 : Nat) (Option.none : Option Jvm.ClassFile.FieldType)) ∈ kw_tbl := kts_3 (i := 55) rfl rfl
set_option maxRecDepth 100000 in
theorem kt_536 : (Jvm.Cond.methodLink "SafeSweeps$Snapshot" (1 : Nat) ({ cls := "java/lang/Object", name := "<init>", desc := "()V" } : Jvm.MethodName)) ∈ kw_tbl := kts_3 (i := 56) rfl rfl
set_option maxRecDepth 100000 in
theorem kt_537 : (Jvm.Cond.fieldLink "SafeSweeps$Snapshot" (7 : Nat) "SafeSweeps$Snapshot" "time" "J") ∈ kw_tbl := kts_3 (i := 57) rfl rfl
set_option maxRecDepth 100000 in
theorem kt_538 : (Jvm.Cond.fieldLink "SafeSweeps$Rules" (32 : Nat) "SafeSweeps$Snapshot" "time" "J") ∈ kw_tbl := kts_3 (i := 58) rfl rfl
set_option maxRecDepth 100000 in
theorem kt_539 : (Jvm.Cond.fieldLink "SafeSweeps" (345 : Nat) "SafeSweeps$Snapshot" "time" "J") ∈ kw_tbl := kts_3 (i := 59) rfl rfl
set_option maxRecDepth 100000 in
theorem kt_540 : (Jvm.Cond.fieldLink "SafeSweeps$Snapshot" (13 : Nat) "SafeSweeps$Snapshot" "tag" "I") ∈ kw_tbl := kts_3 (i := 60) rfl rfl
set_option maxRecDepth 100000 in
theorem kt_541 : (Jvm.Cond.fieldLink "SafeSweeps$Rules" (24 : Nat) "SafeSweeps$Snapshot" "tag" "I") ∈ kw_tbl := kts_3 (i := 61) rfl rfl
set_option maxRecDepth 100000 in
theorem kt_542 : (Jvm.Cond.fieldLink "SafeSweeps" (342 : Nat) "SafeSweeps$Snapshot" "tag" "I") ∈ kw_tbl := kts_3 (i := 62) rfl rfl
set_option maxRecDepth 100000 in
theorem kt_543 : (Jvm.Cond.fieldLink "SafeSweeps$Snapshot" (17 : Nat) "SafeSweeps$Snapshot" "roots" "[I") ∈ kw_tbl := kts_3 (i := 63) rfl rfl
set_option maxRecDepth 100000 in
theorem kt_544 : (Jvm.Cond.fieldLink "SafeSweeps" (235 : Nat) "SafeSweeps$Snapshot" "roots" "[I") ∈ kw_tbl := kts_3 (i := 64) rfl rfl
set_option maxRecDepth 100000 in
theorem kt_545 : (Jvm.Cond.fieldLink "SafeSweeps$Rules" (18 : Nat) "SafeSweeps$Snapshot" "gone" "Z") ∈ kw_tbl := kts_3 (i := 65) rfl rfl
set_option maxRecDepth 100000 in
theorem kt_546 : (Jvm.Cond.fieldLink "SafeSweeps" (223 : Nat) "SafeSweeps$Snapshot" "gone" "Z") ∈ kw_tbl := kts_3 (i := 66) rfl rfl
set_option maxRecDepth 100000 in
theorem kt_547 : (Jvm.Cond.laysFinal "SafeSweeps$Snapshot" "SafeSweeps$Snapshot" "time" "J") ∈ kw_tbl := kts_3 (i := 67) rfl rfl
set_option maxRecDepth 100000 in
theorem kt_549 : (Jvm.Cond.laysFinal "SafeSweeps$Snapshot" "SafeSweeps$Snapshot" "tag" "I") ∈ kw_tbl := kts_3 (i := 69) rfl rfl
set_option maxRecDepth 100000 in
theorem kt_551 : (Jvm.Cond.laysFinal "SafeSweeps$Snapshot" "SafeSweeps$Snapshot" "roots" "[I") ∈ kw_tbl := kts_3 (i := 71) rfl rfl
set_option maxRecDepth 100000 in
theorem kt_553 : (Jvm.Cond.lays "SafeSweeps$Snapshot" "SafeSweeps$Snapshot" "gone" "Z") ∈ kw_tbl := kts_3 (i := 73) rfl rfl
set_option maxRecDepth 100000 in
theorem kt_556 : (Jvm.Cond.methodLink "SafeSweepsLaw" (51 : Nat) ({ cls := "SafeSweeps", name := "give", desc := "(I)I" } : Jvm.MethodName)) ∈ kw_tbl := kts_3 (i := 76) rfl rfl
set_option maxRecDepth 100000 in
theorem kt_557 : (Jvm.Cond.instanceMethod ({ cls := "SafeSweeps", name := "give", desc := "(I)I" } : Jvm.MethodName)) ∈ kw_tbl := kts_3 (i := 77) rfl rfl
set_option maxRecDepth 100000 in
theorem kt_558 : (Jvm.Cond.selects "SafeSweeps" ({ cls := "SafeSweeps", name := "give", desc := "(I)I" } : Jvm.MethodName) ({ cls := "SafeSweeps", name := "give", desc := "(I)I" } : Jvm.MethodName)) ∈ kw_tbl := kts_3 (i := 78) rfl rfl
set_option maxRecDepth 100000 in
theorem kt_559 : (Jvm.Cond.code ({ cls := "SafeSweeps", name := "give", desc := "(I)I" } : Jvm.MethodName) prog_1_method_11_code (3 : Nat) (Option.some Jvm.ClassFile.FieldType.int)) ∈ kw_tbl := kts_3 (i := 79) rfl rfl
set_option maxRecDepth 100000 in
theorem kt_560 : (Jvm.Cond.methodLink "SafeSweepsLaw" (55 : Nat) ({ cls := "SafeSweeps", name := "drop", desc := "(I)I" } : Jvm.MethodName)) ∈ kw_tbl := kts_3 (i := 80) rfl rfl
set_option maxRecDepth 100000 in
theorem kt_561 : (Jvm.Cond.instanceMethod ({ cls := "SafeSweeps", name := "drop", desc := "(I)I" } : Jvm.MethodName)) ∈ kw_tbl := kts_3 (i := 81) rfl rfl
set_option maxRecDepth 100000 in
theorem kt_562 : (Jvm.Cond.selects "SafeSweeps" ({ cls := "SafeSweeps", name := "drop", desc := "(I)I" } : Jvm.MethodName) ({ cls := "SafeSweeps", name := "drop", desc := "(I)I" } : Jvm.MethodName)) ∈ kw_tbl := kts_3 (i := 82) rfl rfl
set_option maxRecDepth 100000 in
theorem kt_563 : (Jvm.Cond.code ({ cls := "SafeSweeps", name := "drop", desc := "(I)I" } : Jvm.MethodName) prog_1_method_16_code (2 : Nat) (Option.some Jvm.ClassFile.FieldType.int)) ∈ kw_tbl := kts_3 (i := 83) rfl rfl
set_option maxRecDepth 100000 in
theorem kt_564 : (Jvm.Cond.methodLink "SafeSweeps" (200 : Nat) ({ cls := "SafeSweeps", name := "snapshotIsThere", desc := "(I)Z" } : Jvm.MethodName)) ∈ kw_tbl := kts_3 (i := 84) rfl rfl
set_option maxRecDepth 100000 in
theorem kt_566 : (Jvm.Cond.instanceMethod ({ cls := "SafeSweeps", name := "snapshotIsThere", desc := "(I)Z" } : Jvm.MethodName)) ∈ kw_tbl := kts_3 (i := 86) rfl rfl
set_option maxRecDepth 100000 in
theorem kt_567 : (Jvm.Cond.code ({ cls := "SafeSweeps", name := "snapshotIsThere", desc := "(I)Z" } : Jvm.MethodName) prog_1_method_20_code (2 : Nat) (Option.some Jvm.ClassFile.FieldType.boolean)) ∈ kw_tbl := kts_3 (i := 87) rfl rfl
set_option maxRecDepth 100000 in
theorem kt_568 : (Jvm.Cond.methodLink "SafeSweeps" (203 : Nat) ({ cls := "SafeSweeps", name := "removeSnapshot", desc := "(I)Z" } : Jvm.MethodName)) ∈ kw_tbl := kts_3 (i := 88) rfl rfl
set_option maxRecDepth 100000 in
theorem kt_570 : (Jvm.Cond.instanceMethod ({ cls := "SafeSweeps", name := "removeSnapshot", desc := "(I)Z" } : Jvm.MethodName)) ∈ kw_tbl := kts_3 (i := 90) rfl rfl
set_option maxRecDepth 100000 in
theorem kt_571 : (Jvm.Cond.code ({ cls := "SafeSweeps", name := "removeSnapshot", desc := "(I)Z" } : Jvm.MethodName) prog_1_method_23_code (2 : Nat) (Option.some Jvm.ClassFile.FieldType.boolean)) ∈ kw_tbl := kts_3 (i := 91) rfl rfl
set_option maxRecDepth 100000 in
theorem kt_572 : (Jvm.Cond.methodLink "SafeSweepsLaw" (59 : Nat) ({ cls := "SafeSweeps", name := "rule", desc := "(II)I" } : Jvm.MethodName)) ∈ kw_tbl := kts_3 (i := 92) rfl rfl
set_option maxRecDepth 100000 in
theorem kt_573 : (Jvm.Cond.instanceMethod ({ cls := "SafeSweeps", name := "rule", desc := "(II)I" } : Jvm.MethodName)) ∈ kw_tbl := kts_3 (i := 93) rfl rfl
set_option maxRecDepth 100000 in
theorem kt_574 : (Jvm.Cond.selects "SafeSweeps" ({ cls := "SafeSweeps", name := "rule", desc := "(II)I" } : Jvm.MethodName) ({ cls := "SafeSweeps", name := "rule", desc := "(II)I" } : Jvm.MethodName)) ∈ kw_tbl := kts_3 (i := 94) rfl rfl
set_option maxRecDepth 100000 in
theorem kt_575 : (Jvm.Cond.code ({ cls := "SafeSweeps", name := "rule", desc := "(II)I" } : Jvm.MethodName) prog_1_method_17_code (4 : Nat) (Option.some Jvm.ClassFile.FieldType.int)) ∈ kw_tbl := kts_3 (i := 95) rfl rfl
set_option maxRecDepth 100000 in
theorem kt_576 : (Jvm.Cond.methodLink "SafeSweeps" (206 : Nat) ({ cls := "SafeSweeps$Rules", name := "greatest", desc := "(I)I" } : Jvm.MethodName)) ∈ kw_tbl := kts_3 (i := 96) rfl rfl
set_option maxRecDepth 100000 in
theorem kt_577 : (Jvm.Cond.static ({ cls := "SafeSweeps$Rules", name := "greatest", desc := "(I)I" } : Jvm.MethodName)) ∈ kw_tbl := kts_3 (i := 97) rfl rfl
set_option maxRecDepth 100000 in
theorem kt_578 : (Jvm.Cond.code ({ cls := "SafeSweeps$Rules", name := "greatest", desc := "(I)I" } : Jvm.MethodName) prog_8_method_2_code (1 : Nat) (Option.some Jvm.ClassFile.FieldType.int)) ∈ kw_tbl := kts_3 (i := 98) rfl rfl
set_option maxRecDepth 100000 in
theorem kt_579 : (Jvm.Cond.methodLink "SafeSweepsLaw" (63 : Nat) ({ cls := "SafeSweeps", name := "keeps", desc := "(I)I" } : Jvm.MethodName)) ∈ kw_tbl := kts_3 (i := 99) rfl rfl
set_option maxRecDepth 100000 in
theorem kt_580 : (Jvm.Cond.instanceMethod ({ cls := "SafeSweeps", name := "keeps", desc := "(I)I" } : Jvm.MethodName)) ∈ kw_tbl := kts_3 (i := 100) rfl rfl
set_option maxRecDepth 100000 in
theorem kt_581 : (Jvm.Cond.selects "SafeSweeps" ({ cls := "SafeSweeps", name := "keeps", desc := "(I)I" } : Jvm.MethodName) ({ cls := "SafeSweeps", name := "keeps", desc := "(I)I" } : Jvm.MethodName)) ∈ kw_tbl := kts_3 (i := 101) rfl rfl
set_option maxRecDepth 100000 in
theorem kt_582 : (Jvm.Cond.code ({ cls := "SafeSweeps", name := "keeps", desc := "(I)I" } : Jvm.MethodName) prog_1_method_18_code (2 : Nat) (Option.some Jvm.ClassFile.FieldType.int)) ∈ kw_tbl := kts_3 (i := 102) rfl rfl
set_option maxRecDepth 100000 in
theorem kt_583 : (Jvm.Cond.methodLink "SafeSweeps" (213 : Nat) ({ cls := "SafeSweeps$Rules", name := "judge", desc := "([LSafeSweeps$Snapshot;I)V" } : Jvm.MethodName)) ∈ kw_tbl := kts_3 (i := 103) rfl rfl
set_option maxRecDepth 100000 in
theorem kt_584 : (Jvm.Cond.instanceMethod ({ cls := "SafeSweeps$Rules", name := "judge", desc := "([LSafeSweeps$Snapshot;I)V" } : Jvm.MethodName)) ∈ kw_tbl := kts_3 (i := 104) rfl rfl
set_option maxRecDepth 100000 in
theorem kt_585 : (Jvm.Cond.selects "SafeSweeps$Rules" ({ cls := "SafeSweeps$Rules", name := "judge", desc := "([LSafeSweeps$Snapshot;I)V" } : Jvm.MethodName) ({ cls := "SafeSweeps$Rules", name := "judge", desc := "([LSafeSweeps$Snapshot;I)V" } : Jvm.MethodName)) ∈ kw_tbl := kts_3 (i := 105) rfl rfl
set_option maxRecDepth 100000 in
theorem kt_586 : (Jvm.Cond.code ({ cls := "SafeSweeps$Rules", name := "judge", desc := "([LSafeSweeps$Snapshot;I)V" } : Jvm.MethodName) prog_8_method_3_code (5 : Nat) (Option.none : Option Jvm.ClassFile.FieldType)) ∈ kw_tbl := kts_3 (i := 106) rfl rfl
set_option maxRecDepth 100000 in
theorem kt_587 : (Jvm.Cond.methodLink "SafeSweeps$Rules" (28 : Nat) ({ cls := "SafeSweeps$Rules", name := "judgeBy", desc := "(I[LSafeSweeps$Snapshot;I)V" } : Jvm.MethodName)) ∈ kw_tbl := kts_3 (i := 107) rfl rfl
set_option maxRecDepth 100000 in
theorem kt_588 : (Jvm.Cond.instanceMethod ({ cls := "SafeSweeps$Rules", name := "judgeBy", desc := "(I[LSafeSweeps$Snapshot;I)V" } : Jvm.MethodName)) ∈ kw_tbl := kts_3 (i := 108) rfl rfl
set_option maxRecDepth 100000 in
theorem kt_589 : (Jvm.Cond.selects "SafeSweeps$Rules" ({ cls := "SafeSweeps$Rules", name := "judgeBy", desc := "(I[LSafeSweeps$Snapshot;I)V" } : Jvm.MethodName) ({ cls := "SafeSweeps$Rules", name := "judgeBy", desc := "(I[LSafeSweeps$Snapshot;I)V" } : Jvm.MethodName)) ∈ kw_tbl := kts_3 (i := 109) rfl rfl
set_option maxRecDepth 100000 in
theorem kt_590 : (Jvm.Cond.code ({ cls := "SafeSweeps$Rules", name := "judgeBy", desc := "(I[LSafeSweeps$Snapshot;I)V" } : Jvm.MethodName) prog_8_method_4_code (10 : Nat) (Option.none : Option Jvm.ClassFile.FieldType)) ∈ kw_tbl := kts_3 (i := 110) rfl rfl
set_option maxRecDepth 100000 in
theorem kt_591 : (Jvm.Cond.methodLink "SafeSweeps$Rules" (36 : Nat) ({ cls := "SafeSweeps$Calendar", name := "dayOf", desc := "(J)J" } : Jvm.MethodName)) ∈ kw_tbl := kts_3 (i := 111) rfl rfl
set_option maxRecDepth 100000 in
theorem kt_592 : (Jvm.Cond.static ({ cls := "SafeSweeps$Calendar", name := "dayOf", desc := "(J)J" } : Jvm.MethodName)) ∈ kw_tbl := kts_3 (i := 112) rfl rfl
set_option maxRecDepth 100000 in
theorem kt_593 : (Jvm.Cond.code ({ cls := "SafeSweeps$Calendar", name := "dayOf", desc := "(J)J" } : Jvm.MethodName) prog_3_method_2_code (2 : Nat) (Option.some Jvm.ClassFile.FieldType.long)) ∈ kw_tbl := kts_3 (i := 113) rfl rfl
set_option maxRecDepth 100000 in
theorem kt_594 : (Jvm.Cond.constantLong "SafeSweeps$Calendar" (9 : Nat) (86400 : Int64)) ∈ kw_tbl := kts_3 (i := 114) rfl rfl
set_option maxRecDepth 100000 in
theorem kt_595 : (Jvm.Cond.methodLink "SafeSweeps$Calendar" (11 : Nat) ({ cls := "java/lang/Math", name := "floorDiv", desc := "(JJ)J" } : Jvm.MethodName)) ∈ kw_tbl := kts_3 (i := 115) rfl rfl
set_option maxRecDepth 100000 in
theorem kt_596 : (Jvm.Cond.static ({ cls := "java/lang/Math", name := "floorDiv", desc := "(JJ)J" } : Jvm.MethodName)) ∈ kw_tbl := kts_3 (i := 116) rfl rfl
set_option maxRecDepth 100000 in
theorem kt_597 : (Jvm.Cond.code ({ cls := "java/lang/Math", name := "floorDiv", desc := "(JJ)J" } : Jvm.MethodName) prog_16_method_49_code (6 : Nat) (Option.some Jvm.ClassFile.FieldType.long)) ∈ kw_tbl := kts_3 (i := 117) rfl rfl
set_option maxRecDepth 100000 in
theorem kt_598 : (Jvm.Cond.methodLink "SafeSweeps$Rules" (42 : Nat) ({ cls := "SafeSweeps$Rules", name := "periodOf", desc := "(IJ)J" } : Jvm.MethodName)) ∈ kw_tbl := kts_3 (i := 118) rfl rfl
set_option maxRecDepth 100000 in
theorem kt_599 : (Jvm.Cond.static ({ cls := "SafeSweeps$Rules", name := "periodOf", desc := "(IJ)J" } : Jvm.MethodName)) ∈ kw_tbl := kts_3 (i := 119) rfl rfl
set_option maxRecDepth 100000 in
theorem kt_600 : (Jvm.Cond.code ({ cls := "SafeSweeps$Rules", name := "periodOf", desc := "(IJ)J" } : Jvm.MethodName) prog_8_method_5_code (3 : Nat) (Option.some Jvm.ClassFile.FieldType.long)) ∈ kw_tbl := kts_3 (i := 120) rfl rfl
set_option maxRecDepth 100000 in
theorem kt_601 : (Jvm.Cond.methodLink "SafeSweeps$Rules" (46 : Nat) ({ cls := "SafeSweeps$Calendar", name := "weekOf", desc := "(J)J" } : Jvm.MethodName)) ∈ kw_tbl := kts_3 (i := 121) rfl rfl
set_option maxRecDepth 100000 in
theorem kt_602 : (Jvm.Cond.static ({ cls := "SafeSweeps$Calendar", name := "weekOf", desc := "(J)J" } : Jvm.MethodName)) ∈ kw_tbl := kts_3 (i := 122) rfl rfl
set_option maxRecDepth 100000 in
theorem kt_603 : (Jvm.Cond.code ({ cls := "SafeSweeps$Calendar", name := "weekOf", desc := "(J)J" } : Jvm.MethodName) prog_3_method_3_code (2 : Nat) (Option.some Jvm.ClassFile.FieldType.long)) ∈ kw_tbl := kts_3 (i := 123) rfl rfl
set_option maxRecDepth 100000 in
theorem kt_604 : (Jvm.Cond.constantLong "SafeSweeps$Calendar" (17 : Nat) (3 : Int64)) ∈ kw_tbl := kts_3 (i := 124) rfl rfl
set_option maxRecDepth 100000 in
theorem kt_605 : (Jvm.Cond.constantLong "SafeSweeps$Calendar" (19 : Nat) (7 : Int64)) ∈ kw_tbl := kts_3 (i := 125) rfl rfl
set_option maxRecDepth 100000 in
theorem kt_606 : (Jvm.Cond.methodLink "SafeSweeps$Rules" (49 : Nat) ({ cls := "SafeSweeps$Calendar", name := "monthsUpTo", desc := "(J)J" } : Jvm.MethodName)) ∈ kw_tbl := kts_3 (i := 126) rfl rfl
set_option maxRecDepth 100000 in
theorem kt_607 : (Jvm.Cond.static ({ cls := "SafeSweeps$Calendar", name := "monthsUpTo", desc := "(J)J" } : Jvm.MethodName)) ∈ kw_tbl := kts_3 (i := 127) rfl rfl
set_option maxRecDepth 100000 in
theorem kt_608 : (Jvm.Cond.code ({ cls := "SafeSweeps$Calendar", name := "monthsUpTo", desc := "(J)J" } : Jvm.MethodName) prog_3_method_8_code (8 : Nat) (Option.some Jvm.ClassFile.FieldType.long)) ∈ kw_tbl := kts_3 (i := 128) rfl rfl
set_option maxRecDepth 100000 in
theorem kt_609 : (Jvm.Cond.constantLong "SafeSweeps$Calendar" (45 : Nat) (719468 : Int64)) ∈ kw_tbl := kts_3 (i := 129) rfl rfl
set_option maxRecDepth 100000 in
theorem kt_610 : (Jvm.Cond.constantLong "SafeSweeps$Calendar" (47 : Nat) (146097 : Int64)) ∈ kw_tbl := kts_3 (i := 130) rfl rfl
set_option maxRecDepth 100000 in
theorem kt_611 : (Jvm.Cond.methodLink "SafeSweeps$Calendar" (30 : Nat) ({ cls := "SafeSweeps$Calendar", name := "dayOfEra", desc := "(J)J" } : Jvm.MethodName)) ∈ kw_tbl := kts_3 (i := 131) rfl rfl
set_option maxRecDepth 100000 in
theorem kt_612 : (Jvm.Cond.static ({ cls := "SafeSweeps$Calendar", name := "dayOfEra", desc := "(J)J" } : Jvm.MethodName)) ∈ kw_tbl := kts_3 (i := 132) rfl rfl
set_option maxRecDepth 100000 in
theorem kt_613 : (Jvm.Cond.code ({ cls := "SafeSweeps$Calendar", name := "dayOfEra", desc := "(J)J" } : Jvm.MethodName) prog_3_method_9_code (2 : Nat) (Option.some Jvm.ClassFile.FieldType.long)) ∈ kw_tbl := kts_3 (i := 133) rfl rfl
set_option maxRecDepth 100000 in
theorem kt_614 : (Jvm.Cond.methodLink "SafeSweeps$Calendar" (21 : Nat) ({ cls := "java/lang/Math", name := "floorMod", desc := "(JJ)J" } : Jvm.MethodName)) ∈ kw_tbl := kts_3 (i := 134) rfl rfl
set_option maxRecDepth 100000 in
theorem kt_615 : (Jvm.Cond.static ({ cls := "java/lang/Math", name := "floorMod", desc := "(JJ)J" } : Jvm.MethodName)) ∈ kw_tbl := kts_3 (i := 135) rfl rfl
set_option maxRecDepth 100000 in
theorem kt_616 : (Jvm.Cond.code ({ cls := "java/lang/Math", name := "floorMod", desc := "(JJ)J" } : Jvm.MethodName) prog_16_method_52_code (6 : Nat) (Option.some Jvm.ClassFile.FieldType.long)) ∈ kw_tbl := kts_3 (i := 136) rfl rfl
set_option maxRecDepth 100000 in
theorem kt_617 : (Jvm.Cond.methodLink "SafeSweeps$Calendar" (33 : Nat) ({ cls := "SafeSweeps$Calendar", name := "marchYearOfEra", desc := "(J)J" } : Jvm.MethodName)) ∈ kw_tbl := kts_3 (i := 137) rfl rfl
set_option maxRecDepth 100000 in
theorem kt_618 : (Jvm.Cond.static ({ cls := "SafeSweeps$Calendar", name := "marchYearOfEra", desc := "(J)J" } : Jvm.MethodName)) ∈ kw_tbl := kts_3 (i := 138) rfl rfl
set_option maxRecDepth 100000 in
theorem kt_619 : (Jvm.Cond.code ({ cls := "SafeSweeps$Calendar", name := "marchYearOfEra", desc := "(J)J" } : Jvm.MethodName) prog_3_method_10_code (4 : Nat) (Option.some Jvm.ClassFile.FieldType.long)) ∈ kw_tbl := kts_3 (i := 139) rfl rfl
set_option maxRecDepth 100000 in
theorem kt_620 : (Jvm.Cond.constantLong "SafeSweeps$Calendar" (53 : Nat) (1460 : Int64)) ∈ kw_tbl := kts_3 (i := 140) rfl rfl
set_option maxRecDepth 100000 in
theorem kt_621 : (Jvm.Cond.constantLong "SafeSweeps$Calendar" (55 : Nat) (36524 : Int64)) ∈ kw_tbl := kts_3 (i := 141) rfl rfl
set_option maxRecDepth 100000 in
theorem kt_622 : (Jvm.Cond.constantLong "SafeSweeps$Calendar" (57 : Nat) (146096 : Int64)) ∈ kw_tbl := kts_3 (i := 142) rfl rfl
set_option maxRecDepth 100000 in
theorem kt_623 : (Jvm.Cond.constantLong "SafeSweeps$Calendar" (59 : Nat) (365 : Int64)) ∈ kw_tbl := kts_3 (i := 143) rfl rfl
set_option maxRecDepth 100000 in
theorem kt_624 : (Jvm.Cond.constantLong "SafeSweeps$Calendar" (28 : Nat) (12 : Int64)) ∈ kw_tbl := kts_3 (i := 144) rfl rfl
set_option maxRecDepth 100000 in
theorem kt_625 : (Jvm.Cond.constantLong "SafeSweeps$Calendar" (49 : Nat) (400 : Int64)) ∈ kw_tbl := kts_3 (i := 145) rfl rfl
set_option maxRecDepth 100000 in
theorem kt_626 : (Jvm.Cond.methodLink "SafeSweeps$Calendar" (36 : Nat) ({ cls := "SafeSweeps$Calendar", name := "dayOfMarchYear", desc := "(JJ)J" } : Jvm.MethodName)) ∈ kw_tbl := kts_3 (i := 146) rfl rfl
set_option maxRecDepth 100000 in
theorem kt_627 : (Jvm.Cond.static ({ cls := "SafeSweeps$Calendar", name := "dayOfMarchYear", desc := "(JJ)J" } : Jvm.MethodName)) ∈ kw_tbl := kts_3 (i := 147) rfl rfl
set_option maxRecDepth 100000 in
theorem kt_628 : (Jvm.Cond.code ({ cls := "SafeSweeps$Calendar", name := "dayOfMarchYear", desc := "(JJ)J" } : Jvm.MethodName) prog_3_method_11_code (4 : Nat) (Option.some Jvm.ClassFile.FieldType.long)) ∈ kw_tbl := kts_3 (i := 148) rfl rfl
set_option maxRecDepth 100000 in
theorem kt_629 : (Jvm.Cond.constantLong "SafeSweeps$Calendar" (61 : Nat) (4 : Int64)) ∈ kw_tbl := kts_3 (i := 149) rfl rfl
set_option maxRecDepth 100000 in
theorem kt_630 : (Jvm.Cond.constantLong "SafeSweeps$Calendar" (63 : Nat) (100 : Int64)) ∈ kw_tbl := kts_3 (i := 150) rfl rfl
set_option maxRecDepth 100000 in
theorem kt_631 : (Jvm.Cond.methodLink "SafeSweeps$Calendar" (39 : Nat) ({ cls := "SafeSweeps$Calendar", name := "marchMonth", desc := "(J)J" } : Jvm.MethodName)) ∈ kw_tbl := kts_3 (i := 151) rfl rfl
set_option maxRecDepth 100000 in
theorem kt_632 : (Jvm.Cond.static ({ cls := "SafeSweeps$Calendar", name := "marchMonth", desc := "(J)J" } : Jvm.MethodName)) ∈ kw_tbl := kts_3 (i := 152) rfl rfl
set_option maxRecDepth 100000 in
theorem kt_633 : (Jvm.Cond.code ({ cls := "SafeSweeps$Calendar", name := "marchMonth", desc := "(J)J" } : Jvm.MethodName) prog_3_method_12_code (2 : Nat) (Option.some Jvm.ClassFile.FieldType.long)) ∈ kw_tbl := kts_3 (i := 153) rfl rfl
set_option maxRecDepth 100000 in
theorem kt_634 : (Jvm.Cond.constantLong "SafeSweeps$Calendar" (65 : Nat) (5 : Int64)) ∈ kw_tbl := kts_3 (i := 154) rfl rfl
set_option maxRecDepth 100000 in
theorem kt_635 : (Jvm.Cond.constantLong "SafeSweeps$Calendar" (51 : Nat) (2 : Int64)) ∈ kw_tbl := kts_3 (i := 155) rfl rfl
set_option maxRecDepth 100000 in
theorem kt_636 : (Jvm.Cond.constantLong "SafeSweeps$Calendar" (67 : Nat) (153 : Int64)) ∈ kw_tbl := kts_3 (i := 156) rfl rfl
set_option maxRecDepth 100000 in
theorem kt_637 : (Jvm.Cond.methodLink "SafeSweeps$Rules" (52 : Nat) ({ cls := "SafeSweeps$Calendar", name := "yearOf", desc := "(J)J" } : Jvm.MethodName)) ∈ kw_tbl := kts_3 (i := 157) rfl rfl
set_option maxRecDepth 100000 in
theorem kt_638 : (Jvm.Cond.static ({ cls := "SafeSweeps$Calendar", name := "yearOf", desc := "(J)J" } : Jvm.MethodName)) ∈ kw_tbl := kts_3 (i := 158) rfl rfl
set_option maxRecDepth 100000 in
theorem kt_639 : (Jvm.Cond.code ({ cls := "SafeSweeps$Calendar", name := "yearOf", desc := "(J)J" } : Jvm.MethodName) prog_3_method_5_code (2 : Nat) (Option.some Jvm.ClassFile.FieldType.long)) ∈ kw_tbl := kts_3 (i := 159) rfl rfl
set_option maxRecDepth 100000 in
theorem kt_640 : (Jvm.Cond.methodLink "SafeSweeps$Calendar" (24 : Nat) ({ cls := "SafeSweeps$Calendar", name := "monthsUpTo", desc := "(J)J" } : Jvm.MethodName)) ∈ kw_tbl := kts_3 (i := 160) rfl rfl
set_option maxRecDepth 100000 in
theorem kt_641 : (Jvm.Cond.methodLink "SafeSweepsLaw" (67 : Nat) ({ cls := "SafeSweeps", name := "prune", desc := "(Z)I" } : Jvm.MethodName)) ∈ kw_tbl := kts_3 (i := 161) rfl rfl
set_option maxRecDepth 100000 in
theorem kt_642 : (Jvm.Cond.instanceMethod ({ cls := "SafeSweeps", name := "prune", desc := "(Z)I" } : Jvm.MethodName)) ∈ kw_tbl := kts_3 (i := 162) rfl rfl
set_option maxRecDepth 100000 in
theorem kt_643 : (Jvm.Cond.selects "SafeSweeps" ({ cls := "SafeSweeps", name := "prune", desc := "(Z)I" } : Jvm.MethodName) ({ cls := "SafeSweeps", name := "prune", desc := "(Z)I" } : Jvm.MethodName)) ∈ kw_tbl := kts_3 (i := 163) rfl rfl
set_option maxRecDepth 100000 in
theorem kt_644 : (Jvm.Cond.code ({ cls := "SafeSweeps", name := "prune", desc := "(Z)I" } : Jvm.MethodName) prog_1_method_19_code (5 : Nat) (Option.some Jvm.ClassFile.FieldType.int)) ∈ kw_tbl := kts_3 (i := 164) rfl rfl
set_option maxRecDepth 100000 in
theorem kt_645 : (Jvm.Cond.methodLink "SafeSweeps" (220 : Nat) ({ cls := "SafeSweeps", name := "snapshotIsUnkept", desc := "(I)Z" } : Jvm.MethodName)) ∈ kw_tbl := kts_3 (i := 165) rfl rfl
set_option maxRecDepth 100000 in
theorem kt_647 : (Jvm.Cond.instanceMethod ({ cls := "SafeSweeps", name := "snapshotIsUnkept", desc := "(I)Z" } : Jvm.MethodName)) ∈ kw_tbl := kts_3 (i := 167) rfl rfl
set_option maxRecDepth 100000 in
theorem kt_648 : (Jvm.Cond.code ({ cls := "SafeSweeps", name := "snapshotIsUnkept", desc := "(I)Z" } : Jvm.MethodName) prog_1_method_21_code (2 : Nat) (Option.some Jvm.ClassFile.FieldType.boolean)) ∈ kw_tbl := kts_3 (i := 168) rfl rfl
set_option maxRecDepth 100000 in
theorem kt_649 : (Jvm.Cond.methodLink "SafeSweepsLaw" (72 : Nat) ({ cls := "SafeSweeps", name := "sweep", desc := "()I" } : Jvm.MethodName)) ∈ kw_tbl := kts_3 (i := 169) rfl rfl
set_option maxRecDepth 100000 in
theorem kt_650 : (Jvm.Cond.instanceMethod ({ cls := "SafeSweeps", name := "sweep", desc := "()I" } : Jvm.MethodName)) ∈ kw_tbl := kts_3 (i := 170) rfl rfl
set_option maxRecDepth 100000 in
theorem kt_651 : (Jvm.Cond.selects "SafeSweeps" ({ cls := "SafeSweeps", name := "sweep", desc := "()I" } : Jvm.MethodName) ({ cls := "SafeSweeps", name := "sweep", desc := "()I" } : Jvm.MethodName)) ∈ kw_tbl := kts_3 (i := 171) rfl rfl
set_option maxRecDepth 100000 in
theorem kt_652 : (Jvm.Cond.code ({ cls := "SafeSweeps", name := "sweep", desc := "()I" } : Jvm.MethodName) prog_1_method_24_code (2 : Nat) (Option.some Jvm.ClassFile.FieldType.int)) ∈ kw_tbl := kts_3 (i := 172) rfl rfl
set_option maxRecDepth 100000 in
theorem kt_653 : (Jvm.Cond.methodLink "SafeSweeps" (229 : Nat) ({ cls := "SafeSweeps$Journal", name := "write", desc := "()Z" } : Jvm.MethodName)) ∈ kw_tbl := kts_3 (i := 173) rfl rfl
set_option maxRecDepth 100000 in
theorem kt_654 : (Jvm.Cond.methodLink "SafeSweeps" (232 : Nat) ({ cls := "SafeSweeps$Sweep", name := "prepare", desc := "()V" } : Jvm.MethodName)) ∈ kw_tbl := kts_3 (i := 174) rfl rfl
set_option maxRecDepth 100000 in
theorem kt_655 : (Jvm.Cond.instanceMethod ({ cls := "SafeSweeps$Sweep", name := "prepare", desc := "()V" } : Jvm.MethodName)) ∈ kw_tbl := kts_3 (i := 175) rfl rfl
set_option maxRecDepth 100000 in
theorem kt_656 : (Jvm.Cond.selects "SafeSweeps$Sweep" ({ cls := "SafeSweeps$Sweep", name := "prepare", desc := "()V" } : Jvm.MethodName) ({ cls := "SafeSweeps$Sweep", name := "prepare", desc := "()V" } : Jvm.MethodName)) ∈ kw_tbl := kts_3 (i := 176) rfl rfl
set_option maxRecDepth 100000 in
theorem kt_657 : (Jvm.Cond.code ({ cls := "SafeSweeps$Sweep", name := "prepare", desc := "()V" } : Jvm.MethodName) prog_12_method_2_code (2 : Nat) (Option.none : Option Jvm.ClassFile.FieldType)) ∈ kw_tbl := kts_3 (i := 177) rfl rfl
set_option maxRecDepth 100000 in
theorem kt_658 : (Jvm.Cond.methodLink "SafeSweeps" (238 : Nat) ({ cls := "SafeSweeps$Sweep", name := "lineUpAll", desc := "([II)V" } : Jvm.MethodName)) ∈ kw_tbl := kts_3 (i := 178) rfl rfl
set_option maxRecDepth 100000 in
theorem kt_659 : (Jvm.Cond.instanceMethod ({ cls := "SafeSweeps$Sweep", name := "lineUpAll", desc := "([II)V" } : Jvm.MethodName)) ∈ kw_tbl := kts_3 (i := 179) rfl rfl
set_option maxRecDepth 100000 in
theorem kt_660 : (Jvm.Cond.selects "SafeSweeps$Sweep" ({ cls := "SafeSweeps$Sweep", name := "lineUpAll", desc := "([II)V" } : Jvm.MethodName) ({ cls := "SafeSweeps$Sweep", name := "lineUpAll", desc := "([II)V" } : Jvm.MethodName)) ∈ kw_tbl := kts_3 (i := 180) rfl rfl
set_option maxRecDepth 100000 in
theorem kt_661 : (Jvm.Cond.code ({ cls := "SafeSweeps$Sweep", name := "lineUpAll", desc := "([II)V" } : Jvm.MethodName) prog_12_method_4_code (4 : Nat) (Option.none : Option Jvm.ClassFile.FieldType)) ∈ kw_tbl := kts_3 (i := 181) rfl rfl
set_option maxRecDepth 100000 in
theorem kt_662 : (Jvm.Cond.methodLink "SafeSweeps" (242 : Nat) ({ cls := "SafeSweeps", name := "lineUpOrDismiss", desc := "(LSafeSweeps$Saver;)V" } : Jvm.MethodName)) ∈ kw_tbl := kts_3 (i := 182) rfl rfl
set_option maxRecDepth 100000 in
theorem kt_664 : (Jvm.Cond.instanceMethod ({ cls := "SafeSweeps", name := "lineUpOrDismiss", desc := "(LSafeSweeps$Saver;)V" } : Jvm.MethodName)) ∈ kw_tbl := kts_3 (i := 184) rfl rfl
set_option maxRecDepth 100000 in
theorem kt_665 : (Jvm.Cond.code ({ cls := "SafeSweeps", name := "lineUpOrDismiss", desc := "(LSafeSweeps$Saver;)V" } : Jvm.MethodName) prog_1_method_25_code (2 : Nat) (Option.none : Option Jvm.ClassFile.FieldType)) ∈ kw_tbl := kts_3 (i := 185) rfl rfl
set_option maxRecDepth 100000 in
theorem kt_666 : (Jvm.Cond.methodLink "SafeSweeps" (246 : Nat) ({ cls := "SafeSweeps$Sweep", name := "settle", desc := "()V" } : Jvm.MethodName)) ∈ kw_tbl := kts_3 (i := 186) rfl rfl
set_option maxRecDepth 100000 in
theorem kt_667 : (Jvm.Cond.instanceMethod ({ cls := "SafeSweeps$Sweep", name := "settle", desc := "()V" } : Jvm.MethodName)) ∈ kw_tbl := kts_3 (i := 187) rfl rfl
set_option maxRecDepth 100000 in
theorem kt_668 : (Jvm.Cond.selects "SafeSweeps$Sweep" ({ cls := "SafeSweeps$Sweep", name := "settle", desc := "()V" } : Jvm.MethodName) ({ cls := "SafeSweeps$Sweep", name := "settle", desc := "()V" } : Jvm.MethodName)) ∈ kw_tbl := kts_3 (i := 188) rfl rfl
set_option maxRecDepth 100000 in
theorem kt_669 : (Jvm.Cond.code ({ cls := "SafeSweeps$Sweep", name := "settle", desc := "()V" } : Jvm.MethodName) prog_12_method_7_code (1 : Nat) (Option.none : Option Jvm.ClassFile.FieldType)) ∈ kw_tbl := kts_3 (i := 189) rfl rfl
set_option maxRecDepth 100000 in
theorem kt_670 : (Jvm.Cond.methodLink "SafeSweepsLaw" (77 : Nat) ({ cls := "SafeSweeps", name := "step", desc := "(I)I" } : Jvm.MethodName)) ∈ kw_tbl := kts_3 (i := 190) rfl rfl
set_option maxRecDepth 100000 in
theorem kt_671 : (Jvm.Cond.instanceMethod ({ cls := "SafeSweeps", name := "step", desc := "(I)I" } : Jvm.MethodName)) ∈ kw_tbl := kts_3 (i := 191) rfl rfl
set_option maxRecDepth 100000 in
theorem kt_672 : (Jvm.Cond.selects "SafeSweeps" ({ cls := "SafeSweeps", name := "step", desc := "(I)I" } : Jvm.MethodName) ({ cls := "SafeSweeps", name := "step", desc := "(I)I" } : Jvm.MethodName)) ∈ kw_tbl := kts_3 (i := 192) rfl rfl
set_option maxRecDepth 100000 in
theorem kt_673 : (Jvm.Cond.code ({ cls := "SafeSweeps", name := "step", desc := "(I)I" } : Jvm.MethodName) prog_1_method_26_code (3 : Nat) (Option.some Jvm.ClassFile.FieldType.int)) ∈ kw_tbl := kts_3 (i := 193) rfl rfl
set_option maxRecDepth 100000 in
theorem kt_674 : (Jvm.Cond.methodLink "SafeSweeps" (252 : Nat) ({ cls := "SafeSweeps$Sweep", name := "advance", desc := "()Z" } : Jvm.MethodName)) ∈ kw_tbl := kts_3 (i := 194) rfl rfl
set_option maxRecDepth 100000 in
theorem kt_675 : (Jvm.Cond.instanceMethod ({ cls := "SafeSweeps$Sweep", name := "advance", desc := "()Z" } : Jvm.MethodName)) ∈ kw_tbl := kts_3 (i := 195) rfl rfl
set_option maxRecDepth 100000 in
theorem kt_676 : (Jvm.Cond.selects "SafeSweeps$Sweep" ({ cls := "SafeSweeps$Sweep", name := "advance", desc := "()Z" } : Jvm.MethodName) ({ cls := "SafeSweeps$Sweep", name := "advance", desc := "()Z" } : Jvm.MethodName)) ∈ kw_tbl := kts_3 (i := 196) rfl rfl
set_option maxRecDepth 100000 in
theorem kt_677 : (Jvm.Cond.code ({ cls := "SafeSweeps$Sweep", name := "advance", desc := "()Z" } : Jvm.MethodName) prog_12_method_6_code (2 : Nat) (Option.some Jvm.ClassFile.FieldType.boolean)) ∈ kw_tbl := kts_3 (i := 197) rfl rfl
set_option maxRecDepth 100000 in
theorem kt_678 : (Jvm.Cond.methodLink "SafeSweeps$Sweep" (69 : Nat) ({ cls := "SafeSweeps$Sweep", name := "markFirst", desc := "()V" } : Jvm.MethodName)) ∈ kw_tbl := kts_3 (i := 198) rfl rfl
set_option maxRecDepth 100000 in
theorem kt_679 : (Jvm.Cond.instanceMethod ({ cls := "SafeSweeps$Sweep", name := "markFirst", desc := "()V" } : Jvm.MethodName)) ∈ kw_tbl := kts_3 (i := 199) rfl rfl
set_option maxRecDepth 100000 in
theorem kt_680 : (Jvm.Cond.selects "SafeSweeps$Sweep" ({ cls := "SafeSweeps$Sweep", name := "markFirst", desc := "()V" } : Jvm.MethodName) ({ cls := "SafeSweeps$Sweep", name := "markFirst", desc := "()V" } : Jvm.MethodName)) ∈ kw_tbl := kts_3 (i := 200) rfl rfl
set_option maxRecDepth 100000 in
theorem kt_681 : (Jvm.Cond.code ({ cls := "SafeSweeps$Sweep", name := "markFirst", desc := "()V" } : Jvm.MethodName) prog_12_method_8_code (2 : Nat) (Option.none : Option Jvm.ClassFile.FieldType)) ∈ kw_tbl := kts_3 (i := 201) rfl rfl
set_option maxRecDepth 100000 in
theorem kt_682 : (Jvm.Cond.methodLink "SafeSweeps$Sweep" (97 : Nat) ({ cls := "SafeSweeps$Sweep", name := "lineUpAll", desc := "([II)V" } : Jvm.MethodName)) ∈ kw_tbl := kts_3 (i := 202) rfl rfl
set_option maxRecDepth 100000 in
theorem kt_683 : (Jvm.Cond.methodLink "SafeSweeps$Sweep" (72 : Nat) ({ cls := "SafeSweeps$Sweep", name := "clearNext", desc := "()Z" } : Jvm.MethodName)) ∈ kw_tbl := kts_3 (i := 203) rfl rfl
set_option maxRecDepth 100000 in
theorem kt_684 : (Jvm.Cond.instanceMethod ({ cls := "SafeSweeps$Sweep", name := "clearNext", desc := "()Z" } : Jvm.MethodName)) ∈ kw_tbl := kts_3 (i := 204) rfl rfl
set_option maxRecDepth 100000 in
theorem kt_685 : (Jvm.Cond.selects "SafeSweeps$Sweep" ({ cls := "SafeSweeps$Sweep", name := "clearNext", desc := "()Z" } : Jvm.MethodName) ({ cls := "SafeSweeps$Sweep", name := "clearNext", desc := "()Z" } : Jvm.MethodName)) ∈ kw_tbl := kts_3 (i := 205) rfl rfl
set_option maxRecDepth 100000 in
theorem kt_686 : (Jvm.Cond.code ({ cls := "SafeSweeps$Sweep", name := "clearNext", desc := "()Z" } : Jvm.MethodName) prog_12_method_9_code (3 : Nat) (Option.some Jvm.ClassFile.FieldType.boolean)) ∈ kw_tbl := kts_3 (i := 206) rfl rfl
set_option maxRecDepth 100000 in
theorem kt_687 : (Jvm.Cond.methodLink "SafeSweeps$Sweep" (104 : Nat) ({ cls := "SafeSweeps$Store", name := "await", desc := "(II)Z" } : Jvm.MethodName)) ∈ kw_tbl := kts_3 (i := 207) rfl rfl
set_option maxRecDepth 100000 in
theorem kt_688 : (Jvm.Cond.methodLink "SafeSweeps$Sweep" (76 : Nat) ({ cls := "SafeSweeps$Sweep", name := "chooseNext", desc := "()Z" } : Jvm.MethodName)) ∈ kw_tbl := kts_3 (i := 208) rfl rfl
set_option maxRecDepth 100000 in
theorem kt_689 : (Jvm.Cond.instanceMethod ({ cls := "SafeSweeps$Sweep", name := "chooseNext", desc := "()Z" } : Jvm.MethodName)) ∈ kw_tbl := kts_3 (i := 209) rfl rfl
set_option maxRecDepth 100000 in
theorem kt_690 : (Jvm.Cond.selects "SafeSweeps$Sweep" ({ cls := "SafeSweeps$Sweep", name := "chooseNext", desc := "()Z" } : Jvm.MethodName) ({ cls := "SafeSweeps$Sweep", name := "chooseNext", desc := "()Z" } : Jvm.MethodName)) ∈ kw_tbl := kts_3 (i := 210) rfl rfl
set_option maxRecDepth 100000 in
theorem kt_691 : (Jvm.Cond.code ({ cls := "SafeSweeps$Sweep", name := "chooseNext", desc := "()Z" } : Jvm.MethodName) prog_12_method_10_code (3 : Nat) (Option.some Jvm.ClassFile.FieldType.boolean)) ∈ kw_tbl := kts_3 (i := 211) rfl rfl
set_option maxRecDepth 100000 in
theorem kt_692 : (Jvm.Cond.methodLink "SafeSweeps$Sweep" (111 : Nat) ({ cls := "SafeSweeps$Store", name := "free", desc := "(I)Z" } : Jvm.MethodName)) ∈ kw_tbl := kts_3 (i := 212) rfl rfl
set_option maxRecDepth 100000 in
theorem kt_693 : (Jvm.Cond.instanceMethod ({ cls := "SafeSweeps$Store", name := "free", desc := "(I)Z" } : Jvm.MethodName)) ∈ kw_tbl := kts_3 (i := 213) rfl rfl
set_option maxRecDepth 100000 in
theorem kt_694 : (Jvm.Cond.selects "SafeSweeps$Store" ({ cls := "SafeSweeps$Store", name := "free", desc := "(I)Z" } : Jvm.MethodName) ({ cls := "SafeSweeps$Store", name := "free", desc := "(I)Z" } : Jvm.MethodName)) ∈ kw_tbl := kts_3 (i := 214) rfl rfl
set_option maxRecDepth 100000 in
theorem kt_695 : (Jvm.Cond.code ({ cls := "SafeSweeps$Store", name := "free", desc := "(I)Z" } : Jvm.MethodName) prog_11_method_11_code (3 : Nat) (Option.some Jvm.ClassFile.FieldType.boolean)) ∈ kw_tbl := kts_3 (i := 215) rfl rfl
set_option maxRecDepth 100000 in
theorem kt_696 : (Jvm.Cond.methodLink "SafeSweeps$Sweep" (79 : Nat) ({ cls := "SafeSweeps$Sweep", name := "packNext", desc := "()Z" } : Jvm.MethodName)) ∈ kw_tbl := kts_3 (i := 216) rfl rfl
set_option maxRecDepth 100000 in
theorem kt_697 : (Jvm.Cond.instanceMethod ({ cls := "SafeSweeps$Sweep", name := "packNext", desc := "()Z" } : Jvm.MethodName)) ∈ kw_tbl := kts_3 (i := 217) rfl rfl
set_option maxRecDepth 100000 in
theorem kt_698 : (Jvm.Cond.selects "SafeSweeps$Sweep" ({ cls := "SafeSweeps$Sweep", name := "packNext", desc := "()Z" } : Jvm.MethodName) ({ cls := "SafeSweeps$Sweep", name := "packNext", desc := "()Z" } : Jvm.MethodName)) ∈ kw_tbl := kts_3 (i := 218) rfl rfl
set_option maxRecDepth 100000 in
theorem kt_699 : (Jvm.Cond.code ({ cls := "SafeSweeps$Sweep", name := "packNext", desc := "()Z" } : Jvm.MethodName) prog_12_method_11_code (2 : Nat) (Option.some Jvm.ClassFile.FieldType.boolean)) ∈ kw_tbl := kts_3 (i := 219) rfl rfl
set_option maxRecDepth 100000 in
theorem kt_700 : (Jvm.Cond.methodLink "SafeSweeps$Sweep" (115 : Nat) ({ cls := "SafeSweeps$Mover", name := "isDue", desc := "(II)Z" } : Jvm.MethodName)) ∈ kw_tbl := kts_3 (i := 220) rfl rfl
set_option maxRecDepth 100000 in
theorem kt_701 : (Jvm.Cond.instanceMethod ({ cls := "SafeSweeps$Mover", name := "isDue", desc := "(II)Z" } : Jvm.MethodName)) ∈ kw_tbl := kts_3 (i := 221) rfl rfl
set_option maxRecDepth 100000 in
theorem kt_702 : (Jvm.Cond.selects "SafeSweeps$Mover" ({ cls := "SafeSweeps$Mover", name := "isDue", desc := "(II)Z" } : Jvm.MethodName) ({ cls := "SafeSweeps$Mover", name := "isDue", desc := "(II)Z" } : Jvm.MethodName)) ∈ kw_tbl := kts_3 (i := 222) rfl rfl
set_option maxRecDepth 100000 in
theorem kt_703 : (Jvm.Cond.code ({ cls := "SafeSweeps$Mover", name := "isDue", desc := "(II)Z" } : Jvm.MethodName) prog_6_method_2_code (4 : Nat) (Option.some Jvm.ClassFile.FieldType.boolean)) ∈ kw_tbl := kts_3 (i := 223) rfl rfl
set_option maxRecDepth 100000 in
theorem kt_704 : (Jvm.Cond.methodLink "SafeSweeps$Sweep" (118 : Nat) ({ cls := "SafeSweeps$Mover", name := "packAnew", desc := "(I)Z" } : Jvm.MethodName)) ∈ kw_tbl := kts_3 (i := 224) rfl rfl
set_option maxRecDepth 100000 in
theorem kt_705 : (Jvm.Cond.instanceMethod ({ cls := "SafeSweeps$Mover", name := "packAnew", desc := "(I)Z" } : Jvm.MethodName)) ∈ kw_tbl := kts_3 (i := 225) rfl rfl
set_option maxRecDepth 100000 in
theorem kt_706 : (Jvm.Cond.selects "SafeSweeps$Mover" ({ cls := "SafeSweeps$Mover", name := "packAnew", desc := "(I)Z" } : Jvm.MethodName) ({ cls := "SafeSweeps$Mover", name := "packAnew", desc := "(I)Z" } : Jvm.MethodName)) ∈ kw_tbl := kts_3 (i := 226) rfl rfl
set_option maxRecDepth 100000 in
theorem kt_707 : (Jvm.Cond.code ({ cls := "SafeSweeps$Mover", name := "packAnew", desc := "(I)Z" } : Jvm.MethodName) prog_6_method_3_code (3 : Nat) (Option.some Jvm.ClassFile.FieldType.boolean)) ∈ kw_tbl := kts_3 (i := 227) rfl rfl
set_option maxRecDepth 100000 in
theorem kt_708 : (Jvm.Cond.methodLink "SafeSweeps$Mover" (47 : Nat) ({ cls := "SafeSweeps$Mover", name := "collect", desc := "(I)V" } : Jvm.MethodName)) ∈ kw_tbl := kts_3 (i := 228) rfl rfl
set_option maxRecDepth 100000 in
theorem kt_709 : (Jvm.Cond.instanceMethod ({ cls := "SafeSweeps$Mover", name := "collect", desc := "(I)V" } : Jvm.MethodName)) ∈ kw_tbl := kts_3 (i := 229) rfl rfl
set_option maxRecDepth 100000 in
theorem kt_710 : (Jvm.Cond.selects "SafeSweeps$Mover" ({ cls := "SafeSweeps$Mover", name := "collect", desc := "(I)V" } : Jvm.MethodName) ({ cls := "SafeSweeps$Mover", name := "collect", desc := "(I)V" } : Jvm.MethodName)) ∈ kw_tbl := kts_3 (i := 230) rfl rfl
set_option maxRecDepth 100000 in
theorem kt_711 : (Jvm.Cond.code ({ cls := "SafeSweeps$Mover", name := "collect", desc := "(I)V" } : Jvm.MethodName) prog_6_method_4_code (3 : Nat) (Option.none : Option Jvm.ClassFile.FieldType)) ∈ kw_tbl := kts_3 (i := 231) rfl rfl
set_option maxRecDepth 100000 in
theorem kt_712 : (Jvm.Cond.methodLink "SafeSweeps$Mover" (70 : Nat) ({ cls := "SafeSweeps$Store", name := "liesIn", desc := "(II)Z" } : Jvm.MethodName)) ∈ kw_tbl := kts_3 (i := 232) rfl rfl
set_option maxRecDepth 100000 in
theorem kt_713 : (Jvm.Cond.instanceMethod ({ cls := "SafeSweeps$Store", name := "liesIn", desc := "(II)Z" } : Jvm.MethodName)) ∈ kw_tbl := kts_3 (i := 233) rfl rfl
set_option maxRecDepth 100000 in
theorem kt_714 : (Jvm.Cond.selects "SafeSweeps$Store" ({ cls := "SafeSweeps$Store", name := "liesIn", desc := "(II)Z" } : Jvm.MethodName) ({ cls := "SafeSweeps$Store", name := "liesIn", desc := "(II)Z" } : Jvm.MethodName)) ∈ kw_tbl := kts_3 (i := 234) rfl rfl
set_option maxRecDepth 100000 in
theorem kt_715 : (Jvm.Cond.code ({ cls := "SafeSweeps$Store", name := "liesIn", desc := "(II)Z" } : Jvm.MethodName) prog_11_method_5_code (3 : Nat) (Option.some Jvm.ClassFile.FieldType.boolean)) ∈ kw_tbl := kts_3 (i := 235) rfl rfl
set_option maxRecDepth 100000 in
theorem kt_716 : (Jvm.Cond.methodLink "SafeSweeps$Mover" (74 : Nat) ({ cls := "SafeSweeps$Mover", name := "insertByPlace", desc := "(I)V" } : Jvm.MethodName)) ∈ kw_tbl := kts_3 (i := 236) rfl rfl
set_option maxRecDepth 100000 in
theorem kt_717 : (Jvm.Cond.instanceMethod ({ cls := "SafeSweeps$Mover", name := "insertByPlace", desc := "(I)V" } : Jvm.MethodName)) ∈ kw_tbl := kts_3 (i := 237) rfl rfl
set_option maxRecDepth 100000 in
theorem kt_718 : (Jvm.Cond.selects "SafeSweeps$Mover" ({ cls := "SafeSweeps$Mover", name := "insertByPlace", desc := "(I)V" } : Jvm.MethodName) ({ cls := "SafeSweeps$Mover", name := "insertByPlace", desc := "(I)V" } : Jvm.MethodName)) ∈ kw_tbl := kts_3 (i := 238) rfl rfl
set_option maxRecDepth 100000 in
theorem kt_719 : (Jvm.Cond.code ({ cls := "SafeSweeps$Mover", name := "insertByPlace", desc := "(I)V" } : Jvm.MethodName) prog_6_method_5_code (4 : Nat) (Option.none : Option Jvm.ClassFile.FieldType)) ∈ kw_tbl := kts_3 (i := 239) rfl rfl
set_option maxRecDepth 100000 in
theorem kt_720 : (Jvm.Cond.methodLink "SafeSweeps$Mover" (51 : Nat) ({ cls := "SafeSweeps$Mover", name := "plan", desc := "(I)Z" } : Jvm.MethodName)) ∈ kw_tbl := kts_4 (i := 0) rfl rfl
set_option maxRecDepth 100000 in
theorem kt_721 : (Jvm.Cond.instanceMethod ({ cls := "SafeSweeps$Mover", name := "plan", desc := "(I)Z" } : Jvm.MethodName)) ∈ kw_tbl := kts_4 (i := 1) rfl rfl
set_option maxRecDepth 100000 in
theorem kt_722 : (Jvm.Cond.selects "SafeSweeps$Mover" ({ cls := "SafeSweeps$Mover", name := "plan", desc := "(I)Z" } : Jvm.MethodName) ({ cls := "SafeSweeps$Mover", name := "plan", desc := "(I)Z" } : Jvm.MethodName)) ∈ kw_tbl := kts_4 (i := 2) rfl rfl
set_option maxRecDepth 100000 in
theorem kt_723 : (Jvm.Cond.code ({ cls := "SafeSweeps$Mover", name := "plan", desc := "(I)Z" } : Jvm.MethodName) prog_6_method_6_code (6 : Nat) (Option.some Jvm.ClassFile.FieldType.boolean)) ∈ kw_tbl := kts_4 (i := 3) rfl rfl
set_option maxRecDepth 100000 in
theorem kt_724 : (Jvm.Cond.methodLink "SafeSweeps$Mover" (89 : Nat) ({ cls := "SafeSweeps$Store", name := "filledOfLatest", desc := "(I)I" } : Jvm.MethodName)) ∈ kw_tbl := kts_4 (i := 4) rfl rfl
set_option maxRecDepth 100000 in
theorem kt_725 : (Jvm.Cond.methodLink "SafeSweeps$Mover" (58 : Nat) ({ cls := "SafeSweeps$Journal", name := "write", desc := "()Z" } : Jvm.MethodName)) ∈ kw_tbl := kts_4 (i := 5) rfl rfl
set_option maxRecDepth 100000 in
theorem kt_726 : (Jvm.Cond.methodLink "SafeSweeps$Mover" (64 : Nat) ({ cls := "SafeSweeps$Mover", name := "carryOut", desc := "(I)V" } : Jvm.MethodName)) ∈ kw_tbl := kts_4 (i := 6) rfl rfl
set_option maxRecDepth 100000 in
theorem kt_727 : (Jvm.Cond.instanceMethod ({ cls := "SafeSweeps$Mover", name := "carryOut", desc := "(I)V" } : Jvm.MethodName)) ∈ kw_tbl := kts_4 (i := 7) rfl rfl
set_option maxRecDepth 100000 in
theorem kt_728 : (Jvm.Cond.selects "SafeSweeps$Mover" ({ cls := "SafeSweeps$Mover", name := "carryOut", desc := "(I)V" } : Jvm.MethodName) ({ cls := "SafeSweeps$Mover", name := "carryOut", desc := "(I)V" } : Jvm.MethodName)) ∈ kw_tbl := kts_4 (i := 8) rfl rfl
set_option maxRecDepth 100000 in
theorem kt_729 : (Jvm.Cond.code ({ cls := "SafeSweeps$Mover", name := "carryOut", desc := "(I)V" } : Jvm.MethodName) prog_6_method_7_code (3 : Nat) (Option.none : Option Jvm.ClassFile.FieldType)) ∈ kw_tbl := kts_4 (i := 9) rfl rfl
set_option maxRecDepth 100000 in
theorem kt_730 : (Jvm.Cond.methodLink "SafeSweeps$Mover" (99 : Nat) ({ cls := "SafeSweeps$Store", name := "lay", desc := "(III)V" } : Jvm.MethodName)) ∈ kw_tbl := kts_4 (i := 10) rfl rfl
set_option maxRecDepth 100000 in
theorem kt_731 : (Jvm.Cond.methodLink "SafeSweeps$Sweep" (82 : Nat) ({ cls := "SafeSweeps$Sweep", name := "settle", desc := "()V" } : Jvm.MethodName)) ∈ kw_tbl := kts_4 (i := 11) rfl rfl
set_option maxRecDepth 100000 in
theorem kt_732 : (Jvm.Cond.methodLink "SafeSweepsLaw" (81 : Nat) ({ cls := "SafeSweeps", name := "share", desc := "(I)I" } : Jvm.MethodName)) ∈ kw_tbl := kts_4 (i := 12) rfl rfl
set_option maxRecDepth 100000 in
theorem kt_733 : (Jvm.Cond.instanceMethod ({ cls := "SafeSweeps", name := "share", desc := "(I)I" } : Jvm.MethodName)) ∈ kw_tbl := kts_4 (i := 13) rfl rfl
set_option maxRecDepth 100000 in
theorem kt_734 : (Jvm.Cond.selects "SafeSweeps" ({ cls := "SafeSweeps", name := "share", desc := "(I)I" } : Jvm.MethodName) ({ cls := "SafeSweeps", name := "share", desc := "(I)I" } : Jvm.MethodName)) ∈ kw_tbl := kts_4 (i := 14) rfl rfl
set_option maxRecDepth 100000 in
theorem kt_735 : (Jvm.Cond.code ({ cls := "SafeSweeps", name := "share", desc := "(I)I" } : Jvm.MethodName) prog_1_method_27_code (3 : Nat) (Option.some Jvm.ClassFile.FieldType.int)) ∈ kw_tbl := kts_4 (i := 15) rfl rfl
set_option maxRecDepth 100000 in
theorem kt_736 : (Jvm.Cond.methodLink "SafeSweepsLaw" (85 : Nat) ({ cls := "SafeSweeps", name := "cut", desc := "(I)I" } : Jvm.MethodName)) ∈ kw_tbl := kts_4 (i := 16) rfl rfl
set_option maxRecDepth 100000 in
theorem kt_737 : (Jvm.Cond.instanceMethod ({ cls := "SafeSweeps", name := "cut", desc := "(I)I" } : Jvm.MethodName)) ∈ kw_tbl := kts_4 (i := 17) rfl rfl
set_option maxRecDepth 100000 in
theorem kt_738 : (Jvm.Cond.selects "SafeSweeps" ({ cls := "SafeSweeps", name := "cut", desc := "(I)I" } : Jvm.MethodName) ({ cls := "SafeSweeps", name := "cut", desc := "(I)I" } : Jvm.MethodName)) ∈ kw_tbl := kts_4 (i := 18) rfl rfl
set_option maxRecDepth 100000 in
theorem kt_739 : (Jvm.Cond.code ({ cls := "SafeSweeps", name := "cut", desc := "(I)I" } : Jvm.MethodName) prog_1_method_28_code (2 : Nat) (Option.some Jvm.ClassFile.FieldType.int)) ∈ kw_tbl := kts_4 (i := 19) rfl rfl
set_option maxRecDepth 100000 in
theorem kt_740 : (Jvm.Cond.methodLink "SafeSweepsLaw" (89 : Nat) ({ cls := "SafeSweeps", name := "open", desc := "()I" } : Jvm.MethodName)) ∈ kw_tbl := kts_4 (i := 20) rfl rfl
set_option maxRecDepth 100000 in
theorem kt_741 : (Jvm.Cond.instanceMethod ({ cls := "SafeSweeps", name := "open", desc := "()I" } : Jvm.MethodName)) ∈ kw_tbl := kts_4 (i := 21) rfl rfl
set_option maxRecDepth 100000 in
theorem kt_742 : (Jvm.Cond.selects "SafeSweeps" ({ cls := "SafeSweeps", name := "open", desc := "()I" } : Jvm.MethodName) ({ cls := "SafeSweeps", name := "open", desc := "()I" } : Jvm.MethodName)) ∈ kw_tbl := kts_4 (i := 22) rfl rfl
set_option maxRecDepth 100000 in
theorem kt_743 : (Jvm.Cond.code ({ cls := "SafeSweeps", name := "open", desc := "()I" } : Jvm.MethodName) prog_1_method_29_code (1 : Nat) (Option.some Jvm.ClassFile.FieldType.int)) ∈ kw_tbl := kts_4 (i := 23) rfl rfl
set_option maxRecDepth 100000 in
theorem kt_744 : (Jvm.Cond.methodLink "SafeSweeps" (261 : Nat) ({ cls := "SafeSweeps$Store", name := "blocksWaiting", desc := "()I" } : Jvm.MethodName)) ∈ kw_tbl := kts_4 (i := 24) rfl rfl
set_option maxRecDepth 100000 in
theorem kt_745 : (Jvm.Cond.instanceMethod ({ cls := "SafeSweeps$Store", name := "blocksWaiting", desc := "()I" } : Jvm.MethodName)) ∈ kw_tbl := kts_4 (i := 25) rfl rfl
set_option maxRecDepth 100000 in
theorem kt_746 : (Jvm.Cond.selects "SafeSweeps$Store" ({ cls := "SafeSweeps$Store", name := "blocksWaiting", desc := "()I" } : Jvm.MethodName) ({ cls := "SafeSweeps$Store", name := "blocksWaiting", desc := "()I" } : Jvm.MethodName)) ∈ kw_tbl := kts_4 (i := 26) rfl rfl
set_option maxRecDepth 100000 in
theorem kt_747 : (Jvm.Cond.code ({ cls := "SafeSweeps$Store", name := "blocksWaiting", desc := "()I" } : Jvm.MethodName) prog_11_method_3_code (3 : Nat) (Option.some Jvm.ClassFile.FieldType.int)) ∈ kw_tbl := kts_4 (i := 27) rfl rfl
set_option maxRecDepth 100000 in
theorem kt_748 : (Jvm.Cond.methodLink "SafeSweepsLaw" (93 : Nat) ({ cls := "SafeSweeps", name := "follow", desc := "(II)I" } : Jvm.MethodName)) ∈ kw_tbl := kts_4 (i := 28) rfl rfl
set_option maxRecDepth 100000 in
theorem kt_749 : (Jvm.Cond.instanceMethod ({ cls := "SafeSweeps", name := "follow", desc := "(II)I" } : Jvm.MethodName)) ∈ kw_tbl := kts_4 (i := 29) rfl rfl
set_option maxRecDepth 100000 in
theorem kt_750 : (Jvm.Cond.selects "SafeSweeps" ({ cls := "SafeSweeps", name := "follow", desc := "(II)I" } : Jvm.MethodName) ({ cls := "SafeSweeps", name := "follow", desc := "(II)I" } : Jvm.MethodName)) ∈ kw_tbl := kts_4 (i := 30) rfl rfl
set_option maxRecDepth 100000 in
theorem kt_751 : (Jvm.Cond.code ({ cls := "SafeSweeps", name := "follow", desc := "(II)I" } : Jvm.MethodName) prog_1_method_31_code (3 : Nat) (Option.some Jvm.ClassFile.FieldType.int)) ∈ kw_tbl := kts_4 (i := 31) rfl rfl
set_option maxRecDepth 100000 in
theorem kt_752 : (Jvm.Cond.methodLink "SafeSweeps" (264 : Nat) ({ cls := "SafeSweeps$Mirror", name := "repeat", desc := "(LSafeSweeps$Journal;I)V" } : Jvm.MethodName)) ∈ kw_tbl := kts_4 (i := 32) rfl rfl
set_option maxRecDepth 100000 in
theorem kt_753 : (Jvm.Cond.instanceMethod ({ cls := "SafeSweeps$Mirror", name := "repeat", desc := "(LSafeSweeps$Journal;I)V" } : Jvm.MethodName)) ∈ kw_tbl := kts_4 (i := 33) rfl rfl
set_option maxRecDepth 100000 in
theorem kt_754 : (Jvm.Cond.selects "SafeSweeps$Mirror" ({ cls := "SafeSweeps$Mirror", name := "repeat", desc := "(LSafeSweeps$Journal;I)V" } : Jvm.MethodName) ({ cls := "SafeSweeps$Mirror", name := "repeat", desc := "(LSafeSweeps$Journal;I)V" } : Jvm.MethodName)) ∈ kw_tbl := kts_4 (i := 34) rfl rfl
set_option maxRecDepth 100000 in
theorem kt_755 : (Jvm.Cond.code ({ cls := "SafeSweeps$Mirror", name := "repeat", desc := "(LSafeSweeps$Journal;I)V" } : Jvm.MethodName) prog_5_method_2_code (7 : Nat) (Option.none : Option Jvm.ClassFile.FieldType)) ∈ kw_tbl := kts_4 (i := 35) rfl rfl
set_option maxRecDepth 100000 in
theorem kt_756 : (Jvm.Cond.methodLink "SafeSweeps$Mirror" (27 : Nat) ({ cls := "java/lang/Math", name := "min", desc := "(II)I" } : Jvm.MethodName)) ∈ kw_tbl := kts_4 (i := 36) rfl rfl
set_option maxRecDepth 100000 in
theorem kt_757 : (Jvm.Cond.methodLink "SafeSweepsLaw" (97 : Nat) ({ cls := "SafeSweeps", name := "count", desc := "(I)I" } : Jvm.MethodName)) ∈ kw_tbl := kts_4 (i := 37) rfl rfl
set_option maxRecDepth 100000 in
theorem kt_758 : (Jvm.Cond.instanceMethod ({ cls := "SafeSweeps", name := "count", desc := "(I)I" } : Jvm.MethodName)) ∈ kw_tbl := kts_4 (i := 38) rfl rfl
set_option maxRecDepth 100000 in
theorem kt_759 : (Jvm.Cond.selects "SafeSweeps" ({ cls := "SafeSweeps", name := "count", desc := "(I)I" } : Jvm.MethodName) ({ cls := "SafeSweeps", name := "count", desc := "(I)I" } : Jvm.MethodName)) ∈ kw_tbl := kts_4 (i := 39) rfl rfl
set_option maxRecDepth 100000 in
theorem kt_760 : (Jvm.Cond.code ({ cls := "SafeSweeps", name := "count", desc := "(I)I" } : Jvm.MethodName) prog_1_method_32_code (2 : Nat) (Option.some Jvm.ClassFile.FieldType.int)) ∈ kw_tbl := kts_4 (i := 40) rfl rfl
set_option maxRecDepth 100000 in
theorem kt_761 : (Jvm.Cond.methodLink "SafeSweeps" (286 : Nat) ({ cls := "SafeSweeps", name := "saversHere", desc := "()I" } : Jvm.MethodName)) ∈ kw_tbl := kts_4 (i := 41) rfl rfl
set_option maxRecDepth 100000 in
theorem kt_763 : (Jvm.Cond.instanceMethod ({ cls := "SafeSweeps", name := "saversHere", desc := "()I" } : Jvm.MethodName)) ∈ kw_tbl := kts_4 (i := 43) rfl rfl
set_option maxRecDepth 100000 in
theorem kt_764 : (Jvm.Cond.code ({ cls := "SafeSweeps", name := "saversHere", desc := "()I" } : Jvm.MethodName) prog_1_method_14_code (3 : Nat) (Option.some Jvm.ClassFile.FieldType.int)) ∈ kw_tbl := kts_4 (i := 44) rfl rfl
set_option maxRecDepth 100000 in
theorem kt_765 : (Jvm.Cond.methodLink "SafeSweepsLaw" (101 : Nat) ({ cls := "SafeSweeps", name := "block", desc := "(II)I" } : Jvm.MethodName)) ∈ kw_tbl := kts_4 (i := 45) rfl rfl
set_option maxRecDepth 100000 in
theorem kt_766 : (Jvm.Cond.instanceMethod ({ cls := "SafeSweeps", name := "block", desc := "(II)I" } : Jvm.MethodName)) ∈ kw_tbl := kts_4 (i := 46) rfl rfl
set_option maxRecDepth 100000 in
theorem kt_767 : (Jvm.Cond.selects "SafeSweeps" ({ cls := "SafeSweeps", name := "block", desc := "(II)I" } : Jvm.MethodName) ({ cls := "SafeSweeps", name := "block", desc := "(II)I" } : Jvm.MethodName)) ∈ kw_tbl := kts_4 (i := 47) rfl rfl
set_option maxRecDepth 100000 in
theorem kt_768 : (Jvm.Cond.code ({ cls := "SafeSweeps", name := "block", desc := "(II)I" } : Jvm.MethodName) prog_1_method_33_code (4 : Nat) (Option.some Jvm.ClassFile.FieldType.int)) ∈ kw_tbl := kts_4 (i := 48) rfl rfl
set_option maxRecDepth 100000 in
theorem kt_769 : (Jvm.Cond.methodLink "SafeSweeps" (319 : Nat) ({ cls := "SafeSweeps", name := "saversThatUse", desc := "(I)I" } : Jvm.MethodName)) ∈ kw_tbl := kts_4 (i := 49) rfl rfl
set_option maxRecDepth 100000 in
theorem kt_771 : (Jvm.Cond.instanceMethod ({ cls := "SafeSweeps", name := "saversThatUse", desc := "(I)I" } : Jvm.MethodName)) ∈ kw_tbl := kts_4 (i := 51) rfl rfl
set_option maxRecDepth 100000 in
theorem kt_772 : (Jvm.Cond.code ({ cls := "SafeSweeps", name := "saversThatUse", desc := "(I)I" } : Jvm.MethodName) prog_1_method_15_code (4 : Nat) (Option.some Jvm.ClassFile.FieldType.int)) ∈ kw_tbl := kts_4 (i := 52) rfl rfl
set_option maxRecDepth 100000 in
theorem kt_773 : (Jvm.Cond.methodLink "SafeSweepsLaw" (105 : Nat) ({ cls := "SafeSweeps", name := "key", desc := "(I)J" } : Jvm.MethodName)) ∈ kw_tbl := kts_4 (i := 53) rfl rfl
set_option maxRecDepth 100000 in
theorem kt_774 : (Jvm.Cond.instanceMethod ({ cls := "SafeSweeps", name := "key", desc := "(I)J" } : Jvm.MethodName)) ∈ kw_tbl := kts_4 (i := 54) rfl rfl
set_option maxRecDepth 100000 in
theorem kt_775 : (Jvm.Cond.selects "SafeSweeps" ({ cls := "SafeSweeps", name := "key", desc := "(I)J" } : Jvm.MethodName) ({ cls := "SafeSweeps", name := "key", desc := "(I)J" } : Jvm.MethodName)) ∈ kw_tbl := kts_4 (i := 55) rfl rfl
set_option maxRecDepth 100000 in
theorem kt_776 : (Jvm.Cond.code ({ cls := "SafeSweeps", name := "key", desc := "(I)J" } : Jvm.MethodName) prog_1_method_34_code (2 : Nat) (Option.some Jvm.ClassFile.FieldType.long)) ∈ kw_tbl := kts_4 (i := 56) rfl rfl
set_option maxRecDepth 100000 in
theorem kt_777 : (Jvm.Cond.methodLink "SafeSweepsLaw" (110 : Nat) ({ cls := "SafeSweeps", name := "pack", desc := "(II)I" } : Jvm.MethodName)) ∈ kw_tbl := kts_4 (i := 57) rfl rfl
set_option maxRecDepth 100000 in
theorem kt_778 : (Jvm.Cond.instanceMethod ({ cls := "SafeSweeps", name := "pack", desc := "(II)I" } : Jvm.MethodName)) ∈ kw_tbl := kts_4 (i := 58) rfl rfl
set_option maxRecDepth 100000 in
theorem kt_779 : (Jvm.Cond.selects "SafeSweeps" ({ cls := "SafeSweeps", name := "pack", desc := "(II)I" } : Jvm.MethodName) ({ cls := "SafeSweeps", name := "pack", desc := "(II)I" } : Jvm.MethodName)) ∈ kw_tbl := kts_4 (i := 59) rfl rfl
set_option maxRecDepth 100000 in
theorem kt_780 : (Jvm.Cond.code ({ cls := "SafeSweeps", name := "pack", desc := "(II)I" } : Jvm.MethodName) prog_1_method_35_code (4 : Nat) (Option.some Jvm.ClassFile.FieldType.int)) ∈ kw_tbl := kts_4 (i := 60) rfl rfl
set_option maxRecDepth 100000 in
theorem kt_781 : (Jvm.Cond.methodLink "SafeSweeps" (339 : Nat) ({ cls := "SafeSweeps$Store", name := "blocksIn", desc := "(I)I" } : Jvm.MethodName)) ∈ kw_tbl := kts_4 (i := 61) rfl rfl
set_option maxRecDepth 100000 in
theorem kt_782 : (Jvm.Cond.instanceMethod ({ cls := "SafeSweeps$Store", name := "blocksIn", desc := "(I)I" } : Jvm.MethodName)) ∈ kw_tbl := kts_4 (i := 62) rfl rfl
set_option maxRecDepth 100000 in
theorem kt_783 : (Jvm.Cond.selects "SafeSweeps$Store" ({ cls := "SafeSweeps$Store", name := "blocksIn", desc := "(I)I" } : Jvm.MethodName) ({ cls := "SafeSweeps$Store", name := "blocksIn", desc := "(I)I" } : Jvm.MethodName)) ∈ kw_tbl := kts_4 (i := 63) rfl rfl
set_option maxRecDepth 100000 in
theorem kt_784 : (Jvm.Cond.code ({ cls := "SafeSweeps$Store", name := "blocksIn", desc := "(I)I" } : Jvm.MethodName) prog_11_method_4_code (4 : Nat) (Option.some Jvm.ClassFile.FieldType.int)) ∈ kw_tbl := kts_4 (i := 64) rfl rfl
set_option maxRecDepth 100000 in
theorem kt_785 : (Jvm.Cond.methodLink "SafeSweeps$Store" (45 : Nat) ({ cls := "SafeSweeps$Store", name := "liesIn", desc := "(II)Z" } : Jvm.MethodName)) ∈ kw_tbl := kts_4 (i := 65) rfl rfl
set_option maxRecDepth 100000 in
theorem kt_786 : (Jvm.Cond.methodLink "SafeSweepsLaw" (114 : Nat) ({ cls := "SafeSweeps", name := "snapshot", desc := "(II)I" } : Jvm.MethodName)) ∈ kw_tbl := kts_4 (i := 66) rfl rfl
set_option maxRecDepth 100000 in
theorem kt_787 : (Jvm.Cond.instanceMethod ({ cls := "SafeSweeps", name := "snapshot", desc := "(II)I" } : Jvm.MethodName)) ∈ kw_tbl := kts_4 (i := 67) rfl rfl
set_option maxRecDepth 100000 in
theorem kt_788 : (Jvm.Cond.selects "SafeSweeps" ({ cls := "SafeSweeps", name := "snapshot", desc := "(II)I" } : Jvm.MethodName) ({ cls := "SafeSweeps", name := "snapshot", desc := "(II)I" } : Jvm.MethodName)) ∈ kw_tbl := kts_4 (i := 68) rfl rfl
set_option maxRecDepth 100000 in
theorem kt_789 : (Jvm.Cond.code ({ cls := "SafeSweeps", name := "snapshot", desc := "(II)I" } : Jvm.MethodName) prog_1_method_36_code (4 : Nat) (Option.some Jvm.ClassFile.FieldType.int)) ∈ kw_tbl := kts_4 (i := 69) rfl rfl
set_option maxRecDepth 100000 in
theorem kt_790 : (Jvm.Cond.methodLink "SafeSweepsLaw" (118 : Nat) ({ cls := "SafeSweeps", name := "time", desc := "(I)J" } : Jvm.MethodName)) ∈ kw_tbl := kts_4 (i := 70) rfl rfl
set_option maxRecDepth 100000 in
theorem kt_791 : (Jvm.Cond.instanceMethod ({ cls := "SafeSweeps", name := "time", desc := "(I)J" } : Jvm.MethodName)) ∈ kw_tbl := kts_4 (i := 71) rfl rfl
set_option maxRecDepth 100000 in
theorem kt_792 : (Jvm.Cond.selects "SafeSweeps" ({ cls := "SafeSweeps", name := "time", desc := "(I)J" } : Jvm.MethodName) ({ cls := "SafeSweeps", name := "time", desc := "(I)J" } : Jvm.MethodName)) ∈ kw_tbl := kts_4 (i := 72) rfl rfl
set_option maxRecDepth 100000 in
theorem kt_793 : (Jvm.Cond.code ({ cls := "SafeSweeps", name := "time", desc := "(I)J" } : Jvm.MethodName) prog_1_method_37_code (2 : Nat) (Option.some Jvm.ClassFile.FieldType.long)) ∈ kw_tbl := kts_4 (i := 73) rfl rfl
set_option maxRecDepth 100000 in
theorem kt_794 : (Jvm.Cond.methodLink "SafeSweepsLaw" (122 : Nat) ({ cls := "SafeSweeps", name := "saver", desc := "(II)I" } : Jvm.MethodName)) ∈ kw_tbl := kts_4 (i := 74) rfl rfl
set_option maxRecDepth 100000 in
theorem kt_795 : (Jvm.Cond.instanceMethod ({ cls := "SafeSweeps", name := "saver", desc := "(II)I" } : Jvm.MethodName)) ∈ kw_tbl := kts_4 (i := 75) rfl rfl
set_option maxRecDepth 100000 in
theorem kt_796 : (Jvm.Cond.selects "SafeSweeps" ({ cls := "SafeSweeps", name := "saver", desc := "(II)I" } : Jvm.MethodName) ({ cls := "SafeSweeps", name := "saver", desc := "(II)I" } : Jvm.MethodName)) ∈ kw_tbl := kts_4 (i := 76) rfl rfl
set_option maxRecDepth 100000 in
theorem kt_797 : (Jvm.Cond.code ({ cls := "SafeSweeps", name := "saver", desc := "(II)I" } : Jvm.MethodName) prog_1_method_38_code (4 : Nat) (Option.some Jvm.ClassFile.FieldType.int)) ∈ kw_tbl := kts_4 (i := 77) rfl rfl
set_option maxRecDepth 100000 in
theorem kt_798 : (Jvm.Cond.methodLink "SafeSweepsLaw" (126 : Nat) ({ cls := "SafeSweeps", name := "swept", desc := "(I)I" } : Jvm.MethodName)) ∈ kw_tbl := kts_4 (i := 78) rfl rfl
set_option maxRecDepth 100000 in
theorem kt_799 : (Jvm.Cond.instanceMethod ({ cls := "SafeSweeps", name := "swept", desc := "(I)I" } : Jvm.MethodName)) ∈ kw_tbl := kts_4 (i := 79) rfl rfl
set_option maxRecDepth 100000 in
theorem kt_800 : (Jvm.Cond.selects "SafeSweeps" ({ cls := "SafeSweeps", name := "swept", desc := "(I)I" } : Jvm.MethodName) ({ cls := "SafeSweeps", name := "swept", desc := "(I)I" } : Jvm.MethodName)) ∈ kw_tbl := kts_4 (i := 80) rfl rfl
set_option maxRecDepth 100000 in
theorem kt_801 : (Jvm.Cond.code ({ cls := "SafeSweeps", name := "swept", desc := "(I)I" } : Jvm.MethodName) prog_1_method_39_code (3 : Nat) (Option.some Jvm.ClassFile.FieldType.int)) ∈ kw_tbl := kts_4 (i := 81) rfl rfl
set_option maxRecDepth 100000 in
theorem kt_802 : (Jvm.Cond.methodLink "SafeSweepsLaw" (130 : Nat) ({ cls := "SafeSweeps", name := "calendar", desc := "(JI)I" } : Jvm.MethodName)) ∈ kw_tbl := kts_4 (i := 82) rfl rfl
set_option maxRecDepth 100000 in
theorem kt_803 : (Jvm.Cond.instanceMethod ({ cls := "SafeSweeps", name := "calendar", desc := "(JI)I" } : Jvm.MethodName)) ∈ kw_tbl := kts_4 (i := 83) rfl rfl
set_option maxRecDepth 100000 in
theorem kt_804 : (Jvm.Cond.selects "SafeSweeps" ({ cls := "SafeSweeps", name := "calendar", desc := "(JI)I" } : Jvm.MethodName) ({ cls := "SafeSweeps", name := "calendar", desc := "(JI)I" } : Jvm.MethodName)) ∈ kw_tbl := kts_4 (i := 84) rfl rfl
set_option maxRecDepth 100000 in
theorem kt_805 : (Jvm.Cond.code ({ cls := "SafeSweeps", name := "calendar", desc := "(JI)I" } : Jvm.MethodName) prog_1_method_40_code (6 : Nat) (Option.some Jvm.ClassFile.FieldType.int)) ∈ kw_tbl := kts_4 (i := 85) rfl rfl
set_option maxRecDepth 100000 in
theorem kt_806 : (Jvm.Cond.constantLong "SafeSweeps" (360 : Nat) (-1000000000000 : Int64)) ∈ kw_tbl := kts_4 (i := 86) rfl rfl
set_option maxRecDepth 100000 in
theorem kt_807 : (Jvm.Cond.methodLink "SafeSweeps" (362 : Nat) ({ cls := "SafeSweeps$Calendar", name := "dayOf", desc := "(J)J" } : Jvm.MethodName)) ∈ kw_tbl := kts_4 (i := 87) rfl rfl
set_option maxRecDepth 100000 in
theorem kt_808 : (Jvm.Cond.methodLink "SafeSweeps" (368 : Nat) ({ cls := "SafeSweeps$Calendar", name := "yearOf", desc := "(J)J" } : Jvm.MethodName)) ∈ kw_tbl := kts_4 (i := 88) rfl rfl
set_option maxRecDepth 100000 in
theorem kt_809 : (Jvm.Cond.methodLink "SafeSweeps" (371 : Nat) ({ cls := "SafeSweeps$Calendar", name := "monthOf", desc := "(J)I" } : Jvm.MethodName)) ∈ kw_tbl := kts_4 (i := 89) rfl rfl
set_option maxRecDepth 100000 in
theorem kt_810 : (Jvm.Cond.static ({ cls := "SafeSweeps$Calendar", name := "monthOf", desc := "(J)I" } : Jvm.MethodName)) ∈ kw_tbl := kts_4 (i := 90) rfl rfl
set_option maxRecDepth 100000 in
theorem kt_811 : (Jvm.Cond.code ({ cls := "SafeSweeps$Calendar", name := "monthOf", desc := "(J)I" } : Jvm.MethodName) prog_3_method_6_code (2 : Nat) (Option.some Jvm.ClassFile.FieldType.int)) ∈ kw_tbl := kts_4 (i := 91) rfl rfl
set_option maxRecDepth 100000 in
theorem kt_812 : (Jvm.Cond.methodLink "SafeSweeps" (375 : Nat) ({ cls := "SafeSweeps$Calendar", name := "dayOfMonth", desc := "(J)I" } : Jvm.MethodName)) ∈ kw_tbl := kts_4 (i := 92) rfl rfl
set_option maxRecDepth 100000 in
theorem kt_813 : (Jvm.Cond.static ({ cls := "SafeSweeps$Calendar", name := "dayOfMonth", desc := "(J)I" } : Jvm.MethodName)) ∈ kw_tbl := kts_4 (i := 93) rfl rfl
set_option maxRecDepth 100000 in
theorem kt_814 : (Jvm.Cond.code ({ cls := "SafeSweeps$Calendar", name := "dayOfMonth", desc := "(J)I" } : Jvm.MethodName) prog_3_method_7_code (6 : Nat) (Option.some Jvm.ClassFile.FieldType.int)) ∈ kw_tbl := kts_4 (i := 94) rfl rfl
set_option maxRecDepth 100000 in
theorem kt_815 : (Jvm.Cond.methodLink "SafeSweeps$Calendar" (42 : Nat) ({ cls := "SafeSweeps$Calendar", name := "daysBeforeMarchMonth", desc := "(J)J" } : Jvm.MethodName)) ∈ kw_tbl := kts_4 (i := 95) rfl rfl
set_option maxRecDepth 100000 in
theorem kt_816 : (Jvm.Cond.static ({ cls := "SafeSweeps$Calendar", name := "daysBeforeMarchMonth", desc := "(J)J" } : Jvm.MethodName)) ∈ kw_tbl := kts_4 (i := 96) rfl rfl
set_option maxRecDepth 100000 in
theorem kt_817 : (Jvm.Cond.code ({ cls := "SafeSweeps$Calendar", name := "daysBeforeMarchMonth", desc := "(J)J" } : Jvm.MethodName) prog_3_method_13_code (2 : Nat) (Option.some Jvm.ClassFile.FieldType.long)) ∈ kw_tbl := kts_4 (i := 97) rfl rfl
set_option maxRecDepth 100000 in
theorem kt_818 : (Jvm.Cond.methodLink "SafeSweeps" (378 : Nat) ({ cls := "SafeSweeps$Calendar", name := "dayOfWeek", desc := "(J)I" } : Jvm.MethodName)) ∈ kw_tbl := kts_4 (i := 98) rfl rfl
set_option maxRecDepth 100000 in
theorem kt_819 : (Jvm.Cond.static ({ cls := "SafeSweeps$Calendar", name := "dayOfWeek", desc := "(J)I" } : Jvm.MethodName)) ∈ kw_tbl := kts_4 (i := 99) rfl rfl
set_option maxRecDepth 100000 in
theorem kt_820 : (Jvm.Cond.code ({ cls := "SafeSweeps$Calendar", name := "dayOfWeek", desc := "(J)I" } : Jvm.MethodName) prog_3_method_4_code (2 : Nat) (Option.some Jvm.ClassFile.FieldType.int)) ∈ kw_tbl := kts_4 (i := 100) rfl rfl
set_option maxRecDepth 100000 in
theorem kt_821 : (Jvm.Cond.methodLink "SafeSweepsLaw" (135 : Nat) ({ cls := "SafeSweeps", name := "mirrored", desc := "(II)I" } : Jvm.MethodName)) ∈ kw_tbl := kts_4 (i := 101) rfl rfl
set_option maxRecDepth 100000 in
theorem kt_822 : (Jvm.Cond.instanceMethod ({ cls := "SafeSweeps", name := "mirrored", desc := "(II)I" } : Jvm.MethodName)) ∈ kw_tbl := kts_4 (i := 102) rfl rfl
set_option maxRecDepth 100000 in
theorem kt_823 : (Jvm.Cond.selects "SafeSweeps" ({ cls := "SafeSweeps", name := "mirrored", desc := "(II)I" } : Jvm.MethodName) ({ cls := "SafeSweeps", name := "mirrored", desc := "(II)I" } : Jvm.MethodName)) ∈ kw_tbl := kts_4 (i := 103) rfl rfl
set_option maxRecDepth 100000 in
theorem kt_824 : (Jvm.Cond.code ({ cls := "SafeSweeps", name := "mirrored", desc := "(II)I" } : Jvm.MethodName) prog_1_method_41_code (4 : Nat) (Option.some Jvm.ClassFile.FieldType.int)) ∈ kw_tbl := kts_4 (i := 104) rfl rfl
set_option maxRecDepth 100000 in
theorem kt_825 : (Jvm.Cond.methodLink "SafeSweeps" (384 : Nat) ({ cls := "SafeSweeps$Mirror", name := "held", desc := "([Z)I" } : Jvm.MethodName)) ∈ kw_tbl := kts_4 (i := 105) rfl rfl
set_option maxRecDepth 100000 in
theorem kt_826 : (Jvm.Cond.static ({ cls := "SafeSweeps$Mirror", name := "held", desc := "([Z)I" } : Jvm.MethodName)) ∈ kw_tbl := kts_4 (i := 106) rfl rfl
set_option maxRecDepth 100000 in
theorem kt_827 : (Jvm.Cond.code ({ cls := "SafeSweeps$Mirror", name := "held", desc := "([Z)I" } : Jvm.MethodName) prog_5_method_5_code (3 : Nat) (Option.some Jvm.ClassFile.FieldType.int)) ∈ kw_tbl := kts_4 (i := 107) rfl rfl
set_option maxRecDepth 100000 in
theorem kt_828 : (Jvm.Cond.methodLink "SafeSweeps" (390 : Nat) ({ cls := "SafeSweeps", name := "brokenSnapshots", desc := "(LSafeSweeps$Mirror;)I" } : Jvm.MethodName)) ∈ kw_tbl := kts_4 (i := 108) rfl rfl
set_option maxRecDepth 100000 in
theorem kt_830 : (Jvm.Cond.instanceMethod ({ cls := "SafeSweeps", name := "brokenSnapshots", desc := "(LSafeSweeps$Mirror;)I" } : Jvm.MethodName)) ∈ kw_tbl := kts_4 (i := 110) rfl rfl
set_option maxRecDepth 100000 in
theorem kt_831 : (Jvm.Cond.code ({ cls := "SafeSweeps", name := "brokenSnapshots", desc := "(LSafeSweeps$Mirror;)I" } : Jvm.MethodName) prog_1_method_42_code (4 : Nat) (Option.some Jvm.ClassFile.FieldType.int)) ∈ kw_tbl := kts_4 (i := 111) rfl rfl
set_option maxRecDepth 100000 in
theorem kt_832 : (Jvm.Cond.methodLink "SafeSweeps" (394 : Nat) ({ cls := "SafeSweeps$Store", name := "reachFromAll", desc := "([II)V" } : Jvm.MethodName)) ∈ kw_tbl := kts_4 (i := 112) rfl rfl
set_option maxRecDepth 100000 in
theorem kt_833 : (Jvm.Cond.instanceMethod ({ cls := "SafeSweeps$Store", name := "reachFromAll", desc := "([II)V" } : Jvm.MethodName)) ∈ kw_tbl := kts_4 (i := 113) rfl rfl
set_option maxRecDepth 100000 in
theorem kt_834 : (Jvm.Cond.selects "SafeSweeps$Store" ({ cls := "SafeSweeps$Store", name := "reachFromAll", desc := "([II)V" } : Jvm.MethodName) ({ cls := "SafeSweeps$Store", name := "reachFromAll", desc := "([II)V" } : Jvm.MethodName)) ∈ kw_tbl := kts_4 (i := 114) rfl rfl
set_option maxRecDepth 100000 in
theorem kt_835 : (Jvm.Cond.code ({ cls := "SafeSweeps$Store", name := "reachFromAll", desc := "([II)V" } : Jvm.MethodName) prog_11_method_16_code (4 : Nat) (Option.none : Option Jvm.ClassFile.FieldType)) ∈ kw_tbl := kts_4 (i := 115) rfl rfl
set_option maxRecDepth 100000 in
theorem kt_836 : (Jvm.Cond.methodLink "SafeSweeps$Store" (105 : Nat) ({ cls := "SafeSweeps$Store", name := "reachFrom", desc := "(I)V" } : Jvm.MethodName)) ∈ kw_tbl := kts_4 (i := 116) rfl rfl
set_option maxRecDepth 100000 in
theorem kt_837 : (Jvm.Cond.methodLink "SafeSweeps" (397 : Nat) ({ cls := "SafeSweeps$Store", name := "reachedOutside", desc := "([Z)I" } : Jvm.MethodName)) ∈ kw_tbl := kts_4 (i := 117) rfl rfl
set_option maxRecDepth 100000 in
theorem kt_838 : (Jvm.Cond.instanceMethod ({ cls := "SafeSweeps$Store", name := "reachedOutside", desc := "([Z)I" } : Jvm.MethodName)) ∈ kw_tbl := kts_4 (i := 118) rfl rfl
set_option maxRecDepth 100000 in
theorem kt_839 : (Jvm.Cond.selects "SafeSweeps$Store" ({ cls := "SafeSweeps$Store", name := "reachedOutside", desc := "([Z)I" } : Jvm.MethodName) ({ cls := "SafeSweeps$Store", name := "reachedOutside", desc := "([Z)I" } : Jvm.MethodName)) ∈ kw_tbl := kts_4 (i := 119) rfl rfl
set_option maxRecDepth 100000 in
theorem kt_840 : (Jvm.Cond.code ({ cls := "SafeSweeps$Store", name := "reachedOutside", desc := "([Z)I" } : Jvm.MethodName) prog_11_method_20_code (4 : Nat) (Option.some Jvm.ClassFile.FieldType.int)) ∈ kw_tbl := kts_4 (i := 120) rfl rfl
set_option maxRecDepth 100000 in
theorem kt_841 : (Jvm.Cond.methodLink "SafeSweepsLaw" (139 : Nat) ({ cls := "SafeSweeps", name := "has", desc := "(II)Z" } : Jvm.MethodName)) ∈ kw_tbl := kts_4 (i := 121) rfl rfl
set_option maxRecDepth 100000 in
theorem kt_842 : (Jvm.Cond.instanceMethod ({ cls := "SafeSweeps", name := "has", desc := "(II)Z" } : Jvm.MethodName)) ∈ kw_tbl := kts_4 (i := 122) rfl rfl
set_option maxRecDepth 100000 in
theorem kt_843 : (Jvm.Cond.selects "SafeSweeps" ({ cls := "SafeSweeps", name := "has", desc := "(II)Z" } : Jvm.MethodName) ({ cls := "SafeSweeps", name := "has", desc := "(II)Z" } : Jvm.MethodName)) ∈ kw_tbl := kts_4 (i := 123) rfl rfl
set_option maxRecDepth 100000 in
theorem kt_844 : (Jvm.Cond.code ({ cls := "SafeSweeps", name := "has", desc := "(II)Z" } : Jvm.MethodName) prog_1_method_43_code (3 : Nat) (Option.some Jvm.ClassFile.FieldType.boolean)) ∈ kw_tbl := kts_4 (i := 124) rfl rfl
set_option maxRecDepth 100000 in
theorem kt_845 : (Jvm.Cond.methodLink "SafeSweepsLaw" (144 : Nat) ({ cls := "SafeSweeps", name := "audit", desc := "()I" } : Jvm.MethodName)) ∈ kw_tbl := kts_4 (i := 125) rfl rfl
set_option maxRecDepth 100000 in
theorem kt_846 : (Jvm.Cond.instanceMethod ({ cls := "SafeSweeps", name := "audit", desc := "()I" } : Jvm.MethodName)) ∈ kw_tbl := kts_4 (i := 126) rfl rfl
set_option maxRecDepth 100000 in
theorem kt_847 : (Jvm.Cond.selects "SafeSweeps" ({ cls := "SafeSweeps", name := "audit", desc := "()I" } : Jvm.MethodName) ({ cls := "SafeSweeps", name := "audit", desc := "()I" } : Jvm.MethodName)) ∈ kw_tbl := kts_4 (i := 127) rfl rfl
set_option maxRecDepth 100000 in
theorem kt_848 : (Jvm.Cond.code ({ cls := "SafeSweeps", name := "audit", desc := "()I" } : Jvm.MethodName) prog_1_method_44_code (3 : Nat) (Option.some Jvm.ClassFile.FieldType.int)) ∈ kw_tbl := kts_4 (i := 128) rfl rfl
set_option maxRecDepth 100000 in
theorem kt_849 : (Jvm.Cond.methodLink "SafeSweeps" (400 : Nat) ({ cls := "SafeSweeps", name := "reachedButFreed", desc := "()I" } : Jvm.MethodName)) ∈ kw_tbl := kts_4 (i := 129) rfl rfl
set_option maxRecDepth 100000 in
theorem kt_851 : (Jvm.Cond.instanceMethod ({ cls := "SafeSweeps", name := "reachedButFreed", desc := "()I" } : Jvm.MethodName)) ∈ kw_tbl := kts_4 (i := 131) rfl rfl
set_option maxRecDepth 100000 in
theorem kt_852 : (Jvm.Cond.code ({ cls := "SafeSweeps", name := "reachedButFreed", desc := "()I" } : Jvm.MethodName) prog_1_method_45_code (2 : Nat) (Option.some Jvm.ClassFile.FieldType.int)) ∈ kw_tbl := kts_4 (i := 132) rfl rfl
set_option maxRecDepth 100000 in
theorem kt_853 : (Jvm.Cond.methodLink "SafeSweeps" (415 : Nat) ({ cls := "SafeSweeps$Store", name := "reachFromThere", desc := "()V" } : Jvm.MethodName)) ∈ kw_tbl := kts_4 (i := 133) rfl rfl
set_option maxRecDepth 100000 in
theorem kt_854 : (Jvm.Cond.instanceMethod ({ cls := "SafeSweeps$Store", name := "reachFromThere", desc := "()V" } : Jvm.MethodName)) ∈ kw_tbl := kts_4 (i := 134) rfl rfl
set_option maxRecDepth 100000 in
theorem kt_855 : (Jvm.Cond.selects "SafeSweeps$Store" ({ cls := "SafeSweeps$Store", name := "reachFromThere", desc := "()V" } : Jvm.MethodName) ({ cls := "SafeSweeps$Store", name := "reachFromThere", desc := "()V" } : Jvm.MethodName)) ∈ kw_tbl := kts_4 (i := 135) rfl rfl
set_option maxRecDepth 100000 in
theorem kt_856 : (Jvm.Cond.code ({ cls := "SafeSweeps$Store", name := "reachFromThere", desc := "()V" } : Jvm.MethodName) prog_11_method_17_code (2 : Nat) (Option.none : Option Jvm.ClassFile.FieldType)) ∈ kw_tbl := kts_4 (i := 136) rfl rfl
set_option maxRecDepth 100000 in
theorem kt_857 : (Jvm.Cond.methodLink "SafeSweeps" (418 : Nat) ({ cls := "SafeSweeps$Store", name := "reachedButFreed", desc := "()I" } : Jvm.MethodName)) ∈ kw_tbl := kts_4 (i := 137) rfl rfl
set_option maxRecDepth 100000 in
theorem kt_858 : (Jvm.Cond.instanceMethod ({ cls := "SafeSweeps$Store", name := "reachedButFreed", desc := "()I" } : Jvm.MethodName)) ∈ kw_tbl := kts_4 (i := 138) rfl rfl
set_option maxRecDepth 100000 in
theorem kt_859 : (Jvm.Cond.selects "SafeSweeps$Store" ({ cls := "SafeSweeps$Store", name := "reachedButFreed", desc := "()I" } : Jvm.MethodName) ({ cls := "SafeSweeps$Store", name := "reachedButFreed", desc := "()I" } : Jvm.MethodName)) ∈ kw_tbl := kts_4 (i := 139) rfl rfl
set_option maxRecDepth 100000 in
theorem kt_860 : (Jvm.Cond.code ({ cls := "SafeSweeps$Store", name := "reachedButFreed", desc := "()I" } : Jvm.MethodName) prog_11_method_21_code (3 : Nat) (Option.some Jvm.ClassFile.FieldType.int)) ∈ kw_tbl := kts_4 (i := 140) rfl rfl
set_option maxRecDepth 100000 in
theorem kt_861 : (Jvm.Cond.methodLink "SafeSweeps" (403 : Nat) ({ cls := "SafeSweeps$Store", name := "misplacedBlocks", desc := "()I" } : Jvm.MethodName)) ∈ kw_tbl := kts_4 (i := 141) rfl rfl
set_option maxRecDepth 100000 in
theorem kt_862 : (Jvm.Cond.instanceMethod ({ cls := "SafeSweeps$Store", name := "misplacedBlocks", desc := "()I" } : Jvm.MethodName)) ∈ kw_tbl := kts_4 (i := 142) rfl rfl
set_option maxRecDepth 100000 in
theorem kt_863 : (Jvm.Cond.selects "SafeSweeps$Store" ({ cls := "SafeSweeps$Store", name := "misplacedBlocks", desc := "()I" } : Jvm.MethodName) ({ cls := "SafeSweeps$Store", name := "misplacedBlocks", desc := "()I" } : Jvm.MethodName)) ∈ kw_tbl := kts_4 (i := 143) rfl rfl
set_option maxRecDepth 100000 in
theorem kt_864 : (Jvm.Cond.code ({ cls := "SafeSweeps$Store", name := "misplacedBlocks", desc := "()I" } : Jvm.MethodName) prog_11_method_22_code (5 : Nat) (Option.some Jvm.ClassFile.FieldType.int)) ∈ kw_tbl := kts_4 (i := 144) rfl rfl
set_option maxRecDepth 100000 in
theorem kt_865 : (Jvm.Cond.methodLink "SafeSweeps$Store" (117 : Nat) ({ cls := "SafeSweeps$Store", name := "liesOverLater", desc := "(I)Z" } : Jvm.MethodName)) ∈ kw_tbl := kts_4 (i := 145) rfl rfl
set_option maxRecDepth 100000 in
theorem kt_866 : (Jvm.Cond.instanceMethod ({ cls := "SafeSweeps$Store", name := "liesOverLater", desc := "(I)Z" } : Jvm.MethodName)) ∈ kw_tbl := kts_4 (i := 146) rfl rfl
set_option maxRecDepth 100000 in
theorem kt_867 : (Jvm.Cond.selects "SafeSweeps$Store" ({ cls := "SafeSweeps$Store", name := "liesOverLater", desc := "(I)Z" } : Jvm.MethodName) ({ cls := "SafeSweeps$Store", name := "liesOverLater", desc := "(I)Z" } : Jvm.MethodName)) ∈ kw_tbl := kts_4 (i := 147) rfl rfl
set_option maxRecDepth 100000 in
theorem kt_868 : (Jvm.Cond.code ({ cls := "SafeSweeps$Store", name := "liesOverLater", desc := "(I)Z" } : Jvm.MethodName) prog_11_method_23_code (5 : Nat) (Option.some Jvm.ClassFile.FieldType.boolean)) ∈ kw_tbl := kts_4 (i := 148) rfl rfl
set_option maxRecDepth 100000 in
theorem kt_869 : (Jvm.Cond.methodLink "SafeSweeps" (406 : Nat) ({ cls := "SafeSweeps$Store", name := "unevenPacks", desc := "()I" } : Jvm.MethodName)) ∈ kw_tbl := kts_4 (i := 149) rfl rfl
set_option maxRecDepth 100000 in
theorem kt_870 : (Jvm.Cond.instanceMethod ({ cls := "SafeSweeps$Store", name := "unevenPacks", desc := "()I" } : Jvm.MethodName)) ∈ kw_tbl := kts_4 (i := 150) rfl rfl
set_option maxRecDepth 100000 in
theorem kt_871 : (Jvm.Cond.selects "SafeSweeps$Store" ({ cls := "SafeSweeps$Store", name := "unevenPacks", desc := "()I" } : Jvm.MethodName) ({ cls := "SafeSweeps$Store", name := "unevenPacks", desc := "()I" } : Jvm.MethodName)) ∈ kw_tbl := kts_4 (i := 151) rfl rfl
set_option maxRecDepth 100000 in
theorem kt_872 : (Jvm.Cond.code ({ cls := "SafeSweeps$Store", name := "unevenPacks", desc := "()I" } : Jvm.MethodName) prog_11_method_24_code (5 : Nat) (Option.some Jvm.ClassFile.FieldType.int)) ∈ kw_tbl := kts_4 (i := 152) rfl rfl
set_option maxRecDepth 100000 in
theorem kt_873 : (Jvm.Cond.methodLink "SafeSweeps" (409 : Nat) ({ cls := "SafeSweeps$Mirror", name := "forget", desc := "()V" } : Jvm.MethodName)) ∈ kw_tbl := kts_4 (i := 153) rfl rfl
set_option maxRecDepth 100000 in
theorem kt_874 : (Jvm.Cond.instanceMethod ({ cls := "SafeSweeps$Mirror", name := "forget", desc := "()V" } : Jvm.MethodName)) ∈ kw_tbl := kts_4 (i := 154) rfl rfl
set_option maxRecDepth 100000 in
theorem kt_875 : (Jvm.Cond.selects "SafeSweeps$Mirror" ({ cls := "SafeSweeps$Mirror", name := "forget", desc := "()V" } : Jvm.MethodName) ({ cls := "SafeSweeps$Mirror", name := "forget", desc := "()V" } : Jvm.MethodName)) ∈ kw_tbl := kts_4 (i := 155) rfl rfl
set_option maxRecDepth 100000 in
theorem kt_876 : (Jvm.Cond.code ({ cls := "SafeSweeps$Mirror", name := "forget", desc := "()V" } : Jvm.MethodName) prog_5_method_3_code (2 : Nat) (Option.none : Option Jvm.ClassFile.FieldType)) ∈ kw_tbl := kts_4 (i := 156) rfl rfl
set_option maxRecDepth 100000 in
theorem kt_877 : (Jvm.Cond.methodLink "SafeSweeps" (412 : Nat) ({ cls := "SafeSweeps$Mirror", name := "differences", desc := "(LSafeSweeps$Mirror;)I" } : Jvm.MethodName)) ∈ kw_tbl := kts_4 (i := 157) rfl rfl
set_option maxRecDepth 100000 in
theorem kt_878 : (Jvm.Cond.instanceMethod ({ cls := "SafeSweeps$Mirror", name := "differences", desc := "(LSafeSweeps$Mirror;)I" } : Jvm.MethodName)) ∈ kw_tbl := kts_4 (i := 158) rfl rfl
set_option maxRecDepth 100000 in
theorem kt_879 : (Jvm.Cond.selects "SafeSweeps$Mirror" ({ cls := "SafeSweeps$Mirror", name := "differences", desc := "(LSafeSweeps$Mirror;)I" } : Jvm.MethodName) ({ cls := "SafeSweeps$Mirror", name := "differences", desc := "(LSafeSweeps$Mirror;)I" } : Jvm.MethodName)) ∈ kw_tbl := kts_4 (i := 159) rfl rfl
set_option maxRecDepth 100000 in
theorem kt_880 : (Jvm.Cond.code ({ cls := "SafeSweeps$Mirror", name := "differences", desc := "(LSafeSweeps$Mirror;)I" } : Jvm.MethodName) prog_5_method_4_code (4 : Nat) (Option.some Jvm.ClassFile.FieldType.int)) ∈ kw_tbl := kts_4 (i := 160) rfl rfl
set_option maxRecDepth 100000 in
theorem kt_881 : (Jvm.Cond.methodLink "SafeSweepsLaw" (9 : Nat) ({ cls := "SafeSweepsLaw", name := "cell", desc := "([II)I" } : Jvm.MethodName)) ∈ kw_tbl := kts_4 (i := 161) rfl rfl
set_option maxRecDepth 100000 in
theorem kt_882 : (Jvm.Cond.static ({ cls := "SafeSweepsLaw", name := "cell", desc := "([II)I" } : Jvm.MethodName)) ∈ kw_tbl := kts_4 (i := 162) rfl rfl
set_option maxRecDepth 100000 in
theorem kt_883 : (Jvm.Cond.code ({ cls := "SafeSweepsLaw", name := "cell", desc := "([II)I" } : Jvm.MethodName) method_2_code (2 : Nat) (Option.some Jvm.ClassFile.FieldType.int)) ∈ kw_tbl := kts_4 (i := 163) rfl rfl
set_option maxRecDepth 100000 in
theorem kt_884 : (Jvm.Cond.classLink "SafeSweepsLaw" (18 : Nat) "SafeSweepsModel") ∈ kw_tbl := kts_4 (i := 164) rfl rfl
set_option maxRecDepth 100000 in
theorem kt_885 : (Jvm.Cond.instantiable "SafeSweepsModel" (54 : Nat)) ∈ kw_tbl := kts_4 (i := 165) rfl rfl
set_option maxRecDepth 100000 in
theorem kt_886 : (Jvm.Cond.methodLink "SafeSweepsLaw" (20 : Nat) ({ cls := "SafeSweepsModel", name := "<init>", desc := "(I)V" } : Jvm.MethodName)) ∈ kw_tbl := kts_4 (i := 166) rfl rfl
set_option maxRecDepth 100000 in
theorem kt_887 : (Jvm.Cond.instanceMethod ({ cls := "SafeSweepsModel", name := "<init>", desc := "(I)V" } : Jvm.MethodName)) ∈ kw_tbl := kts_4 (i := 167) rfl rfl
set_option maxRecDepth 100000 in
theorem kt_888 : (Jvm.Cond.code ({ cls := "SafeSweepsModel", name := "<init>", desc := "(I)V" } : Jvm.MethodName) prog_14_method_1_code (2 : Nat) (Option.none : Option Jvm.ClassFile.FieldType)) ∈ kw_tbl := kts_4 (i := 168) rfl rfl
set_option maxRecDepth 100000 in
theorem kt_889 : (Jvm.Cond.methodLink "SafeSweepsModel" (1 : Nat) ({ cls := "java/lang/Object", name := "<init>", desc := "()V" } : Jvm.MethodName)) ∈ kw_tbl := kts_4 (i := 169) rfl rfl
set_option maxRecDepth 100000 in
theorem kt_890 : (Jvm.Cond.constantLong "SafeSweepsModel" (7 : Nat) (-10000000000 : Int64)) ∈ kw_tbl := kts_4 (i := 170) rfl rfl
set_option maxRecDepth 100000 in
theorem kt_891 : (Jvm.Cond.fieldLink "SafeSweepsModel" (124 : Nat) "SafeSweepsModel" "capacity" "I") ∈ kw_tbl := kts_4 (i := 171) rfl rfl
set_option maxRecDepth 100000 in
theorem kt_892 : (Jvm.Cond.fieldLink "SafeSweepsModel" (9 : Nat) "SafeSweepsModel" "now" "J") ∈ kw_tbl := kts_4 (i := 172) rfl rfl
set_option maxRecDepth 100000 in
theorem kt_893 : (Jvm.Cond.fieldLink "SafeSweepsModel" (127 : Nat) "SafeSweepsModel" "down" "Z") ∈ kw_tbl := kts_4 (i := 173) rfl rfl
set_option maxRecDepth 100000 in
theorem kt_894 : (Jvm.Cond.fieldLink "SafeSweepsModel" (15 : Nat) "SafeSweepsModel" "cutAt" "I") ∈ kw_tbl := kts_4 (i := 174) rfl rfl
set_option maxRecDepth 100000 in
theorem kt_895 : (Jvm.Cond.fieldLink "SafeSweepsModel" (134 : Nat) "SafeSweepsModel" "writes" "I") ∈ kw_tbl := kts_4 (i := 175) rfl rfl
set_option maxRecDepth 100000 in
theorem kt_896 : (Jvm.Cond.fieldLink "SafeSweepsModel" (156 : Nat) "SafeSweepsModel" "blocks" "I") ∈ kw_tbl := kts_4 (i := 176) rfl rfl
set_option maxRecDepth 100000 in
theorem kt_897 : (Jvm.Cond.fieldLink "SafeSweepsModel" (19 : Nat) "SafeSweepsModel" "keys" "[J") ∈ kw_tbl := kts_4 (i := 177) rfl rfl
set_option maxRecDepth 100000 in
theorem kt_898 : (Jvm.Cond.fieldLink "SafeSweepsModel" (23 : Nat) "SafeSweepsModel" "sizes" "[I") ∈ kw_tbl := kts_4 (i := 178) rfl rfl
set_option maxRecDepth 100000 in
theorem kt_899 : (Jvm.Cond.fieldLink "SafeSweepsModel" (27 : Nat) "SafeSweepsModel" "childMany" "[I") ∈ kw_tbl := kts_4 (i := 179) rfl rfl
set_option maxRecDepth 100000 in
theorem kt_900 : (Jvm.Cond.fieldLink "SafeSweepsModel" (30 : Nat) "SafeSweepsModel" "childOf" "[I") ∈ kw_tbl := kts_4 (i := 180) rfl rfl
set_option maxRecDepth 100000 in
theorem kt_901 : (Jvm.Cond.fieldLink "SafeSweepsModel" (33 : Nat) "SafeSweepsModel" "there" "[Z") ∈ kw_tbl := kts_4 (i := 181) rfl rfl
set_option maxRecDepth 100000 in
theorem kt_902 : (Jvm.Cond.fieldLink "SafeSweepsModel" (37 : Nat) "SafeSweepsModel" "packOf" "[I") ∈ kw_tbl := kts_4 (i := 182) rfl rfl
set_option maxRecDepth 100000 in
theorem kt_903 : (Jvm.Cond.fieldLink "SafeSweepsModel" (40 : Nat) "SafeSweepsModel" "placeOf" "[I") ∈ kw_tbl := kts_4 (i := 183) rfl rfl
set_option maxRecDepth 100000 in
theorem kt_904 : (Jvm.Cond.fieldLink "SafeSweepsModel" (43 : Nat) "SafeSweepsModel" "waits" "[I") ∈ kw_tbl := kts_4 (i := 184) rfl rfl
set_option maxRecDepth 100000 in
theorem kt_905 : (Jvm.Cond.fieldLink "SafeSweepsModel" (212 : Nat) "SafeSweepsModel" "revived" "I") ∈ kw_tbl := kts_4 (i := 185) rfl rfl
set_option maxRecDepth 100000 in
theorem kt_906 : (Jvm.Cond.fieldLink "SafeSweepsModel" (285 : Nat) "SafeSweepsModel" "freed" "I") ∈ kw_tbl := kts_4 (i := 186) rfl rfl
set_option maxRecDepth 100000 in
theorem kt_907 : (Jvm.Cond.fieldLink "SafeSweepsModel" (178 : Nat) "SafeSweepsModel" "packs" "I") ∈ kw_tbl := kts_4 (i := 187) rfl rfl
set_option maxRecDepth 100000 in
theorem kt_908 : (Jvm.Cond.fieldLink "SafeSweepsModel" (46 : Nat) "SafeSweepsModel" "isGone" "[Z") ∈ kw_tbl := kts_4 (i := 188) rfl rfl
set_option maxRecDepth 100000 in
theorem kt_909 : (Jvm.Cond.fieldLink "SafeSweepsModel" (49 : Nat) "SafeSweepsModel" "all" "[I") ∈ kw_tbl := kts_4 (i := 189) rfl rfl
set_option maxRecDepth 100000 in
theorem kt_910 : (Jvm.Cond.fieldLink "SafeSweepsModel" (298 : Nat) "SafeSweepsModel" "packedAnew" "I") ∈ kw_tbl := kts_4 (i := 190) rfl rfl
set_option maxRecDepth 100000 in
theorem kt_911 : (Jvm.Cond.fieldLink "SafeSweepsModel" (52 : Nat) "SafeSweepsModel" "sharePercent" "I") ∈ kw_tbl := kts_4 (i := 191) rfl rfl
set_option maxRecDepth 100000 in
theorem kt_912 : (Jvm.Cond.fieldLink "SafeSweepsModel" (218 : Nat) "SafeSweepsModel" "snapshots" "I") ∈ kw_tbl := kts_4 (i := 192) rfl rfl
set_option maxRecDepth 100000 in
theorem kt_913 : (Jvm.Cond.fieldLink "SafeSweepsModel" (55 : Nat) "SafeSweepsModel" "isKept" "[Z") ∈ kw_tbl := kts_4 (i := 193) rfl rfl
set_option maxRecDepth 100000 in
theorem kt_914 : (Jvm.Cond.fieldLink "SafeSweepsModel" (58 : Nat) "SafeSweepsModel" "times" "[J") ∈ kw_tbl := kts_4 (i := 194) rfl rfl
set_option maxRecDepth 100000 in
theorem kt_915 : (Jvm.Cond.fieldLink "SafeSweepsModel" (61 : Nat) "SafeSweepsModel" "tags" "[I") ∈ kw_tbl := kts_4 (i := 195) rfl rfl
set_option maxRecDepth 100000 in
theorem kt_916 : (Jvm.Cond.fieldLink "SafeSweepsModel" (64 : Nat) "SafeSweepsModel" "rootMany" "[I") ∈ kw_tbl := kts_4 (i := 196) rfl rfl
set_option maxRecDepth 100000 in
theorem kt_917 : (Jvm.Cond.fieldLink "SafeSweepsModel" (67 : Nat) "SafeSweepsModel" "rootOf" "[I") ∈ kw_tbl := kts_4 (i := 197) rfl rfl
set_option maxRecDepth 100000 in
theorem kt_918 : (Jvm.Cond.fieldLink "SafeSweepsModel" (137 : Nat) "SafeSweepsModel" "history" "I") ∈ kw_tbl := kts_4 (i := 198) rfl rfl
set_option maxRecDepth 100000 in
theorem kt_919 : (Jvm.Cond.fieldLink "SafeSweepsModel" (70 : Nat) "SafeSweepsModel" "didKind" "[I") ∈ kw_tbl := kts_4 (i := 199) rfl rfl
set_option maxRecDepth 100000 in
theorem kt_920 : (Jvm.Cond.fieldLink "SafeSweepsModel" (73 : Nat) "SafeSweepsModel" "didWhat" "[I") ∈ kw_tbl := kts_4 (i := 200) rfl rfl
set_option maxRecDepth 100000 in
theorem kt_921 : (Jvm.Cond.fieldLink "SafeSweepsModel" (76 : Nat) "SafeSweepsModel" "mirrorDid" "[I") ∈ kw_tbl := kts_4 (i := 201) rfl rfl
set_option maxRecDepth 100000 in
theorem kt_922 : (Jvm.Cond.fieldLink "SafeSweepsModel" (79 : Nat) "SafeSweepsModel" "saves" "[Z") ∈ kw_tbl := kts_4 (i := 202) rfl rfl
set_option maxRecDepth 100000 in
theorem kt_923 : (Jvm.Cond.fieldLink "SafeSweepsModel" (82 : Nat) "SafeSweepsModel" "lease" "[I") ∈ kw_tbl := kts_4 (i := 203) rfl rfl
set_option maxRecDepth 100000 in
theorem kt_924 : (Jvm.Cond.fieldLink "SafeSweepsModel" (85 : Nat) "SafeSweepsModel" "until" "[J") ∈ kw_tbl := kts_4 (i := 204) rfl rfl
set_option maxRecDepth 100000 in
theorem kt_925 : (Jvm.Cond.fieldLink "SafeSweepsModel" (88 : Nat) "SafeSweepsModel" "useMany" "[I") ∈ kw_tbl := kts_4 (i := 205) rfl rfl
set_option maxRecDepth 100000 in
theorem kt_926 : (Jvm.Cond.fieldLink "SafeSweepsModel" (91 : Nat) "SafeSweepsModel" "useOf" "[I") ∈ kw_tbl := kts_4 (i := 206) rfl rfl
set_option maxRecDepth 100000 in
theorem kt_927 : (Jvm.Cond.fieldLink "SafeSweepsModel" (94 : Nat) "SafeSweepsModel" "rowMany" "[I") ∈ kw_tbl := kts_4 (i := 207) rfl rfl
set_option maxRecDepth 100000 in
theorem kt_928 : (Jvm.Cond.fieldLink "SafeSweepsModel" (97 : Nat) "SafeSweepsModel" "rowOf" "[I") ∈ kw_tbl := kts_4 (i := 208) rfl rfl
set_option maxRecDepth 100000 in
theorem kt_929 : (Jvm.Cond.fieldLink "SafeSweepsModel" (100 : Nat) "SafeSweepsModel" "rules" "[I") ∈ kw_tbl := kts_4 (i := 209) rfl rfl
set_option maxRecDepth 100000 in
theorem kt_930 : (Jvm.Cond.fieldLink "SafeSweepsModel" (276 : Nat) "SafeSweepsModel" "sweeps" "I") ∈ kw_tbl := kts_4 (i := 210) rfl rfl
set_option maxRecDepth 100000 in
theorem kt_931 : (Jvm.Cond.fieldLink "SafeSweepsModel" (131 : Nat) "SafeSweepsModel" "phase" "I") ∈ kw_tbl := kts_4 (i := 211) rfl rfl
set_option maxRecDepth 100000 in
theorem kt_932 : (Jvm.Cond.fieldLink "SafeSweepsModel" (103 : Nat) "SafeSweepsModel" "isMarked" "[Z") ∈ kw_tbl := kts_4 (i := 212) rfl rfl
set_option maxRecDepth 100000 in
theorem kt_933 : (Jvm.Cond.fieldLink "SafeSweepsModel" (106 : Nat) "SafeSweepsModel" "row" "[I") ∈ kw_tbl := kts_4 (i := 213) rfl rfl
set_option maxRecDepth 100000 in
theorem kt_934 : (Jvm.Cond.fieldLink "SafeSweepsModel" (264 : Nat) "SafeSweepsModel" "rowFrom" "I") ∈ kw_tbl := kts_4 (i := 214) rfl rfl
set_option maxRecDepth 100000 in
theorem kt_935 : (Jvm.Cond.fieldLink "SafeSweepsModel" (215 : Nat) "SafeSweepsModel" "rowTo" "I") ∈ kw_tbl := kts_4 (i := 215) rfl rfl
set_option maxRecDepth 100000 in
theorem kt_936 : (Jvm.Cond.fieldLink "SafeSweepsModel" (270 : Nat) "SafeSweepsModel" "end" "I") ∈ kw_tbl := kts_4 (i := 216) rfl rfl
set_option maxRecDepth 100000 in
theorem kt_937 : (Jvm.Cond.fieldLink "SafeSweepsModel" (267 : Nat) "SafeSweepsModel" "at" "I") ∈ kw_tbl := kts_4 (i := 217) rfl rfl
set_option maxRecDepth 100000 in
theorem kt_938 : (Jvm.Cond.fieldLink "SafeSweepsModel" (273 : Nat) "SafeSweepsModel" "packEnd" "I") ∈ kw_tbl := kts_4 (i := 218) rfl rfl
set_option maxRecDepth 100000 in
theorem kt_939 : (Jvm.Cond.fieldLink "SafeSweepsModel" (205 : Nat) "SafeSweepsModel" "revivedNow" "I") ∈ kw_tbl := kts_4 (i := 219) rfl rfl
set_option maxRecDepth 100000 in
theorem kt_940 : (Jvm.Cond.fieldLink "SafeSweepsModel" (109 : Nat) "SafeSweepsModel" "reach" "[Z") ∈ kw_tbl := kts_4 (i := 220) rfl rfl
set_option maxRecDepth 100000 in
theorem kt_941 : (Jvm.Cond.fieldLink "SafeSweepsModel" (112 : Nat) "SafeSweepsModel" "isToGo" "[Z") ∈ kw_tbl := kts_4 (i := 221) rfl rfl
set_option maxRecDepth 100000 in
theorem kt_942 : (Jvm.Cond.fieldLink "SafeSweepsModel" (115 : Nat) "SafeSweepsModel" "moved" "[I") ∈ kw_tbl := kts_4 (i := 222) rfl rfl
set_option maxRecDepth 100000 in
theorem kt_943 : (Jvm.Cond.fieldLink "SafeSweepsModel" (118 : Nat) "SafeSweepsModel" "toPack" "[I") ∈ kw_tbl := kts_4 (i := 223) rfl rfl
set_option maxRecDepth 100000 in
theorem kt_944 : (Jvm.Cond.fieldLink "SafeSweepsModel" (121 : Nat) "SafeSweepsModel" "toPlace" "[I") ∈ kw_tbl := kts_4 (i := 224) rfl rfl
set_option maxRecDepth 100000 in
theorem kt_945 : (Jvm.Cond.laysFinal "SafeSweepsModel" "SafeSweepsModel" "capacity" "I") ∈ kw_tbl := kts_4 (i := 225) rfl rfl
set_option maxRecDepth 100000 in
theorem kt_947 : (Jvm.Cond.lays "SafeSweepsModel" "SafeSweepsModel" "now" "J") ∈ kw_tbl := kts_4 (i := 227) rfl rfl
set_option maxRecDepth 100000 in
theorem kt_949 : (Jvm.Cond.lays "SafeSweepsModel" "SafeSweepsModel" "down" "Z") ∈ kw_tbl := kts_4 (i := 229) rfl rfl
set_option maxRecDepth 100000 in
theorem kt_951 : (Jvm.Cond.lays "SafeSweepsModel" "SafeSweepsModel" "cutAt" "I") ∈ kw_tbl := kts_4 (i := 231) rfl rfl
set_option maxRecDepth 100000 in
theorem kt_953 : (Jvm.Cond.lays "SafeSweepsModel" "SafeSweepsModel" "writes" "I") ∈ kw_tbl := kts_4 (i := 233) rfl rfl
set_option maxRecDepth 100000 in
theorem kt_955 : (Jvm.Cond.lays "SafeSweepsModel" "SafeSweepsModel" "blocks" "I") ∈ kw_tbl := kts_4 (i := 235) rfl rfl
set_option maxRecDepth 100000 in
theorem kt_957 : (Jvm.Cond.laysFinal "SafeSweepsModel" "SafeSweepsModel" "keys" "[J") ∈ kw_tbl := kts_4 (i := 237) rfl rfl
set_option maxRecDepth 100000 in
theorem kt_959 : (Jvm.Cond.laysFinal "SafeSweepsModel" "SafeSweepsModel" "sizes" "[I") ∈ kw_tbl := kts_4 (i := 239) rfl rfl
set_option maxRecDepth 100000 in
theorem kt_961 : (Jvm.Cond.laysFinal "SafeSweepsModel" "SafeSweepsModel" "childMany" "[I") ∈ kw_tbl := kts_5 (i := 1) rfl rfl
set_option maxRecDepth 100000 in
theorem kt_963 : (Jvm.Cond.laysFinal "SafeSweepsModel" "SafeSweepsModel" "childOf" "[I") ∈ kw_tbl := kts_5 (i := 3) rfl rfl
set_option maxRecDepth 100000 in
theorem kt_965 : (Jvm.Cond.laysFinal "SafeSweepsModel" "SafeSweepsModel" "there" "[Z") ∈ kw_tbl := kts_5 (i := 5) rfl rfl
set_option maxRecDepth 100000 in
theorem kt_967 : (Jvm.Cond.laysFinal "SafeSweepsModel" "SafeSweepsModel" "packOf" "[I") ∈ kw_tbl := kts_5 (i := 7) rfl rfl
set_option maxRecDepth 100000 in
theorem kt_969 : (Jvm.Cond.laysFinal "SafeSweepsModel" "SafeSweepsModel" "placeOf" "[I") ∈ kw_tbl := kts_5 (i := 9) rfl rfl
set_option maxRecDepth 100000 in
theorem kt_971 : (Jvm.Cond.laysFinal "SafeSweepsModel" "SafeSweepsModel" "waits" "[I") ∈ kw_tbl := kts_5 (i := 11) rfl rfl
set_option maxRecDepth 100000 in
theorem kt_973 : (Jvm.Cond.lays "SafeSweepsModel" "SafeSweepsModel" "revived" "I") ∈ kw_tbl := kts_5 (i := 13) rfl rfl
set_option maxRecDepth 100000 in
theorem kt_975 : (Jvm.Cond.lays "SafeSweepsModel" "SafeSweepsModel" "freed" "I") ∈ kw_tbl := kts_5 (i := 15) rfl rfl
set_option maxRecDepth 100000 in
theorem kt_977 : (Jvm.Cond.lays "SafeSweepsModel" "SafeSweepsModel" "packs" "I") ∈ kw_tbl := kts_5 (i := 17) rfl rfl
set_option maxRecDepth 100000 in
theorem kt_979 : (Jvm.Cond.laysFinal "SafeSweepsModel" "SafeSweepsModel" "isGone" "[Z") ∈ kw_tbl := kts_5 (i := 19) rfl rfl
set_option maxRecDepth 100000 in
theorem kt_981 : (Jvm.Cond.laysFinal "SafeSweepsModel" "SafeSweepsModel" "all" "[I") ∈ kw_tbl := kts_5 (i := 21) rfl rfl
set_option maxRecDepth 100000 in
theorem kt_983 : (Jvm.Cond.lays "SafeSweepsModel" "SafeSweepsModel" "packedAnew" "I") ∈ kw_tbl := kts_5 (i := 23) rfl rfl
set_option maxRecDepth 100000 in
theorem kt_985 : (Jvm.Cond.lays "SafeSweepsModel" "SafeSweepsModel" "sharePercent" "I") ∈ kw_tbl := kts_5 (i := 25) rfl rfl
set_option maxRecDepth 100000 in
theorem kt_987 : (Jvm.Cond.lays "SafeSweepsModel" "SafeSweepsModel" "snapshots" "I") ∈ kw_tbl := kts_5 (i := 27) rfl rfl
set_option maxRecDepth 100000 in
theorem kt_989 : (Jvm.Cond.laysFinal "SafeSweepsModel" "SafeSweepsModel" "isKept" "[Z") ∈ kw_tbl := kts_5 (i := 29) rfl rfl
set_option maxRecDepth 100000 in
theorem kt_991 : (Jvm.Cond.laysFinal "SafeSweepsModel" "SafeSweepsModel" "times" "[J") ∈ kw_tbl := kts_5 (i := 31) rfl rfl
set_option maxRecDepth 100000 in
theorem kt_993 : (Jvm.Cond.laysFinal "SafeSweepsModel" "SafeSweepsModel" "tags" "[I") ∈ kw_tbl := kts_5 (i := 33) rfl rfl
set_option maxRecDepth 100000 in
theorem kt_995 : (Jvm.Cond.laysFinal "SafeSweepsModel" "SafeSweepsModel" "rootMany" "[I") ∈ kw_tbl := kts_5 (i := 35) rfl rfl
set_option maxRecDepth 100000 in
theorem kt_997 : (Jvm.Cond.laysFinal "SafeSweepsModel" "SafeSweepsModel" "rootOf" "[I") ∈ kw_tbl := kts_5 (i := 37) rfl rfl
set_option maxRecDepth 100000 in
theorem kt_999 : (Jvm.Cond.lays "SafeSweepsModel" "SafeSweepsModel" "history" "I") ∈ kw_tbl := kts_5 (i := 39) rfl rfl
set_option maxRecDepth 100000 in
theorem kt_1001 : (Jvm.Cond.laysFinal "SafeSweepsModel" "SafeSweepsModel" "didKind" "[I") ∈ kw_tbl := kts_5 (i := 41) rfl rfl
set_option maxRecDepth 100000 in
theorem kt_1003 : (Jvm.Cond.laysFinal "SafeSweepsModel" "SafeSweepsModel" "didWhat" "[I") ∈ kw_tbl := kts_5 (i := 43) rfl rfl
set_option maxRecDepth 100000 in
theorem kt_1005 : (Jvm.Cond.laysFinal "SafeSweepsModel" "SafeSweepsModel" "mirrorDid" "[I") ∈ kw_tbl := kts_5 (i := 45) rfl rfl
set_option maxRecDepth 100000 in
theorem kt_1007 : (Jvm.Cond.laysFinal "SafeSweepsModel" "SafeSweepsModel" "saves" "[Z") ∈ kw_tbl := kts_5 (i := 47) rfl rfl
set_option maxRecDepth 100000 in
theorem kt_1009 : (Jvm.Cond.laysFinal "SafeSweepsModel" "SafeSweepsModel" "lease" "[I") ∈ kw_tbl := kts_5 (i := 49) rfl rfl
set_option maxRecDepth 100000 in
theorem kt_1011 : (Jvm.Cond.laysFinal "SafeSweepsModel" "SafeSweepsModel" "until" "[J") ∈ kw_tbl := kts_5 (i := 51) rfl rfl
set_option maxRecDepth 100000 in
theorem kt_1013 : (Jvm.Cond.laysFinal "SafeSweepsModel" "SafeSweepsModel" "useMany" "[I") ∈ kw_tbl := kts_5 (i := 53) rfl rfl
set_option maxRecDepth 100000 in
theorem kt_1015 : (Jvm.Cond.laysFinal "SafeSweepsModel" "SafeSweepsModel" "useOf" "[I") ∈ kw_tbl := kts_5 (i := 55) rfl rfl
set_option maxRecDepth 100000 in
theorem kt_1017 : (Jvm.Cond.laysFinal "SafeSweepsModel" "SafeSweepsModel" "rowMany" "[I") ∈ kw_tbl := kts_5 (i := 57) rfl rfl
set_option maxRecDepth 100000 in
theorem kt_1019 : (Jvm.Cond.laysFinal "SafeSweepsModel" "SafeSweepsModel" "rowOf" "[I") ∈ kw_tbl := kts_5 (i := 59) rfl rfl
set_option maxRecDepth 100000 in
theorem kt_1021 : (Jvm.Cond.laysFinal "SafeSweepsModel" "SafeSweepsModel" "rules" "[I") ∈ kw_tbl := kts_5 (i := 61) rfl rfl
set_option maxRecDepth 100000 in
theorem kt_1023 : (Jvm.Cond.lays "SafeSweepsModel" "SafeSweepsModel" "sweeps" "I") ∈ kw_tbl := kts_5 (i := 63) rfl rfl
set_option maxRecDepth 100000 in
theorem kt_1025 : (Jvm.Cond.lays "SafeSweepsModel" "SafeSweepsModel" "phase" "I") ∈ kw_tbl := kts_5 (i := 65) rfl rfl
set_option maxRecDepth 100000 in
theorem kt_1027 : (Jvm.Cond.laysFinal "SafeSweepsModel" "SafeSweepsModel" "isMarked" "[Z") ∈ kw_tbl := kts_5 (i := 67) rfl rfl
set_option maxRecDepth 100000 in
theorem kt_1029 : (Jvm.Cond.laysFinal "SafeSweepsModel" "SafeSweepsModel" "row" "[I") ∈ kw_tbl := kts_5 (i := 69) rfl rfl
set_option maxRecDepth 100000 in
theorem kt_1031 : (Jvm.Cond.lays "SafeSweepsModel" "SafeSweepsModel" "rowFrom" "I") ∈ kw_tbl := kts_5 (i := 71) rfl rfl
set_option maxRecDepth 100000 in
theorem kt_1033 : (Jvm.Cond.lays "SafeSweepsModel" "SafeSweepsModel" "rowTo" "I") ∈ kw_tbl := kts_5 (i := 73) rfl rfl
set_option maxRecDepth 100000 in
theorem kt_1035 : (Jvm.Cond.lays "SafeSweepsModel" "SafeSweepsModel" "end" "I") ∈ kw_tbl := kts_5 (i := 75) rfl rfl
set_option maxRecDepth 100000 in
theorem kt_1037 : (Jvm.Cond.lays "SafeSweepsModel" "SafeSweepsModel" "at" "I") ∈ kw_tbl := kts_5 (i := 77) rfl rfl
set_option maxRecDepth 100000 in
theorem kt_1039 : (Jvm.Cond.lays "SafeSweepsModel" "SafeSweepsModel" "packEnd" "I") ∈ kw_tbl := kts_5 (i := 79) rfl rfl
set_option maxRecDepth 100000 in
theorem kt_1041 : (Jvm.Cond.lays "SafeSweepsModel" "SafeSweepsModel" "revivedNow" "I") ∈ kw_tbl := kts_5 (i := 81) rfl rfl
set_option maxRecDepth 100000 in
theorem kt_1043 : (Jvm.Cond.laysFinal "SafeSweepsModel" "SafeSweepsModel" "reach" "[Z") ∈ kw_tbl := kts_5 (i := 83) rfl rfl
set_option maxRecDepth 100000 in
theorem kt_1045 : (Jvm.Cond.laysFinal "SafeSweepsModel" "SafeSweepsModel" "isToGo" "[Z") ∈ kw_tbl := kts_5 (i := 85) rfl rfl
set_option maxRecDepth 100000 in
theorem kt_1047 : (Jvm.Cond.laysFinal "SafeSweepsModel" "SafeSweepsModel" "moved" "[I") ∈ kw_tbl := kts_5 (i := 87) rfl rfl
set_option maxRecDepth 100000 in
theorem kt_1049 : (Jvm.Cond.laysFinal "SafeSweepsModel" "SafeSweepsModel" "toPack" "[I") ∈ kw_tbl := kts_5 (i := 89) rfl rfl
set_option maxRecDepth 100000 in
theorem kt_1051 : (Jvm.Cond.laysFinal "SafeSweepsModel" "SafeSweepsModel" "toPlace" "[I") ∈ kw_tbl := kts_5 (i := 91) rfl rfl
set_option maxRecDepth 100000 in
theorem kt_1054 : (Jvm.Cond.arrayClass Jvm.ClassFile.FieldType.long) ∈ kw_tbl := kts_5 (i := 94) rfl rfl
set_option maxRecDepth 100000 in
theorem kt_1055 : (Jvm.Cond.methodLink "SafeSweepsLaw" (88 : Nat) ({ cls := "SafeSweepsModel", name := "cut", desc := "(I)I" } : Jvm.MethodName)) ∈ kw_tbl := kts_5 (i := 95) rfl rfl
set_option maxRecDepth 100000 in
theorem kt_1056 : (Jvm.Cond.instanceMethod ({ cls := "SafeSweepsModel", name := "cut", desc := "(I)I" } : Jvm.MethodName)) ∈ kw_tbl := kts_5 (i := 96) rfl rfl
set_option maxRecDepth 100000 in
theorem kt_1057 : (Jvm.Cond.selects "SafeSweepsModel" ({ cls := "SafeSweepsModel", name := "cut", desc := "(I)I" } : Jvm.MethodName) ({ cls := "SafeSweepsModel", name := "cut", desc := "(I)I" } : Jvm.MethodName)) ∈ kw_tbl := kts_5 (i := 97) rfl rfl
set_option maxRecDepth 100000 in
theorem kt_1058 : (Jvm.Cond.code ({ cls := "SafeSweepsModel", name := "cut", desc := "(I)I" } : Jvm.MethodName) prog_14_method_5_code (2 : Nat) (Option.some Jvm.ClassFile.FieldType.int)) ∈ kw_tbl := kts_5 (i := 98) rfl rfl
set_option maxRecDepth 100000 in
theorem kt_1059 : (Jvm.Cond.constantLong "SafeSweepsModel" (140 : Nat) (-1 : Int64)) ∈ kw_tbl := kts_5 (i := 99) rfl rfl
set_option maxRecDepth 100000 in
theorem kt_1060 : (Jvm.Cond.constantLong "SafeSweepsModel" (142 : Nat) (500 : Int64)) ∈ kw_tbl := kts_5 (i := 100) rfl rfl
set_option maxRecDepth 100000 in
theorem kt_1061 : (Jvm.Cond.methodLink "SafeSweepsModel" (144 : Nat) ({ cls := "SafeSweepsModel", name := "in", desc := "(JJJ)Z" } : Jvm.MethodName)) ∈ kw_tbl := kts_5 (i := 101) rfl rfl
set_option maxRecDepth 100000 in
theorem kt_1062 : (Jvm.Cond.static ({ cls := "SafeSweepsModel", name := "in", desc := "(JJJ)Z" } : Jvm.MethodName)) ∈ kw_tbl := kts_5 (i := 102) rfl rfl
set_option maxRecDepth 100000 in
theorem kt_1063 : (Jvm.Cond.code ({ cls := "SafeSweepsModel", name := "in", desc := "(JJJ)Z" } : Jvm.MethodName) prog_14_method_2_code (6 : Nat) (Option.some Jvm.ClassFile.FieldType.boolean)) ∈ kw_tbl := kts_5 (i := 103) rfl rfl
set_option maxRecDepth 100000 in
theorem kt_1064 : (Jvm.Cond.methodLink "SafeSweepsLaw" (92 : Nat) ({ cls := "SafeSweepsModel", name := "open", desc := "()I" } : Jvm.MethodName)) ∈ kw_tbl := kts_5 (i := 104) rfl rfl
set_option maxRecDepth 100000 in
theorem kt_1065 : (Jvm.Cond.instanceMethod ({ cls := "SafeSweepsModel", name := "open", desc := "()I" } : Jvm.MethodName)) ∈ kw_tbl := kts_5 (i := 105) rfl rfl
set_option maxRecDepth 100000 in
theorem kt_1066 : (Jvm.Cond.selects "SafeSweepsModel" ({ cls := "SafeSweepsModel", name := "open", desc := "()I" } : Jvm.MethodName) ({ cls := "SafeSweepsModel", name := "open", desc := "()I" } : Jvm.MethodName)) ∈ kw_tbl := kts_5 (i := 106) rfl rfl
set_option maxRecDepth 100000 in
theorem kt_1067 : (Jvm.Cond.code ({ cls := "SafeSweepsModel", name := "open", desc := "()I" } : Jvm.MethodName) prog_14_method_6_code (1 : Nat) (Option.some Jvm.ClassFile.FieldType.int)) ∈ kw_tbl := kts_5 (i := 107) rfl rfl
set_option maxRecDepth 100000 in
theorem kt_1068 : (Jvm.Cond.methodLink "SafeSweepsModel" (148 : Nat) ({ cls := "SafeSweepsModel", name := "count", desc := "(I)I" } : Jvm.MethodName)) ∈ kw_tbl := kts_5 (i := 108) rfl rfl
set_option maxRecDepth 100000 in
theorem kt_1069 : (Jvm.Cond.instanceMethod ({ cls := "SafeSweepsModel", name := "count", desc := "(I)I" } : Jvm.MethodName)) ∈ kw_tbl := kts_5 (i := 109) rfl rfl
set_option maxRecDepth 100000 in
theorem kt_1070 : (Jvm.Cond.selects "SafeSweepsModel" ({ cls := "SafeSweepsModel", name := "count", desc := "(I)I" } : Jvm.MethodName) ({ cls := "SafeSweepsModel", name := "count", desc := "(I)I" } : Jvm.MethodName)) ∈ kw_tbl := kts_5 (i := 110) rfl rfl
set_option maxRecDepth 100000 in
theorem kt_1071 : (Jvm.Cond.code ({ cls := "SafeSweepsModel", name := "count", desc := "(I)I" } : Jvm.MethodName) prog_14_method_50_code (2 : Nat) (Option.some Jvm.ClassFile.FieldType.int)) ∈ kw_tbl := kts_5 (i := 111) rfl rfl
set_option maxRecDepth 100000 in
theorem kt_1072 : (Jvm.Cond.methodLink "SafeSweepsModel" (313 : Nat) ({ cls := "SafeSweepsModel", name := "counted", desc := "(I)I" } : Jvm.MethodName)) ∈ kw_tbl := kts_5 (i := 112) rfl rfl
set_option maxRecDepth 100000 in
theorem kt_1074 : (Jvm.Cond.instanceMethod ({ cls := "SafeSweepsModel", name := "counted", desc := "(I)I" } : Jvm.MethodName)) ∈ kw_tbl := kts_5 (i := 114) rfl rfl
set_option maxRecDepth 100000 in
theorem kt_1075 : (Jvm.Cond.code ({ cls := "SafeSweepsModel", name := "counted", desc := "(I)I" } : Jvm.MethodName) prog_14_method_49_code (4 : Nat) (Option.some Jvm.ClassFile.FieldType.int)) ∈ kw_tbl := kts_5 (i := 115) rfl rfl
set_option maxRecDepth 100000 in
theorem kt_1076 : (Jvm.Cond.methodLink "SafeSweepsModel" (221 : Nat) ({ cls := "SafeSweepsModel", name := "snapshotsThere", desc := "()I" } : Jvm.MethodName)) ∈ kw_tbl := kts_5 (i := 116) rfl rfl
set_option maxRecDepth 100000 in
theorem kt_1078 : (Jvm.Cond.instanceMethod ({ cls := "SafeSweepsModel", name := "snapshotsThere", desc := "()I" } : Jvm.MethodName)) ∈ kw_tbl := kts_5 (i := 118) rfl rfl
set_option maxRecDepth 100000 in
theorem kt_1079 : (Jvm.Cond.code ({ cls := "SafeSweepsModel", name := "snapshotsThere", desc := "()I" } : Jvm.MethodName) prog_14_method_25_code (3 : Nat) (Option.some Jvm.ClassFile.FieldType.int)) ∈ kw_tbl := kts_5 (i := 119) rfl rfl
set_option maxRecDepth 100000 in
theorem kt_1080 : (Jvm.Cond.methodLink "SafeSweepsModel" (316 : Nat) ({ cls := "SafeSweepsModel", name := "savers", desc := "()I" } : Jvm.MethodName)) ∈ kw_tbl := kts_5 (i := 120) rfl rfl
set_option maxRecDepth 100000 in
theorem kt_1082 : (Jvm.Cond.instanceMethod ({ cls := "SafeSweepsModel", name := "savers", desc := "()I" } : Jvm.MethodName)) ∈ kw_tbl := kts_5 (i := 122) rfl rfl
set_option maxRecDepth 100000 in
theorem kt_1083 : (Jvm.Cond.code ({ cls := "SafeSweepsModel", name := "savers", desc := "()I" } : Jvm.MethodName) prog_14_method_48_code (3 : Nat) (Option.some Jvm.ClassFile.FieldType.int)) ∈ kw_tbl := kts_5 (i := 123) rfl rfl
set_option maxRecDepth 100000 in
theorem kt_1084 : (Jvm.Cond.methodLink "SafeSweepsLaw" (27 : Nat) ({ cls := "SafeSweepsModel", name := "at", desc := "(J)I" } : Jvm.MethodName)) ∈ kw_tbl := kts_5 (i := 124) rfl rfl
set_option maxRecDepth 100000 in
theorem kt_1085 : (Jvm.Cond.instanceMethod ({ cls := "SafeSweepsModel", name := "at", desc := "(J)I" } : Jvm.MethodName)) ∈ kw_tbl := kts_5 (i := 125) rfl rfl
set_option maxRecDepth 100000 in
theorem kt_1086 : (Jvm.Cond.selects "SafeSweepsModel" ({ cls := "SafeSweepsModel", name := "at", desc := "(J)I" } : Jvm.MethodName) ({ cls := "SafeSweepsModel", name := "at", desc := "(J)I" } : Jvm.MethodName)) ∈ kw_tbl := kts_5 (i := 126) rfl rfl
set_option maxRecDepth 100000 in
theorem kt_1087 : (Jvm.Cond.code ({ cls := "SafeSweepsModel", name := "at", desc := "(J)I" } : Jvm.MethodName) prog_14_method_7_code (3 : Nat) (Option.some Jvm.ClassFile.FieldType.int)) ∈ kw_tbl := kts_5 (i := 127) rfl rfl
set_option maxRecDepth 100000 in
theorem kt_1088 : (Jvm.Cond.constantLong "SafeSweepsModel" (152 : Nat) (1000000000000 : Int64)) ∈ kw_tbl := kts_5 (i := 128) rfl rfl
set_option maxRecDepth 100000 in
theorem kt_1089 : (Jvm.Cond.methodLink "SafeSweepsLaw" (32 : Nat) ({ cls := "SafeSweepsModel", name := "begin", desc := "(I)I" } : Jvm.MethodName)) ∈ kw_tbl := kts_5 (i := 129) rfl rfl
set_option maxRecDepth 100000 in
theorem kt_1090 : (Jvm.Cond.instanceMethod ({ cls := "SafeSweepsModel", name := "begin", desc := "(I)I" } : Jvm.MethodName)) ∈ kw_tbl := kts_5 (i := 130) rfl rfl
set_option maxRecDepth 100000 in
theorem kt_1091 : (Jvm.Cond.selects "SafeSweepsModel" ({ cls := "SafeSweepsModel", name := "begin", desc := "(I)I" } : Jvm.MethodName) ({ cls := "SafeSweepsModel", name := "begin", desc := "(I)I" } : Jvm.MethodName)) ∈ kw_tbl := kts_5 (i := 131) rfl rfl
set_option maxRecDepth 100000 in
theorem kt_1092 : (Jvm.Cond.code ({ cls := "SafeSweepsModel", name := "begin", desc := "(I)I" } : Jvm.MethodName) prog_14_method_13_code (3 : Nat) (Option.some Jvm.ClassFile.FieldType.int)) ∈ kw_tbl := kts_5 (i := 132) rfl rfl
set_option maxRecDepth 100000 in
theorem kt_1093 : (Jvm.Cond.constantLong "SafeSweepsModel" (163 : Nat) (1000000 : Int64)) ∈ kw_tbl := kts_5 (i := 133) rfl rfl
set_option maxRecDepth 100000 in
theorem kt_1094 : (Jvm.Cond.methodLink "SafeSweepsLaw" (37 : Nat) ({ cls := "SafeSweepsModel", name := "child", desc := "(II)I" } : Jvm.MethodName)) ∈ kw_tbl := kts_5 (i := 134) rfl rfl
set_option maxRecDepth 100000 in
theorem kt_1095 : (Jvm.Cond.instanceMethod ({ cls := "SafeSweepsModel", name := "child", desc := "(II)I" } : Jvm.MethodName)) ∈ kw_tbl := kts_5 (i := 135) rfl rfl
set_option maxRecDepth 100000 in
theorem kt_1096 : (Jvm.Cond.selects "SafeSweepsModel" ({ cls := "SafeSweepsModel", name := "child", desc := "(II)I" } : Jvm.MethodName) ({ cls := "SafeSweepsModel", name := "child", desc := "(II)I" } : Jvm.MethodName)) ∈ kw_tbl := kts_5 (i := 136) rfl rfl
set_option maxRecDepth 100000 in
theorem kt_1097 : (Jvm.Cond.code ({ cls := "SafeSweepsModel", name := "child", desc := "(II)I" } : Jvm.MethodName) prog_14_method_14_code (4 : Nat) (Option.some Jvm.ClassFile.FieldType.int)) ∈ kw_tbl := kts_5 (i := 137) rfl rfl
set_option maxRecDepth 100000 in
theorem kt_1098 : (Jvm.Cond.methodLink "SafeSweepsModel" (165 : Nat) ({ cls := "SafeSweepsModel", name := "isSaver", desc := "(I)Z" } : Jvm.MethodName)) ∈ kw_tbl := kts_5 (i := 138) rfl rfl
set_option maxRecDepth 100000 in
theorem kt_1100 : (Jvm.Cond.instanceMethod ({ cls := "SafeSweepsModel", name := "isSaver", desc := "(I)Z" } : Jvm.MethodName)) ∈ kw_tbl := kts_5 (i := 140) rfl rfl
set_option maxRecDepth 100000 in
theorem kt_1101 : (Jvm.Cond.code ({ cls := "SafeSweepsModel", name := "isSaver", desc := "(I)Z" } : Jvm.MethodName) prog_14_method_8_code (2 : Nat) (Option.some Jvm.ClassFile.FieldType.boolean)) ∈ kw_tbl := kts_5 (i := 141) rfl rfl
set_option maxRecDepth 100000 in
theorem kt_1102 : (Jvm.Cond.constantLong "SafeSweepsModel" (154 : Nat) (3 : Int64)) ∈ kw_tbl := kts_5 (i := 142) rfl rfl
set_option maxRecDepth 100000 in
theorem kt_1103 : (Jvm.Cond.methodLink "SafeSweepsModel" (168 : Nat) ({ cls := "SafeSweepsModel", name := "meet", desc := "(I)Z" } : Jvm.MethodName)) ∈ kw_tbl := kts_5 (i := 143) rfl rfl
set_option maxRecDepth 100000 in
theorem kt_1105 : (Jvm.Cond.instanceMethod ({ cls := "SafeSweepsModel", name := "meet", desc := "(I)Z" } : Jvm.MethodName)) ∈ kw_tbl := kts_5 (i := 145) rfl rfl
set_option maxRecDepth 100000 in
theorem kt_1106 : (Jvm.Cond.code ({ cls := "SafeSweepsModel", name := "meet", desc := "(I)Z" } : Jvm.MethodName) prog_14_method_12_code (2 : Nat) (Option.some Jvm.ClassFile.FieldType.boolean)) ∈ kw_tbl := kts_5 (i := 146) rfl rfl
set_option maxRecDepth 100000 in
theorem kt_1107 : (Jvm.Cond.methodLink "SafeSweepsModel" (159 : Nat) ({ cls := "SafeSweepsModel", name := "isDead", desc := "(I)Z" } : Jvm.MethodName)) ∈ kw_tbl := kts_5 (i := 147) rfl rfl
set_option maxRecDepth 100000 in
theorem kt_1109 : (Jvm.Cond.instanceMethod ({ cls := "SafeSweepsModel", name := "isDead", desc := "(I)Z" } : Jvm.MethodName)) ∈ kw_tbl := kts_5 (i := 149) rfl rfl
set_option maxRecDepth 100000 in
theorem kt_1110 : (Jvm.Cond.code ({ cls := "SafeSweepsModel", name := "isDead", desc := "(I)Z" } : Jvm.MethodName) prog_14_method_9_code (2 : Nat) (Option.some Jvm.ClassFile.FieldType.boolean)) ∈ kw_tbl := kts_5 (i := 150) rfl rfl
set_option maxRecDepth 100000 in
theorem kt_1111 : (Jvm.Cond.methodLink "SafeSweepsModel" (171 : Nat) ({ cls := "SafeSweepsModel", name := "isBlock", desc := "(I)Z" } : Jvm.MethodName)) ∈ kw_tbl := kts_5 (i := 151) rfl rfl
set_option maxRecDepth 100000 in
theorem kt_1113 : (Jvm.Cond.instanceMethod ({ cls := "SafeSweepsModel", name := "isBlock", desc := "(I)Z" } : Jvm.MethodName)) ∈ kw_tbl := kts_5 (i := 153) rfl rfl
set_option maxRecDepth 100000 in
theorem kt_1114 : (Jvm.Cond.code ({ cls := "SafeSweepsModel", name := "isBlock", desc := "(I)Z" } : Jvm.MethodName) prog_14_method_10_code (2 : Nat) (Option.some Jvm.ClassFile.FieldType.boolean)) ∈ kw_tbl := kts_5 (i := 154) rfl rfl
set_option maxRecDepth 100000 in
theorem kt_1115 : (Jvm.Cond.methodLink "SafeSweepsModel" (174 : Nat) ({ cls := "SafeSweepsModel", name := "uses", desc := "(II)Z" } : Jvm.MethodName)) ∈ kw_tbl := kts_5 (i := 155) rfl rfl
set_option maxRecDepth 100000 in
theorem kt_1117 : (Jvm.Cond.instanceMethod ({ cls := "SafeSweepsModel", name := "uses", desc := "(II)Z" } : Jvm.MethodName)) ∈ kw_tbl := kts_5 (i := 157) rfl rfl
set_option maxRecDepth 100000 in
theorem kt_1118 : (Jvm.Cond.code ({ cls := "SafeSweepsModel", name := "uses", desc := "(II)Z" } : Jvm.MethodName) prog_14_method_11_code (5 : Nat) (Option.some Jvm.ClassFile.FieldType.boolean)) ∈ kw_tbl := kts_5 (i := 158) rfl rfl
set_option maxRecDepth 100000 in
theorem kt_1119 : (Jvm.Cond.methodLink "SafeSweepsLaw" (42 : Nat) ({ cls := "SafeSweepsModel", name := "save", desc := "(IJI)I" } : Jvm.MethodName)) ∈ kw_tbl := kts_5 (i := 159) rfl rfl
set_option maxRecDepth 100000 in
theorem kt_1120 : (Jvm.Cond.instanceMethod ({ cls := "SafeSweepsModel", name := "save", desc := "(IJI)I" } : Jvm.MethodName)) ∈ kw_tbl := kts_5 (i := 160) rfl rfl
set_option maxRecDepth 100000 in
theorem kt_1121 : (Jvm.Cond.selects "SafeSweepsModel" ({ cls := "SafeSweepsModel", name := "save", desc := "(IJI)I" } : Jvm.MethodName) ({ cls := "SafeSweepsModel", name := "save", desc := "(IJI)I" } : Jvm.MethodName)) ∈ kw_tbl := kts_5 (i := 161) rfl rfl
set_option maxRecDepth 100000 in
theorem kt_1122 : (Jvm.Cond.code ({ cls := "SafeSweepsModel", name := "save", desc := "(IJI)I" } : Jvm.MethodName) prog_14_method_18_code (7 : Nat) (Option.some Jvm.ClassFile.FieldType.int)) ∈ kw_tbl := kts_5 (i := 162) rfl rfl
set_option maxRecDepth 100000 in
theorem kt_1123 : (Jvm.Cond.methodLink "SafeSweepsModel" (181 : Nat) ({ cls := "SafeSweepsModel", name := "find", desc := "(IJI)I" } : Jvm.MethodName)) ∈ kw_tbl := kts_5 (i := 163) rfl rfl
set_option maxRecDepth 100000 in
theorem kt_1125 : (Jvm.Cond.instanceMethod ({ cls := "SafeSweepsModel", name := "find", desc := "(IJI)I" } : Jvm.MethodName)) ∈ kw_tbl := kts_5 (i := 165) rfl rfl
set_option maxRecDepth 100000 in
theorem kt_1126 : (Jvm.Cond.code ({ cls := "SafeSweepsModel", name := "find", desc := "(IJI)I" } : Jvm.MethodName) prog_14_method_15_code (8 : Nat) (Option.some Jvm.ClassFile.FieldType.int)) ∈ kw_tbl := kts_5 (i := 166) rfl rfl
set_option maxRecDepth 100000 in
theorem kt_1127 : (Jvm.Cond.methodLink "SafeSweepsModel" (185 : Nat) ({ cls := "SafeSweepsModel", name := "taken", desc := "(II)Z" } : Jvm.MethodName)) ∈ kw_tbl := kts_5 (i := 167) rfl rfl
set_option maxRecDepth 100000 in
theorem kt_1129 : (Jvm.Cond.instanceMethod ({ cls := "SafeSweepsModel", name := "taken", desc := "(II)Z" } : Jvm.MethodName)) ∈ kw_tbl := kts_5 (i := 169) rfl rfl
set_option maxRecDepth 100000 in
theorem kt_1130 : (Jvm.Cond.code ({ cls := "SafeSweepsModel", name := "taken", desc := "(II)Z" } : Jvm.MethodName) prog_14_method_21_code (4 : Nat) (Option.some Jvm.ClassFile.FieldType.boolean)) ∈ kw_tbl := kts_5 (i := 170) rfl rfl
set_option maxRecDepth 100000 in
theorem kt_1131 : (Jvm.Cond.methodLink "SafeSweepsModel" (208 : Nat) ({ cls := "SafeSweepsModel", name := "reachFrom", desc := "(I)V" } : Jvm.MethodName)) ∈ kw_tbl := kts_5 (i := 171) rfl rfl
set_option maxRecDepth 100000 in
theorem kt_1133 : (Jvm.Cond.instanceMethod ({ cls := "SafeSweepsModel", name := "reachFrom", desc := "(I)V" } : Jvm.MethodName)) ∈ kw_tbl := kts_5 (i := 173) rfl rfl
set_option maxRecDepth 100000 in
theorem kt_1134 : (Jvm.Cond.code ({ cls := "SafeSweepsModel", name := "reachFrom", desc := "(I)V" } : Jvm.MethodName) prog_14_method_20_code (4 : Nat) (Option.none : Option Jvm.ClassFile.FieldType)) ∈ kw_tbl := kts_5 (i := 174) rfl rfl
set_option maxRecDepth 100000 in
theorem kt_1135 : (Jvm.Cond.methodLink "SafeSweepsModel" (191 : Nat) ({ cls := "SafeSweepsModel", name := "write", desc := "()Z" } : Jvm.MethodName)) ∈ kw_tbl := kts_5 (i := 175) rfl rfl
set_option maxRecDepth 100000 in
theorem kt_1137 : (Jvm.Cond.instanceMethod ({ cls := "SafeSweepsModel", name := "write", desc := "()Z" } : Jvm.MethodName)) ∈ kw_tbl := kts_5 (i := 177) rfl rfl
set_option maxRecDepth 100000 in
theorem kt_1138 : (Jvm.Cond.code ({ cls := "SafeSweepsModel", name := "write", desc := "()Z" } : Jvm.MethodName) prog_14_method_3_code (2 : Nat) (Option.some Jvm.ClassFile.FieldType.boolean)) ∈ kw_tbl := kts_5 (i := 178) rfl rfl
set_option maxRecDepth 100000 in
theorem kt_1139 : (Jvm.Cond.methodLink "SafeSweepsModel" (202 : Nat) ({ cls := "SafeSweepsModel", name := "use", desc := "(II)V" } : Jvm.MethodName)) ∈ kw_tbl := kts_5 (i := 179) rfl rfl
set_option maxRecDepth 100000 in
theorem kt_1141 : (Jvm.Cond.instanceMethod ({ cls := "SafeSweepsModel", name := "use", desc := "(II)V" } : Jvm.MethodName)) ∈ kw_tbl := kts_5 (i := 181) rfl rfl
set_option maxRecDepth 100000 in
theorem kt_1142 : (Jvm.Cond.code ({ cls := "SafeSweepsModel", name := "use", desc := "(II)V" } : Jvm.MethodName) prog_14_method_17_code (3 : Nat) (Option.none : Option Jvm.ClassFile.FieldType)) ∈ kw_tbl := kts_5 (i := 182) rfl rfl
set_option maxRecDepth 100000 in
theorem kt_1143 : (Jvm.Cond.methodLink "SafeSweepsModel" (188 : Nat) ({ cls := "SafeSweepsModel", name := "fitsLatest", desc := "(I)Z" } : Jvm.MethodName)) ∈ kw_tbl := kts_5 (i := 183) rfl rfl
set_option maxRecDepth 100000 in
theorem kt_1145 : (Jvm.Cond.instanceMethod ({ cls := "SafeSweepsModel", name := "fitsLatest", desc := "(I)Z" } : Jvm.MethodName)) ∈ kw_tbl := kts_5 (i := 185) rfl rfl
set_option maxRecDepth 100000 in
theorem kt_1146 : (Jvm.Cond.code ({ cls := "SafeSweepsModel", name := "fitsLatest", desc := "(I)Z" } : Jvm.MethodName) prog_14_method_16_code (2 : Nat) (Option.some Jvm.ClassFile.FieldType.boolean)) ∈ kw_tbl := kts_5 (i := 186) rfl rfl
set_option maxRecDepth 100000 in
theorem kt_1147 : (Jvm.Cond.methodLink "SafeSweepsModel" (195 : Nat) ({ cls := "SafeSweepsModel", name := "made", desc := "(IJI)I" } : Jvm.MethodName)) ∈ kw_tbl := kts_5 (i := 187) rfl rfl
set_option maxRecDepth 100000 in
theorem kt_1149 : (Jvm.Cond.instanceMethod ({ cls := "SafeSweepsModel", name := "made", desc := "(IJI)I" } : Jvm.MethodName)) ∈ kw_tbl := kts_5 (i := 189) rfl rfl
set_option maxRecDepth 100000 in
theorem kt_1150 : (Jvm.Cond.code ({ cls := "SafeSweepsModel", name := "made", desc := "(IJI)I" } : Jvm.MethodName) prog_14_method_19_code (7 : Nat) (Option.some Jvm.ClassFile.FieldType.int)) ∈ kw_tbl := kts_5 (i := 190) rfl rfl
set_option maxRecDepth 100000 in
theorem kt_1151 : (Jvm.Cond.methodLink "SafeSweepsModel" (198 : Nat) ({ cls := "SafeSweepsModel", name := "tell", desc := "(II)V" } : Jvm.MethodName)) ∈ kw_tbl := kts_5 (i := 191) rfl rfl
set_option maxRecDepth 100000 in
theorem kt_1153 : (Jvm.Cond.instanceMethod ({ cls := "SafeSweepsModel", name := "tell", desc := "(II)V" } : Jvm.MethodName)) ∈ kw_tbl := kts_5 (i := 193) rfl rfl
set_option maxRecDepth 100000 in
theorem kt_1154 : (Jvm.Cond.code ({ cls := "SafeSweepsModel", name := "tell", desc := "(II)V" } : Jvm.MethodName) prog_14_method_4_code (3 : Nat) (Option.none : Option Jvm.ClassFile.FieldType)) ∈ kw_tbl := kts_5 (i := 194) rfl rfl
set_option maxRecDepth 100000 in
theorem kt_1155 : (Jvm.Cond.methodLink "SafeSweepsLaw" (46 : Nat) ({ cls := "SafeSweepsModel", name := "take", desc := "(II)I" } : Jvm.MethodName)) ∈ kw_tbl := kts_5 (i := 195) rfl rfl
set_option maxRecDepth 100000 in
theorem kt_1156 : (Jvm.Cond.instanceMethod ({ cls := "SafeSweepsModel", name := "take", desc := "(II)I" } : Jvm.MethodName)) ∈ kw_tbl := kts_5 (i := 196) rfl rfl
set_option maxRecDepth 100000 in
theorem kt_1157 : (Jvm.Cond.selects "SafeSweepsModel" ({ cls := "SafeSweepsModel", name := "take", desc := "(II)I" } : Jvm.MethodName) ({ cls := "SafeSweepsModel", name := "take", desc := "(II)I" } : Jvm.MethodName)) ∈ kw_tbl := kts_5 (i := 197) rfl rfl
set_option maxRecDepth 100000 in
theorem kt_1158 : (Jvm.Cond.code ({ cls := "SafeSweepsModel", name := "take", desc := "(II)I" } : Jvm.MethodName) prog_14_method_22_code (4 : Nat) (Option.some Jvm.ClassFile.FieldType.int)) ∈ kw_tbl := kts_5 (i := 198) rfl rfl
set_option maxRecDepth 100000 in
theorem kt_1159 : (Jvm.Cond.methodLink "SafeSweepsLaw" (50 : Nat) ({ cls := "SafeSweepsModel", name := "commit", desc := "(II)I" } : Jvm.MethodName)) ∈ kw_tbl := kts_5 (i := 199) rfl rfl
set_option maxRecDepth 100000 in
theorem kt_1160 : (Jvm.Cond.instanceMethod ({ cls := "SafeSweepsModel", name := "commit", desc := "(II)I" } : Jvm.MethodName)) ∈ kw_tbl := kts_5 (i := 200) rfl rfl
set_option maxRecDepth 100000 in
theorem kt_1161 : (Jvm.Cond.selects "SafeSweepsModel" ({ cls := "SafeSweepsModel", name := "commit", desc := "(II)I" } : Jvm.MethodName) ({ cls := "SafeSweepsModel", name := "commit", desc := "(II)I" } : Jvm.MethodName)) ∈ kw_tbl := kts_5 (i := 201) rfl rfl
set_option maxRecDepth 100000 in
theorem kt_1162 : (Jvm.Cond.code ({ cls := "SafeSweepsModel", name := "commit", desc := "(II)I" } : Jvm.MethodName) prog_14_method_23_code (5 : Nat) (Option.some Jvm.ClassFile.FieldType.int)) ∈ kw_tbl := kts_5 (i := 202) rfl rfl
set_option maxRecDepth 100000 in
theorem kt_1163 : (Jvm.Cond.methodLink "SafeSweepsLaw" (54 : Nat) ({ cls := "SafeSweepsModel", name := "give", desc := "(I)I" } : Jvm.MethodName)) ∈ kw_tbl := kts_5 (i := 203) rfl rfl
set_option maxRecDepth 100000 in
theorem kt_1164 : (Jvm.Cond.instanceMethod ({ cls := "SafeSweepsModel", name := "give", desc := "(I)I" } : Jvm.MethodName)) ∈ kw_tbl := kts_5 (i := 204) rfl rfl
set_option maxRecDepth 100000 in
theorem kt_1165 : (Jvm.Cond.selects "SafeSweepsModel" ({ cls := "SafeSweepsModel", name := "give", desc := "(I)I" } : Jvm.MethodName) ({ cls := "SafeSweepsModel", name := "give", desc := "(I)I" } : Jvm.MethodName)) ∈ kw_tbl := kts_5 (i := 205) rfl rfl
set_option maxRecDepth 100000 in
theorem kt_1166 : (Jvm.Cond.code ({ cls := "SafeSweepsModel", name := "give", desc := "(I)I" } : Jvm.MethodName) prog_14_method_24_code (2 : Nat) (Option.some Jvm.ClassFile.FieldType.int)) ∈ kw_tbl := kts_5 (i := 206) rfl rfl
set_option maxRecDepth 100000 in
theorem kt_1167 : (Jvm.Cond.methodLink "SafeSweepsLaw" (58 : Nat) ({ cls := "SafeSweepsModel", name := "drop", desc := "(I)I" } : Jvm.MethodName)) ∈ kw_tbl := kts_5 (i := 207) rfl rfl
set_option maxRecDepth 100000 in
theorem kt_1168 : (Jvm.Cond.instanceMethod ({ cls := "SafeSweepsModel", name := "drop", desc := "(I)I" } : Jvm.MethodName)) ∈ kw_tbl := kts_5 (i := 208) rfl rfl
set_option maxRecDepth 100000 in
theorem kt_1169 : (Jvm.Cond.selects "SafeSweepsModel" ({ cls := "SafeSweepsModel", name := "drop", desc := "(I)I" } : Jvm.MethodName) ({ cls := "SafeSweepsModel", name := "drop", desc := "(I)I" } : Jvm.MethodName)) ∈ kw_tbl := kts_5 (i := 209) rfl rfl
set_option maxRecDepth 100000 in
theorem kt_1170 : (Jvm.Cond.code ({ cls := "SafeSweepsModel", name := "drop", desc := "(I)I" } : Jvm.MethodName) prog_14_method_28_code (2 : Nat) (Option.some Jvm.ClassFile.FieldType.int)) ∈ kw_tbl := kts_5 (i := 210) rfl rfl
set_option maxRecDepth 100000 in
theorem kt_1171 : (Jvm.Cond.methodLink "SafeSweepsModel" (225 : Nat) ({ cls := "SafeSweepsModel", name := "isSnapshot", desc := "(I)Z" } : Jvm.MethodName)) ∈ kw_tbl := kts_5 (i := 211) rfl rfl
set_option maxRecDepth 100000 in
theorem kt_1173 : (Jvm.Cond.instanceMethod ({ cls := "SafeSweepsModel", name := "isSnapshot", desc := "(I)Z" } : Jvm.MethodName)) ∈ kw_tbl := kts_5 (i := 213) rfl rfl
set_option maxRecDepth 100000 in
theorem kt_1174 : (Jvm.Cond.code ({ cls := "SafeSweepsModel", name := "isSnapshot", desc := "(I)Z" } : Jvm.MethodName) prog_14_method_26_code (2 : Nat) (Option.some Jvm.ClassFile.FieldType.boolean)) ∈ kw_tbl := kts_5 (i := 214) rfl rfl
set_option maxRecDepth 100000 in
theorem kt_1175 : (Jvm.Cond.methodLink "SafeSweepsModel" (228 : Nat) ({ cls := "SafeSweepsModel", name := "goes", desc := "(I)Z" } : Jvm.MethodName)) ∈ kw_tbl := kts_5 (i := 215) rfl rfl
set_option maxRecDepth 100000 in
theorem kt_1177 : (Jvm.Cond.instanceMethod ({ cls := "SafeSweepsModel", name := "goes", desc := "(I)Z" } : Jvm.MethodName)) ∈ kw_tbl := kts_5 (i := 217) rfl rfl
set_option maxRecDepth 100000 in
theorem kt_1178 : (Jvm.Cond.code ({ cls := "SafeSweepsModel", name := "goes", desc := "(I)Z" } : Jvm.MethodName) prog_14_method_27_code (2 : Nat) (Option.some Jvm.ClassFile.FieldType.boolean)) ∈ kw_tbl := kts_5 (i := 218) rfl rfl
set_option maxRecDepth 100000 in
theorem kt_1179 : (Jvm.Cond.methodLink "SafeSweepsLaw" (62 : Nat) ({ cls := "SafeSweepsModel", name := "rule", desc := "(II)I" } : Jvm.MethodName)) ∈ kw_tbl := kts_5 (i := 219) rfl rfl
set_option maxRecDepth 100000 in
theorem kt_1180 : (Jvm.Cond.instanceMethod ({ cls := "SafeSweepsModel", name := "rule", desc := "(II)I" } : Jvm.MethodName)) ∈ kw_tbl := kts_5 (i := 220) rfl rfl
set_option maxRecDepth 100000 in
theorem kt_1181 : (Jvm.Cond.selects "SafeSweepsModel" ({ cls := "SafeSweepsModel", name := "rule", desc := "(II)I" } : Jvm.MethodName) ({ cls := "SafeSweepsModel", name := "rule", desc := "(II)I" } : Jvm.MethodName)) ∈ kw_tbl := kts_5 (i := 221) rfl rfl
set_option maxRecDepth 100000 in
theorem kt_1182 : (Jvm.Cond.code ({ cls := "SafeSweepsModel", name := "rule", desc := "(II)I" } : Jvm.MethodName) prog_14_method_29_code (4 : Nat) (Option.some Jvm.ClassFile.FieldType.int)) ∈ kw_tbl := kts_5 (i := 222) rfl rfl
set_option maxRecDepth 100000 in
theorem kt_1183 : (Jvm.Cond.constantLong "SafeSweepsModel" (231 : Nat) (5 : Int64)) ∈ kw_tbl := kts_5 (i := 223) rfl rfl
set_option maxRecDepth 100000 in
theorem kt_1184 : (Jvm.Cond.constantLong "SafeSweepsModel" (233 : Nat) (15 : Int64)) ∈ kw_tbl := kts_5 (i := 224) rfl rfl
set_option maxRecDepth 100000 in
theorem kt_1185 : (Jvm.Cond.constantLong "SafeSweepsModel" (235 : Nat) (100 : Int64)) ∈ kw_tbl := kts_5 (i := 225) rfl rfl
set_option maxRecDepth 100000 in
theorem kt_1186 : (Jvm.Cond.methodLink "SafeSweepsLaw" (66 : Nat) ({ cls := "SafeSweepsModel", name := "keeps", desc := "(I)I" } : Jvm.MethodName)) ∈ kw_tbl := kts_5 (i := 226) rfl rfl
set_option maxRecDepth 100000 in
theorem kt_1187 : (Jvm.Cond.instanceMethod ({ cls := "SafeSweepsModel", name := "keeps", desc := "(I)I" } : Jvm.MethodName)) ∈ kw_tbl := kts_5 (i := 227) rfl rfl
set_option maxRecDepth 100000 in
theorem kt_1188 : (Jvm.Cond.selects "SafeSweepsModel" ({ cls := "SafeSweepsModel", name := "keeps", desc := "(I)I" } : Jvm.MethodName) ({ cls := "SafeSweepsModel", name := "keeps", desc := "(I)I" } : Jvm.MethodName)) ∈ kw_tbl := kts_5 (i := 228) rfl rfl
set_option maxRecDepth 100000 in
theorem kt_1189 : (Jvm.Cond.code ({ cls := "SafeSweepsModel", name := "keeps", desc := "(I)I" } : Jvm.MethodName) prog_14_method_34_code (2 : Nat) (Option.some Jvm.ClassFile.FieldType.int)) ∈ kw_tbl := kts_5 (i := 229) rfl rfl
set_option maxRecDepth 100000 in
theorem kt_1190 : (Jvm.Cond.methodLink "SafeSweepsModel" (261 : Nat) ({ cls := "SafeSweepsModel", name := "keptBy", desc := "(I)I" } : Jvm.MethodName)) ∈ kw_tbl := kts_5 (i := 230) rfl rfl
set_option maxRecDepth 100000 in
theorem kt_1192 : (Jvm.Cond.instanceMethod ({ cls := "SafeSweepsModel", name := "keptBy", desc := "(I)I" } : Jvm.MethodName)) ∈ kw_tbl := kts_5 (i := 232) rfl rfl
set_option maxRecDepth 100000 in
theorem kt_1193 : (Jvm.Cond.code ({ cls := "SafeSweepsModel", name := "keptBy", desc := "(I)I" } : Jvm.MethodName) prog_14_method_33_code (5 : Nat) (Option.some Jvm.ClassFile.FieldType.int)) ∈ kw_tbl := kts_5 (i := 233) rfl rfl
set_option maxRecDepth 100000 in
theorem kt_1194 : (Jvm.Cond.methodLink "SafeSweepsModel" (251 : Nat) ({ cls := "SafeSweepsModel", name := "behind", desc := "(I)I" } : Jvm.MethodName)) ∈ kw_tbl := kts_5 (i := 234) rfl rfl
set_option maxRecDepth 100000 in
theorem kt_1196 : (Jvm.Cond.instanceMethod ({ cls := "SafeSweepsModel", name := "behind", desc := "(I)I" } : Jvm.MethodName)) ∈ kw_tbl := kts_5 (i := 236) rfl rfl
set_option maxRecDepth 100000 in
theorem kt_1197 : (Jvm.Cond.code ({ cls := "SafeSweepsModel", name := "behind", desc := "(I)I" } : Jvm.MethodName) prog_14_method_30_code (4 : Nat) (Option.some Jvm.ClassFile.FieldType.int)) ∈ kw_tbl := kts_5 (i := 237) rfl rfl
set_option maxRecDepth 100000 in
theorem kt_1198 : (Jvm.Cond.methodLink "SafeSweepsModel" (258 : Nat) ({ cls := "SafeSweepsModel", name := "spanKeeps", desc := "(II)Z" } : Jvm.MethodName)) ∈ kw_tbl := kts_5 (i := 238) rfl rfl
set_option maxRecDepth 100000 in
theorem kt_1200 : (Jvm.Cond.instanceMethod ({ cls := "SafeSweepsModel", name := "spanKeeps", desc := "(II)Z" } : Jvm.MethodName)) ∈ kw_tbl := kts_6 (i := 0) rfl rfl
set_option maxRecDepth 100000 in
theorem kt_1201 : (Jvm.Cond.code ({ cls := "SafeSweepsModel", name := "spanKeeps", desc := "(II)Z" } : Jvm.MethodName) prog_14_method_32_code (6 : Nat) (Option.some Jvm.ClassFile.FieldType.boolean)) ∈ kw_tbl := kts_6 (i := 1) rfl rfl
set_option maxRecDepth 100000 in
theorem kt_1202 : (Jvm.Cond.methodLink "SafeSweepsModel" (254 : Nat) ({ cls := "SafeSweepsModel", name := "spanOf", desc := "(JI)J" } : Jvm.MethodName)) ∈ kw_tbl := kts_6 (i := 2) rfl rfl
set_option maxRecDepth 100000 in
theorem kt_1204 : (Jvm.Cond.instanceMethod ({ cls := "SafeSweepsModel", name := "spanOf", desc := "(JI)J" } : Jvm.MethodName)) ∈ kw_tbl := kts_6 (i := 4) rfl rfl
set_option maxRecDepth 100000 in
theorem kt_1205 : (Jvm.Cond.code ({ cls := "SafeSweepsModel", name := "spanOf", desc := "(JI)J" } : Jvm.MethodName) prog_14_method_31_code (6 : Nat) (Option.some Jvm.ClassFile.FieldType.long)) ∈ kw_tbl := kts_6 (i := 5) rfl rfl
set_option maxRecDepth 100000 in
theorem kt_1206 : (Jvm.Cond.constantLong "SafeSweepsModel" (237 : Nat) (86400 : Int64)) ∈ kw_tbl := kts_6 (i := 6) rfl rfl
set_option maxRecDepth 100000 in
theorem kt_1207 : (Jvm.Cond.methodLink "SafeSweepsModel" (239 : Nat) ({ cls := "SafeSweepsModel", name := "floor", desc := "(JJ)J" } : Jvm.MethodName)) ∈ kw_tbl := kts_6 (i := 7) rfl rfl
set_option maxRecDepth 100000 in
theorem kt_1208 : (Jvm.Cond.static ({ cls := "SafeSweepsModel", name := "floor", desc := "(JJ)J" } : Jvm.MethodName)) ∈ kw_tbl := kts_6 (i := 8) rfl rfl
set_option maxRecDepth 100000 in
theorem kt_1209 : (Jvm.Cond.code ({ cls := "SafeSweepsModel", name := "floor", desc := "(JJ)J" } : Jvm.MethodName) prog_14_method_59_code (6 : Nat) (Option.some Jvm.ClassFile.FieldType.long)) ∈ kw_tbl := kts_6 (i := 9) rfl rfl
set_option maxRecDepth 100000 in
theorem kt_1210 : (Jvm.Cond.constantLong "SafeSweepsModel" (243 : Nat) (7 : Int64)) ∈ kw_tbl := kts_6 (i := 10) rfl rfl
set_option maxRecDepth 100000 in
theorem kt_1211 : (Jvm.Cond.constantLong "SafeSweepsModel" (245 : Nat) (12 : Int64)) ∈ kw_tbl := kts_6 (i := 11) rfl rfl
set_option maxRecDepth 100000 in
theorem kt_1212 : (Jvm.Cond.methodLink "SafeSweepsModel" (247 : Nat) ({ cls := "SafeSweepsModel", name := "calendar", desc := "(JI)I" } : Jvm.MethodName)) ∈ kw_tbl := kts_6 (i := 12) rfl rfl
set_option maxRecDepth 100000 in
theorem kt_1213 : (Jvm.Cond.instanceMethod ({ cls := "SafeSweepsModel", name := "calendar", desc := "(JI)I" } : Jvm.MethodName)) ∈ kw_tbl := kts_6 (i := 13) rfl rfl
set_option maxRecDepth 100000 in
theorem kt_1214 : (Jvm.Cond.selects "SafeSweepsModel" ({ cls := "SafeSweepsModel", name := "calendar", desc := "(JI)I" } : Jvm.MethodName) ({ cls := "SafeSweepsModel", name := "calendar", desc := "(JI)I" } : Jvm.MethodName)) ∈ kw_tbl := kts_6 (i := 14) rfl rfl
set_option maxRecDepth 100000 in
theorem kt_1215 : (Jvm.Cond.code ({ cls := "SafeSweepsModel", name := "calendar", desc := "(JI)I" } : Jvm.MethodName) prog_14_method_61_code (13 : Nat) (Option.some Jvm.ClassFile.FieldType.int)) ∈ kw_tbl := kts_6 (i := 15) rfl rfl
set_option maxRecDepth 100000 in
theorem kt_1216 : (Jvm.Cond.constantLong "SafeSweepsModel" (326 : Nat) (4 : Int64)) ∈ kw_tbl := kts_6 (i := 16) rfl rfl
set_option maxRecDepth 100000 in
theorem kt_1217 : (Jvm.Cond.constantLong "SafeSweepsModel" (328 : Nat) (-1000000000000 : Int64)) ∈ kw_tbl := kts_6 (i := 17) rfl rfl
set_option maxRecDepth 100000 in
theorem kt_1218 : (Jvm.Cond.constantLong "SafeSweepsModel" (330 : Nat) (719528 : Int64)) ∈ kw_tbl := kts_6 (i := 18) rfl rfl
set_option maxRecDepth 100000 in
theorem kt_1219 : (Jvm.Cond.constantLong "SafeSweepsModel" (332 : Nat) (146097 : Int64)) ∈ kw_tbl := kts_6 (i := 19) rfl rfl
set_option maxRecDepth 100000 in
theorem kt_1220 : (Jvm.Cond.methodLink "SafeSweepsModel" (334 : Nat) ({ cls := "SafeSweepsModel", name := "daysOf", desc := "(II)I" } : Jvm.MethodName)) ∈ kw_tbl := kts_6 (i := 20) rfl rfl
set_option maxRecDepth 100000 in
theorem kt_1221 : (Jvm.Cond.static ({ cls := "SafeSweepsModel", name := "daysOf", desc := "(II)I" } : Jvm.MethodName)) ∈ kw_tbl := kts_6 (i := 21) rfl rfl
set_option maxRecDepth 100000 in
theorem kt_1222 : (Jvm.Cond.code ({ cls := "SafeSweepsModel", name := "daysOf", desc := "(II)I" } : Jvm.MethodName) prog_14_method_60_code (3 : Nat) (Option.some Jvm.ClassFile.FieldType.int)) ∈ kw_tbl := kts_6 (i := 22) rfl rfl
set_option maxRecDepth 100000 in
theorem kt_1223 : (Jvm.Cond.constantLong "SafeSweepsModel" (337 : Nat) (400 : Int64)) ∈ kw_tbl := kts_6 (i := 23) rfl rfl
set_option maxRecDepth 100000 in
theorem kt_1224 : (Jvm.Cond.methodLink "SafeSweepsLaw" (71 : Nat) ({ cls := "SafeSweepsModel", name := "prune", desc := "(Z)I" } : Jvm.MethodName)) ∈ kw_tbl := kts_6 (i := 24) rfl rfl
set_option maxRecDepth 100000 in
theorem kt_1225 : (Jvm.Cond.instanceMethod ({ cls := "SafeSweepsModel", name := "prune", desc := "(Z)I" } : Jvm.MethodName)) ∈ kw_tbl := kts_6 (i := 25) rfl rfl
set_option maxRecDepth 100000 in
theorem kt_1226 : (Jvm.Cond.selects "SafeSweepsModel" ({ cls := "SafeSweepsModel", name := "prune", desc := "(Z)I" } : Jvm.MethodName) ({ cls := "SafeSweepsModel", name := "prune", desc := "(Z)I" } : Jvm.MethodName)) ∈ kw_tbl := kts_6 (i := 26) rfl rfl
set_option maxRecDepth 100000 in
theorem kt_1227 : (Jvm.Cond.code ({ cls := "SafeSweepsModel", name := "prune", desc := "(Z)I" } : Jvm.MethodName) prog_14_method_35_code (7 : Nat) (Option.some Jvm.ClassFile.FieldType.int)) ∈ kw_tbl := kts_6 (i := 27) rfl rfl
set_option maxRecDepth 100000 in
theorem kt_1228 : (Jvm.Cond.methodLink "SafeSweepsLaw" (76 : Nat) ({ cls := "SafeSweepsModel", name := "sweep", desc := "()I" } : Jvm.MethodName)) ∈ kw_tbl := kts_6 (i := 28) rfl rfl
set_option maxRecDepth 100000 in
theorem kt_1229 : (Jvm.Cond.instanceMethod ({ cls := "SafeSweepsModel", name := "sweep", desc := "()I" } : Jvm.MethodName)) ∈ kw_tbl := kts_6 (i := 29) rfl rfl
set_option maxRecDepth 100000 in
theorem kt_1230 : (Jvm.Cond.selects "SafeSweepsModel" ({ cls := "SafeSweepsModel", name := "sweep", desc := "()I" } : Jvm.MethodName) ({ cls := "SafeSweepsModel", name := "sweep", desc := "()I" } : Jvm.MethodName)) ∈ kw_tbl := kts_6 (i := 30) rfl rfl
set_option maxRecDepth 100000 in
theorem kt_1231 : (Jvm.Cond.code ({ cls := "SafeSweepsModel", name := "sweep", desc := "()I" } : Jvm.MethodName) prog_14_method_38_code (3 : Nat) (Option.some Jvm.ClassFile.FieldType.int)) ∈ kw_tbl := kts_6 (i := 31) rfl rfl
set_option maxRecDepth 100000 in
theorem kt_1232 : (Jvm.Cond.methodLink "SafeSweepsModel" (279 : Nat) ({ cls := "SafeSweepsModel", name := "push", desc := "(I)V" } : Jvm.MethodName)) ∈ kw_tbl := kts_6 (i := 32) rfl rfl
set_option maxRecDepth 100000 in
theorem kt_1234 : (Jvm.Cond.instanceMethod ({ cls := "SafeSweepsModel", name := "push", desc := "(I)V" } : Jvm.MethodName)) ∈ kw_tbl := kts_6 (i := 34) rfl rfl
set_option maxRecDepth 100000 in
theorem kt_1235 : (Jvm.Cond.code ({ cls := "SafeSweepsModel", name := "push", desc := "(I)V" } : Jvm.MethodName) prog_14_method_36_code (2 : Nat) (Option.none : Option Jvm.ClassFile.FieldType)) ∈ kw_tbl := kts_6 (i := 35) rfl rfl
set_option maxRecDepth 100000 in
theorem kt_1236 : (Jvm.Cond.methodLink "SafeSweepsModel" (282 : Nat) ({ cls := "SafeSweepsModel", name := "settle", desc := "()V" } : Jvm.MethodName)) ∈ kw_tbl := kts_6 (i := 36) rfl rfl
set_option maxRecDepth 100000 in
theorem kt_1238 : (Jvm.Cond.instanceMethod ({ cls := "SafeSweepsModel", name := "settle", desc := "()V" } : Jvm.MethodName)) ∈ kw_tbl := kts_6 (i := 38) rfl rfl
set_option maxRecDepth 100000 in
theorem kt_1239 : (Jvm.Cond.code ({ cls := "SafeSweepsModel", name := "settle", desc := "()V" } : Jvm.MethodName) prog_14_method_37_code (1 : Nat) (Option.none : Option Jvm.ClassFile.FieldType)) ∈ kw_tbl := kts_6 (i := 39) rfl rfl
set_option maxRecDepth 100000 in
theorem kt_1240 : (Jvm.Cond.methodLink "SafeSweepsLaw" (80 : Nat) ({ cls := "SafeSweepsModel", name := "step", desc := "(I)I" } : Jvm.MethodName)) ∈ kw_tbl := kts_6 (i := 40) rfl rfl
set_option maxRecDepth 100000 in
theorem kt_1241 : (Jvm.Cond.instanceMethod ({ cls := "SafeSweepsModel", name := "step", desc := "(I)I" } : Jvm.MethodName)) ∈ kw_tbl := kts_6 (i := 41) rfl rfl
set_option maxRecDepth 100000 in
theorem kt_1242 : (Jvm.Cond.selects "SafeSweepsModel" ({ cls := "SafeSweepsModel", name := "step", desc := "(I)I" } : Jvm.MethodName) ({ cls := "SafeSweepsModel", name := "step", desc := "(I)I" } : Jvm.MethodName)) ∈ kw_tbl := kts_6 (i := 42) rfl rfl
set_option maxRecDepth 100000 in
theorem kt_1243 : (Jvm.Cond.code ({ cls := "SafeSweepsModel", name := "step", desc := "(I)I" } : Jvm.MethodName) prog_14_method_46_code (4 : Nat) (Option.some Jvm.ClassFile.FieldType.int)) ∈ kw_tbl := kts_6 (i := 43) rfl rfl
set_option maxRecDepth 100000 in
theorem kt_1244 : (Jvm.Cond.methodLink "SafeSweepsModel" (301 : Nat) ({ cls := "SafeSweepsModel", name := "mark", desc := "()V" } : Jvm.MethodName)) ∈ kw_tbl := kts_6 (i := 44) rfl rfl
set_option maxRecDepth 100000 in
theorem kt_1246 : (Jvm.Cond.instanceMethod ({ cls := "SafeSweepsModel", name := "mark", desc := "()V" } : Jvm.MethodName)) ∈ kw_tbl := kts_6 (i := 46) rfl rfl
set_option maxRecDepth 100000 in
theorem kt_1247 : (Jvm.Cond.code ({ cls := "SafeSweepsModel", name := "mark", desc := "()V" } : Jvm.MethodName) prog_14_method_39_code (3 : Nat) (Option.none : Option Jvm.ClassFile.FieldType)) ∈ kw_tbl := kts_6 (i := 47) rfl rfl
set_option maxRecDepth 100000 in
theorem kt_1248 : (Jvm.Cond.methodLink "SafeSweepsModel" (304 : Nat) ({ cls := "SafeSweepsModel", name := "clear", desc := "()Z" } : Jvm.MethodName)) ∈ kw_tbl := kts_6 (i := 48) rfl rfl
set_option maxRecDepth 100000 in
theorem kt_1250 : (Jvm.Cond.instanceMethod ({ cls := "SafeSweepsModel", name := "clear", desc := "()Z" } : Jvm.MethodName)) ∈ kw_tbl := kts_6 (i := 50) rfl rfl
set_option maxRecDepth 100000 in
theorem kt_1251 : (Jvm.Cond.code ({ cls := "SafeSweepsModel", name := "clear", desc := "()Z" } : Jvm.MethodName) prog_14_method_40_code (2 : Nat) (Option.some Jvm.ClassFile.FieldType.boolean)) ∈ kw_tbl := kts_6 (i := 51) rfl rfl
set_option maxRecDepth 100000 in
theorem kt_1252 : (Jvm.Cond.methodLink "SafeSweepsModel" (307 : Nat) ({ cls := "SafeSweepsModel", name := "choose", desc := "()Z" } : Jvm.MethodName)) ∈ kw_tbl := kts_6 (i := 52) rfl rfl
set_option maxRecDepth 100000 in
theorem kt_1254 : (Jvm.Cond.instanceMethod ({ cls := "SafeSweepsModel", name := "choose", desc := "()Z" } : Jvm.MethodName)) ∈ kw_tbl := kts_6 (i := 54) rfl rfl
set_option maxRecDepth 100000 in
theorem kt_1255 : (Jvm.Cond.code ({ cls := "SafeSweepsModel", name := "choose", desc := "()Z" } : Jvm.MethodName) prog_14_method_41_code (3 : Nat) (Option.some Jvm.ClassFile.FieldType.boolean)) ∈ kw_tbl := kts_6 (i := 55) rfl rfl
set_option maxRecDepth 100000 in
theorem kt_1256 : (Jvm.Cond.methodLink "SafeSweepsModel" (310 : Nat) ({ cls := "SafeSweepsModel", name := "packStep", desc := "()Z" } : Jvm.MethodName)) ∈ kw_tbl := kts_6 (i := 56) rfl rfl
set_option maxRecDepth 100000 in
theorem kt_1258 : (Jvm.Cond.instanceMethod ({ cls := "SafeSweepsModel", name := "packStep", desc := "()Z" } : Jvm.MethodName)) ∈ kw_tbl := kts_6 (i := 58) rfl rfl
set_option maxRecDepth 100000 in
theorem kt_1259 : (Jvm.Cond.code ({ cls := "SafeSweepsModel", name := "packStep", desc := "()Z" } : Jvm.MethodName) prog_14_method_44_code (6 : Nat) (Option.some Jvm.ClassFile.FieldType.boolean)) ∈ kw_tbl := kts_6 (i := 59) rfl rfl
set_option maxRecDepth 100000 in
theorem kt_1260 : (Jvm.Cond.methodLink "SafeSweepsModel" (288 : Nat) ({ cls := "SafeSweepsModel", name := "bytesIn", desc := "(I)I" } : Jvm.MethodName)) ∈ kw_tbl := kts_6 (i := 60) rfl rfl
set_option maxRecDepth 100000 in
theorem kt_1262 : (Jvm.Cond.instanceMethod ({ cls := "SafeSweepsModel", name := "bytesIn", desc := "(I)I" } : Jvm.MethodName)) ∈ kw_tbl := kts_6 (i := 62) rfl rfl
set_option maxRecDepth 100000 in
theorem kt_1263 : (Jvm.Cond.code ({ cls := "SafeSweepsModel", name := "bytesIn", desc := "(I)I" } : Jvm.MethodName) prog_14_method_42_code (4 : Nat) (Option.some Jvm.ClassFile.FieldType.int)) ∈ kw_tbl := kts_6 (i := 63) rfl rfl
set_option maxRecDepth 100000 in
theorem kt_1264 : (Jvm.Cond.methodLink "SafeSweepsModel" (291 : Nat) ({ cls := "SafeSweepsModel", name := "blocksIn", desc := "(I)I" } : Jvm.MethodName)) ∈ kw_tbl := kts_6 (i := 64) rfl rfl
set_option maxRecDepth 100000 in
theorem kt_1266 : (Jvm.Cond.instanceMethod ({ cls := "SafeSweepsModel", name := "blocksIn", desc := "(I)I" } : Jvm.MethodName)) ∈ kw_tbl := kts_6 (i := 66) rfl rfl
set_option maxRecDepth 100000 in
theorem kt_1267 : (Jvm.Cond.code ({ cls := "SafeSweepsModel", name := "blocksIn", desc := "(I)I" } : Jvm.MethodName) prog_14_method_43_code (4 : Nat) (Option.some Jvm.ClassFile.FieldType.int)) ∈ kw_tbl := kts_6 (i := 67) rfl rfl
set_option maxRecDepth 100000 in
theorem kt_1268 : (Jvm.Cond.methodLink "SafeSweepsModel" (294 : Nat) ({ cls := "SafeSweepsModel", name := "plan", desc := "(II)I" } : Jvm.MethodName)) ∈ kw_tbl := kts_6 (i := 68) rfl rfl
set_option maxRecDepth 100000 in
theorem kt_1270 : (Jvm.Cond.instanceMethod ({ cls := "SafeSweepsModel", name := "plan", desc := "(II)I" } : Jvm.MethodName)) ∈ kw_tbl := kts_6 (i := 70) rfl rfl
set_option maxRecDepth 100000 in
theorem kt_1271 : (Jvm.Cond.code ({ cls := "SafeSweepsModel", name := "plan", desc := "(II)I" } : Jvm.MethodName) prog_14_method_45_code (12 : Nat) (Option.some Jvm.ClassFile.FieldType.int)) ∈ kw_tbl := kts_6 (i := 71) rfl rfl
set_option maxRecDepth 100000 in
theorem kt_1272 : (Jvm.Cond.methodLink "SafeSweepsLaw" (84 : Nat) ({ cls := "SafeSweepsModel", name := "share", desc := "(I)I" } : Jvm.MethodName)) ∈ kw_tbl := kts_6 (i := 72) rfl rfl
set_option maxRecDepth 100000 in
theorem kt_1273 : (Jvm.Cond.instanceMethod ({ cls := "SafeSweepsModel", name := "share", desc := "(I)I" } : Jvm.MethodName)) ∈ kw_tbl := kts_6 (i := 73) rfl rfl
set_option maxRecDepth 100000 in
theorem kt_1274 : (Jvm.Cond.selects "SafeSweepsModel" ({ cls := "SafeSweepsModel", name := "share", desc := "(I)I" } : Jvm.MethodName) ({ cls := "SafeSweepsModel", name := "share", desc := "(I)I" } : Jvm.MethodName)) ∈ kw_tbl := kts_6 (i := 74) rfl rfl
set_option maxRecDepth 100000 in
theorem kt_1275 : (Jvm.Cond.code ({ cls := "SafeSweepsModel", name := "share", desc := "(I)I" } : Jvm.MethodName) prog_14_method_47_code (3 : Nat) (Option.some Jvm.ClassFile.FieldType.int)) ∈ kw_tbl := kts_6 (i := 75) rfl rfl
set_option maxRecDepth 100000 in
theorem kt_1276 : (Jvm.Cond.methodLink "SafeSweepsLaw" (100 : Nat) ({ cls := "SafeSweepsModel", name := "count", desc := "(I)I" } : Jvm.MethodName)) ∈ kw_tbl := kts_6 (i := 76) rfl rfl
set_option maxRecDepth 100000 in
theorem kt_1277 : (Jvm.Cond.methodLink "SafeSweepsLaw" (104 : Nat) ({ cls := "SafeSweepsModel", name := "block", desc := "(II)I" } : Jvm.MethodName)) ∈ kw_tbl := kts_6 (i := 77) rfl rfl
set_option maxRecDepth 100000 in
theorem kt_1278 : (Jvm.Cond.instanceMethod ({ cls := "SafeSweepsModel", name := "block", desc := "(II)I" } : Jvm.MethodName)) ∈ kw_tbl := kts_6 (i := 78) rfl rfl
set_option maxRecDepth 100000 in
theorem kt_1279 : (Jvm.Cond.selects "SafeSweepsModel" ({ cls := "SafeSweepsModel", name := "block", desc := "(II)I" } : Jvm.MethodName) ({ cls := "SafeSweepsModel", name := "block", desc := "(II)I" } : Jvm.MethodName)) ∈ kw_tbl := kts_6 (i := 79) rfl rfl
set_option maxRecDepth 100000 in
theorem kt_1280 : (Jvm.Cond.code ({ cls := "SafeSweepsModel", name := "block", desc := "(II)I" } : Jvm.MethodName) prog_14_method_52_code (3 : Nat) (Option.some Jvm.ClassFile.FieldType.int)) ∈ kw_tbl := kts_6 (i := 80) rfl rfl
set_option maxRecDepth 100000 in
theorem kt_1281 : (Jvm.Cond.methodLink "SafeSweepsModel" (319 : Nat) ({ cls := "SafeSweepsModel", name := "usersOf", desc := "(I)I" } : Jvm.MethodName)) ∈ kw_tbl := kts_6 (i := 81) rfl rfl
set_option maxRecDepth 100000 in
theorem kt_1283 : (Jvm.Cond.instanceMethod ({ cls := "SafeSweepsModel", name := "usersOf", desc := "(I)I" } : Jvm.MethodName)) ∈ kw_tbl := kts_6 (i := 83) rfl rfl
set_option maxRecDepth 100000 in
theorem kt_1284 : (Jvm.Cond.code ({ cls := "SafeSweepsModel", name := "usersOf", desc := "(I)I" } : Jvm.MethodName) prog_14_method_51_code (4 : Nat) (Option.some Jvm.ClassFile.FieldType.int)) ∈ kw_tbl := kts_6 (i := 84) rfl rfl
set_option maxRecDepth 100000 in
theorem kt_1285 : (Jvm.Cond.constantLong "SafeSweepsModel" (322 : Nat) (8 : Int64)) ∈ kw_tbl := kts_6 (i := 85) rfl rfl
set_option maxRecDepth 100000 in
theorem kt_1286 : (Jvm.Cond.constantLong "SafeSweepsModel" (324 : Nat) (11 : Int64)) ∈ kw_tbl := kts_6 (i := 86) rfl rfl
set_option maxRecDepth 100000 in
theorem kt_1287 : (Jvm.Cond.methodLink "SafeSweepsLaw" (109 : Nat) ({ cls := "SafeSweepsModel", name := "key", desc := "(I)J" } : Jvm.MethodName)) ∈ kw_tbl := kts_6 (i := 87) rfl rfl
set_option maxRecDepth 100000 in
theorem kt_1288 : (Jvm.Cond.instanceMethod ({ cls := "SafeSweepsModel", name := "key", desc := "(I)J" } : Jvm.MethodName)) ∈ kw_tbl := kts_6 (i := 88) rfl rfl
set_option maxRecDepth 100000 in
theorem kt_1289 : (Jvm.Cond.selects "SafeSweepsModel" ({ cls := "SafeSweepsModel", name := "key", desc := "(I)J" } : Jvm.MethodName) ({ cls := "SafeSweepsModel", name := "key", desc := "(I)J" } : Jvm.MethodName)) ∈ kw_tbl := kts_6 (i := 89) rfl rfl
set_option maxRecDepth 100000 in
theorem kt_1290 : (Jvm.Cond.code ({ cls := "SafeSweepsModel", name := "key", desc := "(I)J" } : Jvm.MethodName) prog_14_method_53_code (2 : Nat) (Option.some Jvm.ClassFile.FieldType.long)) ∈ kw_tbl := kts_6 (i := 90) rfl rfl
set_option maxRecDepth 100000 in
theorem kt_1291 : (Jvm.Cond.methodLink "SafeSweepsLaw" (113 : Nat) ({ cls := "SafeSweepsModel", name := "pack", desc := "(II)I" } : Jvm.MethodName)) ∈ kw_tbl := kts_6 (i := 91) rfl rfl
set_option maxRecDepth 100000 in
theorem kt_1292 : (Jvm.Cond.instanceMethod ({ cls := "SafeSweepsModel", name := "pack", desc := "(II)I" } : Jvm.MethodName)) ∈ kw_tbl := kts_6 (i := 92) rfl rfl
set_option maxRecDepth 100000 in
theorem kt_1293 : (Jvm.Cond.selects "SafeSweepsModel" ({ cls := "SafeSweepsModel", name := "pack", desc := "(II)I" } : Jvm.MethodName) ({ cls := "SafeSweepsModel", name := "pack", desc := "(II)I" } : Jvm.MethodName)) ∈ kw_tbl := kts_6 (i := 93) rfl rfl
set_option maxRecDepth 100000 in
theorem kt_1294 : (Jvm.Cond.code ({ cls := "SafeSweepsModel", name := "pack", desc := "(II)I" } : Jvm.MethodName) prog_14_method_54_code (3 : Nat) (Option.some Jvm.ClassFile.FieldType.int)) ∈ kw_tbl := kts_6 (i := 94) rfl rfl
set_option maxRecDepth 100000 in
theorem kt_1295 : (Jvm.Cond.methodLink "SafeSweepsLaw" (117 : Nat) ({ cls := "SafeSweepsModel", name := "snapshot", desc := "(II)I" } : Jvm.MethodName)) ∈ kw_tbl := kts_6 (i := 95) rfl rfl
set_option maxRecDepth 100000 in
theorem kt_1296 : (Jvm.Cond.instanceMethod ({ cls := "SafeSweepsModel", name := "snapshot", desc := "(II)I" } : Jvm.MethodName)) ∈ kw_tbl := kts_6 (i := 96) rfl rfl
set_option maxRecDepth 100000 in
theorem kt_1297 : (Jvm.Cond.selects "SafeSweepsModel" ({ cls := "SafeSweepsModel", name := "snapshot", desc := "(II)I" } : Jvm.MethodName) ({ cls := "SafeSweepsModel", name := "snapshot", desc := "(II)I" } : Jvm.MethodName)) ∈ kw_tbl := kts_6 (i := 97) rfl rfl
set_option maxRecDepth 100000 in
theorem kt_1298 : (Jvm.Cond.code ({ cls := "SafeSweepsModel", name := "snapshot", desc := "(II)I" } : Jvm.MethodName) prog_14_method_55_code (3 : Nat) (Option.some Jvm.ClassFile.FieldType.int)) ∈ kw_tbl := kts_6 (i := 98) rfl rfl
set_option maxRecDepth 100000 in
theorem kt_1299 : (Jvm.Cond.methodLink "SafeSweepsLaw" (121 : Nat) ({ cls := "SafeSweepsModel", name := "time", desc := "(I)J" } : Jvm.MethodName)) ∈ kw_tbl := kts_6 (i := 99) rfl rfl
set_option maxRecDepth 100000 in
theorem kt_1300 : (Jvm.Cond.instanceMethod ({ cls := "SafeSweepsModel", name := "time", desc := "(I)J" } : Jvm.MethodName)) ∈ kw_tbl := kts_6 (i := 100) rfl rfl
set_option maxRecDepth 100000 in
theorem kt_1301 : (Jvm.Cond.selects "SafeSweepsModel" ({ cls := "SafeSweepsModel", name := "time", desc := "(I)J" } : Jvm.MethodName) ({ cls := "SafeSweepsModel", name := "time", desc := "(I)J" } : Jvm.MethodName)) ∈ kw_tbl := kts_6 (i := 101) rfl rfl
set_option maxRecDepth 100000 in
theorem kt_1302 : (Jvm.Cond.code ({ cls := "SafeSweepsModel", name := "time", desc := "(I)J" } : Jvm.MethodName) prog_14_method_56_code (2 : Nat) (Option.some Jvm.ClassFile.FieldType.long)) ∈ kw_tbl := kts_6 (i := 102) rfl rfl
set_option maxRecDepth 100000 in
theorem kt_1303 : (Jvm.Cond.methodLink "SafeSweepsLaw" (125 : Nat) ({ cls := "SafeSweepsModel", name := "saver", desc := "(II)I" } : Jvm.MethodName)) ∈ kw_tbl := kts_6 (i := 103) rfl rfl
set_option maxRecDepth 100000 in
theorem kt_1304 : (Jvm.Cond.instanceMethod ({ cls := "SafeSweepsModel", name := "saver", desc := "(II)I" } : Jvm.MethodName)) ∈ kw_tbl := kts_6 (i := 104) rfl rfl
set_option maxRecDepth 100000 in
theorem kt_1305 : (Jvm.Cond.selects "SafeSweepsModel" ({ cls := "SafeSweepsModel", name := "saver", desc := "(II)I" } : Jvm.MethodName) ({ cls := "SafeSweepsModel", name := "saver", desc := "(II)I" } : Jvm.MethodName)) ∈ kw_tbl := kts_6 (i := 105) rfl rfl
set_option maxRecDepth 100000 in
theorem kt_1306 : (Jvm.Cond.code ({ cls := "SafeSweepsModel", name := "saver", desc := "(II)I" } : Jvm.MethodName) prog_14_method_57_code (3 : Nat) (Option.some Jvm.ClassFile.FieldType.int)) ∈ kw_tbl := kts_6 (i := 106) rfl rfl
set_option maxRecDepth 100000 in
theorem kt_1307 : (Jvm.Cond.methodLink "SafeSweepsLaw" (129 : Nat) ({ cls := "SafeSweepsModel", name := "swept", desc := "(I)I" } : Jvm.MethodName)) ∈ kw_tbl := kts_6 (i := 107) rfl rfl
set_option maxRecDepth 100000 in
theorem kt_1308 : (Jvm.Cond.instanceMethod ({ cls := "SafeSweepsModel", name := "swept", desc := "(I)I" } : Jvm.MethodName)) ∈ kw_tbl := kts_6 (i := 108) rfl rfl
set_option maxRecDepth 100000 in
theorem kt_1309 : (Jvm.Cond.selects "SafeSweepsModel" ({ cls := "SafeSweepsModel", name := "swept", desc := "(I)I" } : Jvm.MethodName) ({ cls := "SafeSweepsModel", name := "swept", desc := "(I)I" } : Jvm.MethodName)) ∈ kw_tbl := kts_6 (i := 109) rfl rfl
set_option maxRecDepth 100000 in
theorem kt_1310 : (Jvm.Cond.code ({ cls := "SafeSweepsModel", name := "swept", desc := "(I)I" } : Jvm.MethodName) prog_14_method_58_code (2 : Nat) (Option.some Jvm.ClassFile.FieldType.int)) ∈ kw_tbl := kts_6 (i := 110) rfl rfl
set_option maxRecDepth 100000 in
theorem kt_1311 : (Jvm.Cond.methodLink "SafeSweepsLaw" (134 : Nat) ({ cls := "SafeSweepsModel", name := "calendar", desc := "(JI)I" } : Jvm.MethodName)) ∈ kw_tbl := kts_6 (i := 111) rfl rfl
set_option maxRecDepth 100000 in
theorem kt_1312 : (Jvm.Cond.methodLink "SafeSweepsLaw" (96 : Nat) ({ cls := "SafeSweepsModel", name := "follow", desc := "(II)I" } : Jvm.MethodName)) ∈ kw_tbl := kts_6 (i := 112) rfl rfl
set_option maxRecDepth 100000 in
theorem kt_1313 : (Jvm.Cond.instanceMethod ({ cls := "SafeSweepsModel", name := "follow", desc := "(II)I" } : Jvm.MethodName)) ∈ kw_tbl := kts_6 (i := 113) rfl rfl
set_option maxRecDepth 100000 in
theorem kt_1314 : (Jvm.Cond.selects "SafeSweepsModel" ({ cls := "SafeSweepsModel", name := "follow", desc := "(II)I" } : Jvm.MethodName) ({ cls := "SafeSweepsModel", name := "follow", desc := "(II)I" } : Jvm.MethodName)) ∈ kw_tbl := kts_6 (i := 114) rfl rfl
set_option maxRecDepth 100000 in
theorem kt_1315 : (Jvm.Cond.code ({ cls := "SafeSweepsModel", name := "follow", desc := "(II)I" } : Jvm.MethodName) prog_14_method_63_code (3 : Nat) (Option.some Jvm.ClassFile.FieldType.int)) ∈ kw_tbl := kts_6 (i := 115) rfl rfl
set_option maxRecDepth 100000 in
theorem kt_1316 : (Jvm.Cond.methodLink "SafeSweepsModel" (339 : Nat) ({ cls := "SafeSweepsModel", name := "isMirror", desc := "(I)Z" } : Jvm.MethodName)) ∈ kw_tbl := kts_6 (i := 116) rfl rfl
set_option maxRecDepth 100000 in
theorem kt_1318 : (Jvm.Cond.instanceMethod ({ cls := "SafeSweepsModel", name := "isMirror", desc := "(I)Z" } : Jvm.MethodName)) ∈ kw_tbl := kts_6 (i := 118) rfl rfl
set_option maxRecDepth 100000 in
theorem kt_1319 : (Jvm.Cond.code ({ cls := "SafeSweepsModel", name := "isMirror", desc := "(I)Z" } : Jvm.MethodName) prog_14_method_62_code (2 : Nat) (Option.some Jvm.ClassFile.FieldType.boolean)) ∈ kw_tbl := kts_6 (i := 119) rfl rfl
set_option maxRecDepth 100000 in
theorem kt_1320 : (Jvm.Cond.methodLink "SafeSweepsLaw" (143 : Nat) ({ cls := "SafeSweepsModel", name := "has", desc := "(II)Z" } : Jvm.MethodName)) ∈ kw_tbl := kts_6 (i := 120) rfl rfl
set_option maxRecDepth 100000 in
theorem kt_1321 : (Jvm.Cond.instanceMethod ({ cls := "SafeSweepsModel", name := "has", desc := "(II)Z" } : Jvm.MethodName)) ∈ kw_tbl := kts_6 (i := 121) rfl rfl
set_option maxRecDepth 100000 in
theorem kt_1322 : (Jvm.Cond.selects "SafeSweepsModel" ({ cls := "SafeSweepsModel", name := "has", desc := "(II)Z" } : Jvm.MethodName) ({ cls := "SafeSweepsModel", name := "has", desc := "(II)Z" } : Jvm.MethodName)) ∈ kw_tbl := kts_6 (i := 122) rfl rfl
set_option maxRecDepth 100000 in
theorem kt_1323 : (Jvm.Cond.code ({ cls := "SafeSweepsModel", name := "has", desc := "(II)Z" } : Jvm.MethodName) prog_14_method_65_code (3 : Nat) (Option.some Jvm.ClassFile.FieldType.boolean)) ∈ kw_tbl := kts_6 (i := 123) rfl rfl
set_option maxRecDepth 100000 in
theorem kt_1324 : (Jvm.Cond.methodLink "SafeSweepsModel" (342 : Nat) ({ cls := "SafeSweepsModel", name := "mirrorHas", desc := "(III)Z" } : Jvm.MethodName)) ∈ kw_tbl := kts_6 (i := 124) rfl rfl
set_option maxRecDepth 100000 in
theorem kt_1326 : (Jvm.Cond.instanceMethod ({ cls := "SafeSweepsModel", name := "mirrorHas", desc := "(III)Z" } : Jvm.MethodName)) ∈ kw_tbl := kts_6 (i := 126) rfl rfl
set_option maxRecDepth 100000 in
theorem kt_1327 : (Jvm.Cond.code ({ cls := "SafeSweepsModel", name := "mirrorHas", desc := "(III)Z" } : Jvm.MethodName) prog_14_method_64_code (6 : Nat) (Option.some Jvm.ClassFile.FieldType.boolean)) ∈ kw_tbl := kts_6 (i := 127) rfl rfl
set_option maxRecDepth 100000 in
theorem kt_1328 : (Jvm.Cond.methodLink "SafeSweepsLaw" (138 : Nat) ({ cls := "SafeSweepsModel", name := "mirrored", desc := "(II)I" } : Jvm.MethodName)) ∈ kw_tbl := kts_6 (i := 128) rfl rfl
set_option maxRecDepth 100000 in
theorem kt_1329 : (Jvm.Cond.instanceMethod ({ cls := "SafeSweepsModel", name := "mirrored", desc := "(II)I" } : Jvm.MethodName)) ∈ kw_tbl := kts_6 (i := 129) rfl rfl
set_option maxRecDepth 100000 in
theorem kt_1330 : (Jvm.Cond.selects "SafeSweepsModel" ({ cls := "SafeSweepsModel", name := "mirrored", desc := "(II)I" } : Jvm.MethodName) ({ cls := "SafeSweepsModel", name := "mirrored", desc := "(II)I" } : Jvm.MethodName)) ∈ kw_tbl := kts_6 (i := 130) rfl rfl
set_option maxRecDepth 100000 in
theorem kt_1331 : (Jvm.Cond.code ({ cls := "SafeSweepsModel", name := "mirrored", desc := "(II)I" } : Jvm.MethodName) prog_14_method_67_code (5 : Nat) (Option.some Jvm.ClassFile.FieldType.int)) ∈ kw_tbl := kts_6 (i := 131) rfl rfl
set_option maxRecDepth 100000 in
theorem kt_1332 : (Jvm.Cond.methodLink "SafeSweepsModel" (346 : Nat) ({ cls := "SafeSweepsModel", name := "lacks", desc := "(II)Z" } : Jvm.MethodName)) ∈ kw_tbl := kts_6 (i := 132) rfl rfl
set_option maxRecDepth 100000 in
theorem kt_1334 : (Jvm.Cond.instanceMethod ({ cls := "SafeSweepsModel", name := "lacks", desc := "(II)Z" } : Jvm.MethodName)) ∈ kw_tbl := kts_6 (i := 134) rfl rfl
set_option maxRecDepth 100000 in
theorem kt_1335 : (Jvm.Cond.code ({ cls := "SafeSweepsModel", name := "lacks", desc := "(II)Z" } : Jvm.MethodName) prog_14_method_66_code (6 : Nat) (Option.some Jvm.ClassFile.FieldType.boolean)) ∈ kw_tbl := kts_6 (i := 135) rfl rfl
set_option maxRecDepth 100000 in
theorem kt_1336 : (Jvm.Cond.methodLink "SafeSweepsLaw" (147 : Nat) ({ cls := "SafeSweepsModel", name := "audit", desc := "()I" } : Jvm.MethodName)) ∈ kw_tbl := kts_6 (i := 136) rfl rfl
set_option maxRecDepth 100000 in
theorem kt_1337 : (Jvm.Cond.instanceMethod ({ cls := "SafeSweepsModel", name := "audit", desc := "()I" } : Jvm.MethodName)) ∈ kw_tbl := kts_6 (i := 137) rfl rfl
set_option maxRecDepth 100000 in
theorem kt_1338 : (Jvm.Cond.selects "SafeSweepsModel" ({ cls := "SafeSweepsModel", name := "audit", desc := "()I" } : Jvm.MethodName) ({ cls := "SafeSweepsModel", name := "audit", desc := "()I" } : Jvm.MethodName)) ∈ kw_tbl := kts_6 (i := 138) rfl rfl
set_option maxRecDepth 100000 in
theorem kt_1339 : (Jvm.Cond.code ({ cls := "SafeSweepsModel", name := "audit", desc := "()I" } : Jvm.MethodName) prog_14_method_70_code (4 : Nat) (Option.some Jvm.ClassFile.FieldType.int)) ∈ kw_tbl := kts_6 (i := 139) rfl rfl
set_option maxRecDepth 100000 in
theorem kt_1340 : (Jvm.Cond.methodLink "SafeSweepsModel" (349 : Nat) ({ cls := "SafeSweepsModel", name := "wrongPlaces", desc := "()I" } : Jvm.MethodName)) ∈ kw_tbl := kts_6 (i := 140) rfl rfl
set_option maxRecDepth 100000 in
theorem kt_1342 : (Jvm.Cond.instanceMethod ({ cls := "SafeSweepsModel", name := "wrongPlaces", desc := "()I" } : Jvm.MethodName)) ∈ kw_tbl := kts_6 (i := 142) rfl rfl
set_option maxRecDepth 100000 in
theorem kt_1343 : (Jvm.Cond.code ({ cls := "SafeSweepsModel", name := "wrongPlaces", desc := "()I" } : Jvm.MethodName) prog_14_method_69_code (6 : Nat) (Option.some Jvm.ClassFile.FieldType.int)) ∈ kw_tbl := kts_6 (i := 143) rfl rfl
set_option maxRecDepth 100000 in
theorem kt_1344 : (Jvm.Cond.methodLink "SafeSweepsModel" (352 : Nat) ({ cls := "SafeSweepsModel", name := "lostFrom", desc := "(I)I" } : Jvm.MethodName)) ∈ kw_tbl := kts_6 (i := 144) rfl rfl
set_option maxRecDepth 100000 in
theorem kt_1346 : (Jvm.Cond.instanceMethod ({ cls := "SafeSweepsModel", name := "lostFrom", desc := "(I)I" } : Jvm.MethodName)) ∈ kw_tbl := kts_6 (i := 146) rfl rfl
set_option maxRecDepth 100000 in
theorem kt_1347 : (Jvm.Cond.code ({ cls := "SafeSweepsModel", name := "lostFrom", desc := "(I)I" } : Jvm.MethodName) prog_14_method_68_code (4 : Nat) (Option.some Jvm.ClassFile.FieldType.int)) ∈ kw_tbl := kts_6 (i := 147) rfl rfl
set_option maxRecDepth 100000 in
theorem kt_1348 : (Jvm.Cond.constantLong "SafeSweepsLaw" (21 : Nat) (4294967295 : Int64)) ∈ kw_tbl := kts_6 (i := 148) rfl rfl
set_option maxRecDepth 100000 in
theorem ks_0 : Cond.selects "SafeSweeps" ⟨"SafeSweeps", "renewed", "(I)LSafeSweeps$Saver;"⟩ ⟨"SafeSweeps", "renewed", "(I)LSafeSweeps$Saver;"⟩ ∈ kw_tbl := List.mem_filter.mpr ⟨List.mem_of_getElem? (l := lw_tbl) (i := 0) rfl, rfl⟩
set_option maxRecDepth 100000 in
theorem ks_1 : Cond.selects "SafeSweeps" ⟨"SafeSweeps", "saverHere", "(I)LSafeSweeps$Saver;"⟩ ⟨"SafeSweeps", "saverHere", "(I)LSafeSweeps$Saver;"⟩ ∈ kw_tbl := List.mem_filter.mpr ⟨List.mem_of_getElem? (l := lw_tbl) (i := 1) rfl, rfl⟩
set_option maxRecDepth 100000 in
theorem ks_2 : Cond.selects "SafeSweeps" ⟨"SafeSweeps", "saveNew", "(LSafeSweeps$Saver;JI)I"⟩ ⟨"SafeSweeps", "saveNew", "(LSafeSweeps$Saver;JI)I"⟩ ∈ kw_tbl := List.mem_filter.mpr ⟨List.mem_of_getElem? (l := lw_tbl) (i := 2) rfl, rfl⟩
set_option maxRecDepth 100000 in
theorem ks_3 : Cond.selects "SafeSweeps" ⟨"SafeSweeps", "losePower", "()I"⟩ ⟨"SafeSweeps", "losePower", "()I"⟩ ∈ kw_tbl := List.mem_filter.mpr ⟨List.mem_of_getElem? (l := lw_tbl) (i := 3) rfl, rfl⟩
set_option maxRecDepth 100000 in
theorem ks_4 : Cond.selects "SafeSweeps" ⟨"SafeSweeps", "saveFound", "(LSafeSweeps$Saver;I)I"⟩ ⟨"SafeSweeps", "saveFound", "(LSafeSweeps$Saver;I)I"⟩ ∈ kw_tbl := List.mem_filter.mpr ⟨List.mem_of_getElem? (l := lw_tbl) (i := 4) rfl, rfl⟩
set_option maxRecDepth 100000 in
theorem ks_5 : Cond.selects "SafeSweeps" ⟨"SafeSweeps", "takeFor", "(LSafeSweeps$Saver;I)I"⟩ ⟨"SafeSweeps", "takeFor", "(LSafeSweeps$Saver;I)I"⟩ ∈ kw_tbl := List.mem_filter.mpr ⟨List.mem_of_getElem? (l := lw_tbl) (i := 5) rfl, rfl⟩
set_option maxRecDepth 100000 in
theorem ks_6 : Cond.selects "SafeSweeps" ⟨"SafeSweeps", "snapshotsThere", "()I"⟩ ⟨"SafeSweeps", "snapshotsThere", "()I"⟩ ∈ kw_tbl := List.mem_filter.mpr ⟨List.mem_of_getElem? (l := lw_tbl) (i := 6) rfl, rfl⟩
set_option maxRecDepth 100000 in
theorem ks_7 : Cond.selects "SafeSweeps" ⟨"SafeSweeps", "snapshotIsThere", "(I)Z"⟩ ⟨"SafeSweeps", "snapshotIsThere", "(I)Z"⟩ ∈ kw_tbl := List.mem_filter.mpr ⟨List.mem_of_getElem? (l := lw_tbl) (i := 7) rfl, rfl⟩
set_option maxRecDepth 100000 in
theorem ks_8 : Cond.selects "SafeSweeps" ⟨"SafeSweeps", "removeSnapshot", "(I)Z"⟩ ⟨"SafeSweeps", "removeSnapshot", "(I)Z"⟩ ∈ kw_tbl := List.mem_filter.mpr ⟨List.mem_of_getElem? (l := lw_tbl) (i := 8) rfl, rfl⟩
set_option maxRecDepth 100000 in
theorem ks_9 : Cond.selects "SafeSweeps" ⟨"SafeSweeps", "snapshotIsUnkept", "(I)Z"⟩ ⟨"SafeSweeps", "snapshotIsUnkept", "(I)Z"⟩ ∈ kw_tbl := List.mem_filter.mpr ⟨List.mem_of_getElem? (l := lw_tbl) (i := 9) rfl, rfl⟩
set_option maxRecDepth 100000 in
theorem ks_10 : Cond.selects "SafeSweeps" ⟨"SafeSweeps", "lineUpOrDismiss", "(LSafeSweeps$Saver;)V"⟩ ⟨"SafeSweeps", "lineUpOrDismiss", "(LSafeSweeps$Saver;)V"⟩ ∈ kw_tbl := List.mem_filter.mpr ⟨List.mem_of_getElem? (l := lw_tbl) (i := 10) rfl, rfl⟩
set_option maxRecDepth 100000 in
theorem ks_11 : Cond.selects "SafeSweeps" ⟨"SafeSweeps", "saversHere", "()I"⟩ ⟨"SafeSweeps", "saversHere", "()I"⟩ ∈ kw_tbl := List.mem_filter.mpr ⟨List.mem_of_getElem? (l := lw_tbl) (i := 11) rfl, rfl⟩
set_option maxRecDepth 100000 in
theorem ks_12 : Cond.selects "SafeSweeps" ⟨"SafeSweeps", "saversThatUse", "(I)I"⟩ ⟨"SafeSweeps", "saversThatUse", "(I)I"⟩ ∈ kw_tbl := List.mem_filter.mpr ⟨List.mem_of_getElem? (l := lw_tbl) (i := 12) rfl, rfl⟩
set_option maxRecDepth 100000 in
theorem ks_13 : Cond.selects "SafeSweeps" ⟨"SafeSweeps", "brokenSnapshots", "(LSafeSweeps$Mirror;)I"⟩ ⟨"SafeSweeps", "brokenSnapshots", "(LSafeSweeps$Mirror;)I"⟩ ∈ kw_tbl := List.mem_filter.mpr ⟨List.mem_of_getElem? (l := lw_tbl) (i := 13) rfl, rfl⟩
set_option maxRecDepth 100000 in
theorem ks_14 : Cond.selects "SafeSweeps" ⟨"SafeSweeps", "reachedButFreed", "()I"⟩ ⟨"SafeSweeps", "reachedButFreed", "()I"⟩ ∈ kw_tbl := List.mem_filter.mpr ⟨List.mem_of_getElem? (l := lw_tbl) (i := 14) rfl, rfl⟩
set_option maxRecDepth 100000 in
theorem ks_15 : Cond.selects "SafeSweepsModel" ⟨"SafeSweepsModel", "counted", "(I)I"⟩ ⟨"SafeSweepsModel", "counted", "(I)I"⟩ ∈ kw_tbl := List.mem_filter.mpr ⟨List.mem_of_getElem? (l := lw_tbl) (i := 15) rfl, rfl⟩
set_option maxRecDepth 100000 in
theorem ks_16 : Cond.selects "SafeSweepsModel" ⟨"SafeSweepsModel", "snapshotsThere", "()I"⟩ ⟨"SafeSweepsModel", "snapshotsThere", "()I"⟩ ∈ kw_tbl := List.mem_filter.mpr ⟨List.mem_of_getElem? (l := lw_tbl) (i := 16) rfl, rfl⟩
set_option maxRecDepth 100000 in
theorem ks_17 : Cond.selects "SafeSweepsModel" ⟨"SafeSweepsModel", "savers", "()I"⟩ ⟨"SafeSweepsModel", "savers", "()I"⟩ ∈ kw_tbl := List.mem_filter.mpr ⟨List.mem_of_getElem? (l := lw_tbl) (i := 17) rfl, rfl⟩
set_option maxRecDepth 100000 in
theorem ks_18 : Cond.selects "SafeSweepsModel" ⟨"SafeSweepsModel", "isSaver", "(I)Z"⟩ ⟨"SafeSweepsModel", "isSaver", "(I)Z"⟩ ∈ kw_tbl := List.mem_filter.mpr ⟨List.mem_of_getElem? (l := lw_tbl) (i := 18) rfl, rfl⟩
set_option maxRecDepth 100000 in
theorem ks_19 : Cond.selects "SafeSweepsModel" ⟨"SafeSweepsModel", "meet", "(I)Z"⟩ ⟨"SafeSweepsModel", "meet", "(I)Z"⟩ ∈ kw_tbl := List.mem_filter.mpr ⟨List.mem_of_getElem? (l := lw_tbl) (i := 19) rfl, rfl⟩
set_option maxRecDepth 100000 in
theorem ks_20 : Cond.selects "SafeSweepsModel" ⟨"SafeSweepsModel", "isDead", "(I)Z"⟩ ⟨"SafeSweepsModel", "isDead", "(I)Z"⟩ ∈ kw_tbl := List.mem_filter.mpr ⟨List.mem_of_getElem? (l := lw_tbl) (i := 20) rfl, rfl⟩
set_option maxRecDepth 100000 in
theorem ks_21 : Cond.selects "SafeSweepsModel" ⟨"SafeSweepsModel", "isBlock", "(I)Z"⟩ ⟨"SafeSweepsModel", "isBlock", "(I)Z"⟩ ∈ kw_tbl := List.mem_filter.mpr ⟨List.mem_of_getElem? (l := lw_tbl) (i := 21) rfl, rfl⟩
set_option maxRecDepth 100000 in
theorem ks_22 : Cond.selects "SafeSweepsModel" ⟨"SafeSweepsModel", "uses", "(II)Z"⟩ ⟨"SafeSweepsModel", "uses", "(II)Z"⟩ ∈ kw_tbl := List.mem_filter.mpr ⟨List.mem_of_getElem? (l := lw_tbl) (i := 22) rfl, rfl⟩
set_option maxRecDepth 100000 in
theorem ks_23 : Cond.selects "SafeSweepsModel" ⟨"SafeSweepsModel", "find", "(IJI)I"⟩ ⟨"SafeSweepsModel", "find", "(IJI)I"⟩ ∈ kw_tbl := List.mem_filter.mpr ⟨List.mem_of_getElem? (l := lw_tbl) (i := 23) rfl, rfl⟩
set_option maxRecDepth 100000 in
theorem ks_24 : Cond.selects "SafeSweepsModel" ⟨"SafeSweepsModel", "taken", "(II)Z"⟩ ⟨"SafeSweepsModel", "taken", "(II)Z"⟩ ∈ kw_tbl := List.mem_filter.mpr ⟨List.mem_of_getElem? (l := lw_tbl) (i := 24) rfl, rfl⟩
set_option maxRecDepth 100000 in
theorem ks_25 : Cond.selects "SafeSweepsModel" ⟨"SafeSweepsModel", "reachFrom", "(I)V"⟩ ⟨"SafeSweepsModel", "reachFrom", "(I)V"⟩ ∈ kw_tbl := List.mem_filter.mpr ⟨List.mem_of_getElem? (l := lw_tbl) (i := 25) rfl, rfl⟩
set_option maxRecDepth 100000 in
theorem ks_26 : Cond.selects "SafeSweepsModel" ⟨"SafeSweepsModel", "write", "()Z"⟩ ⟨"SafeSweepsModel", "write", "()Z"⟩ ∈ kw_tbl := List.mem_filter.mpr ⟨List.mem_of_getElem? (l := lw_tbl) (i := 26) rfl, rfl⟩
set_option maxRecDepth 100000 in
theorem ks_27 : Cond.selects "SafeSweepsModel" ⟨"SafeSweepsModel", "use", "(II)V"⟩ ⟨"SafeSweepsModel", "use", "(II)V"⟩ ∈ kw_tbl := List.mem_filter.mpr ⟨List.mem_of_getElem? (l := lw_tbl) (i := 27) rfl, rfl⟩
set_option maxRecDepth 100000 in
theorem ks_28 : Cond.selects "SafeSweepsModel" ⟨"SafeSweepsModel", "fitsLatest", "(I)Z"⟩ ⟨"SafeSweepsModel", "fitsLatest", "(I)Z"⟩ ∈ kw_tbl := List.mem_filter.mpr ⟨List.mem_of_getElem? (l := lw_tbl) (i := 28) rfl, rfl⟩
set_option maxRecDepth 100000 in
theorem ks_29 : Cond.selects "SafeSweepsModel" ⟨"SafeSweepsModel", "made", "(IJI)I"⟩ ⟨"SafeSweepsModel", "made", "(IJI)I"⟩ ∈ kw_tbl := List.mem_filter.mpr ⟨List.mem_of_getElem? (l := lw_tbl) (i := 29) rfl, rfl⟩
set_option maxRecDepth 100000 in
theorem ks_30 : Cond.selects "SafeSweepsModel" ⟨"SafeSweepsModel", "tell", "(II)V"⟩ ⟨"SafeSweepsModel", "tell", "(II)V"⟩ ∈ kw_tbl := List.mem_filter.mpr ⟨List.mem_of_getElem? (l := lw_tbl) (i := 30) rfl, rfl⟩
set_option maxRecDepth 100000 in
theorem ks_31 : Cond.selects "SafeSweepsModel" ⟨"SafeSweepsModel", "isSnapshot", "(I)Z"⟩ ⟨"SafeSweepsModel", "isSnapshot", "(I)Z"⟩ ∈ kw_tbl := List.mem_filter.mpr ⟨List.mem_of_getElem? (l := lw_tbl) (i := 31) rfl, rfl⟩
set_option maxRecDepth 100000 in
theorem ks_32 : Cond.selects "SafeSweepsModel" ⟨"SafeSweepsModel", "goes", "(I)Z"⟩ ⟨"SafeSweepsModel", "goes", "(I)Z"⟩ ∈ kw_tbl := List.mem_filter.mpr ⟨List.mem_of_getElem? (l := lw_tbl) (i := 32) rfl, rfl⟩
set_option maxRecDepth 100000 in
theorem ks_33 : Cond.selects "SafeSweepsModel" ⟨"SafeSweepsModel", "keptBy", "(I)I"⟩ ⟨"SafeSweepsModel", "keptBy", "(I)I"⟩ ∈ kw_tbl := List.mem_filter.mpr ⟨List.mem_of_getElem? (l := lw_tbl) (i := 33) rfl, rfl⟩
set_option maxRecDepth 100000 in
theorem ks_34 : Cond.selects "SafeSweepsModel" ⟨"SafeSweepsModel", "behind", "(I)I"⟩ ⟨"SafeSweepsModel", "behind", "(I)I"⟩ ∈ kw_tbl := List.mem_filter.mpr ⟨List.mem_of_getElem? (l := lw_tbl) (i := 34) rfl, rfl⟩
set_option maxRecDepth 100000 in
theorem ks_35 : Cond.selects "SafeSweepsModel" ⟨"SafeSweepsModel", "spanKeeps", "(II)Z"⟩ ⟨"SafeSweepsModel", "spanKeeps", "(II)Z"⟩ ∈ kw_tbl := List.mem_filter.mpr ⟨List.mem_of_getElem? (l := lw_tbl) (i := 35) rfl, rfl⟩
set_option maxRecDepth 100000 in
theorem ks_36 : Cond.selects "SafeSweepsModel" ⟨"SafeSweepsModel", "spanOf", "(JI)J"⟩ ⟨"SafeSweepsModel", "spanOf", "(JI)J"⟩ ∈ kw_tbl := List.mem_filter.mpr ⟨List.mem_of_getElem? (l := lw_tbl) (i := 36) rfl, rfl⟩
set_option maxRecDepth 100000 in
theorem ks_37 : Cond.selects "SafeSweepsModel" ⟨"SafeSweepsModel", "push", "(I)V"⟩ ⟨"SafeSweepsModel", "push", "(I)V"⟩ ∈ kw_tbl := List.mem_filter.mpr ⟨List.mem_of_getElem? (l := lw_tbl) (i := 37) rfl, rfl⟩
set_option maxRecDepth 100000 in
theorem ks_38 : Cond.selects "SafeSweepsModel" ⟨"SafeSweepsModel", "settle", "()V"⟩ ⟨"SafeSweepsModel", "settle", "()V"⟩ ∈ kw_tbl := List.mem_filter.mpr ⟨List.mem_of_getElem? (l := lw_tbl) (i := 38) rfl, rfl⟩
set_option maxRecDepth 100000 in
theorem ks_39 : Cond.selects "SafeSweepsModel" ⟨"SafeSweepsModel", "mark", "()V"⟩ ⟨"SafeSweepsModel", "mark", "()V"⟩ ∈ kw_tbl := List.mem_filter.mpr ⟨List.mem_of_getElem? (l := lw_tbl) (i := 39) rfl, rfl⟩
set_option maxRecDepth 100000 in
theorem ks_40 : Cond.selects "SafeSweepsModel" ⟨"SafeSweepsModel", "clear", "()Z"⟩ ⟨"SafeSweepsModel", "clear", "()Z"⟩ ∈ kw_tbl := List.mem_filter.mpr ⟨List.mem_of_getElem? (l := lw_tbl) (i := 40) rfl, rfl⟩
set_option maxRecDepth 100000 in
theorem ks_41 : Cond.selects "SafeSweepsModel" ⟨"SafeSweepsModel", "choose", "()Z"⟩ ⟨"SafeSweepsModel", "choose", "()Z"⟩ ∈ kw_tbl := List.mem_filter.mpr ⟨List.mem_of_getElem? (l := lw_tbl) (i := 41) rfl, rfl⟩
set_option maxRecDepth 100000 in
theorem ks_42 : Cond.selects "SafeSweepsModel" ⟨"SafeSweepsModel", "packStep", "()Z"⟩ ⟨"SafeSweepsModel", "packStep", "()Z"⟩ ∈ kw_tbl := List.mem_filter.mpr ⟨List.mem_of_getElem? (l := lw_tbl) (i := 42) rfl, rfl⟩
set_option maxRecDepth 100000 in
theorem ks_43 : Cond.selects "SafeSweepsModel" ⟨"SafeSweepsModel", "bytesIn", "(I)I"⟩ ⟨"SafeSweepsModel", "bytesIn", "(I)I"⟩ ∈ kw_tbl := List.mem_filter.mpr ⟨List.mem_of_getElem? (l := lw_tbl) (i := 43) rfl, rfl⟩
set_option maxRecDepth 100000 in
theorem ks_44 : Cond.selects "SafeSweepsModel" ⟨"SafeSweepsModel", "blocksIn", "(I)I"⟩ ⟨"SafeSweepsModel", "blocksIn", "(I)I"⟩ ∈ kw_tbl := List.mem_filter.mpr ⟨List.mem_of_getElem? (l := lw_tbl) (i := 44) rfl, rfl⟩
set_option maxRecDepth 100000 in
theorem ks_45 : Cond.selects "SafeSweepsModel" ⟨"SafeSweepsModel", "plan", "(II)I"⟩ ⟨"SafeSweepsModel", "plan", "(II)I"⟩ ∈ kw_tbl := List.mem_filter.mpr ⟨List.mem_of_getElem? (l := lw_tbl) (i := 45) rfl, rfl⟩
set_option maxRecDepth 100000 in
theorem ks_46 : Cond.selects "SafeSweepsModel" ⟨"SafeSweepsModel", "usersOf", "(I)I"⟩ ⟨"SafeSweepsModel", "usersOf", "(I)I"⟩ ∈ kw_tbl := List.mem_filter.mpr ⟨List.mem_of_getElem? (l := lw_tbl) (i := 46) rfl, rfl⟩
set_option maxRecDepth 100000 in
theorem ks_47 : Cond.selects "SafeSweepsModel" ⟨"SafeSweepsModel", "isMirror", "(I)Z"⟩ ⟨"SafeSweepsModel", "isMirror", "(I)Z"⟩ ∈ kw_tbl := List.mem_filter.mpr ⟨List.mem_of_getElem? (l := lw_tbl) (i := 47) rfl, rfl⟩
set_option maxRecDepth 100000 in
theorem ks_48 : Cond.selects "SafeSweepsModel" ⟨"SafeSweepsModel", "mirrorHas", "(III)Z"⟩ ⟨"SafeSweepsModel", "mirrorHas", "(III)Z"⟩ ∈ kw_tbl := List.mem_filter.mpr ⟨List.mem_of_getElem? (l := lw_tbl) (i := 48) rfl, rfl⟩
set_option maxRecDepth 100000 in
theorem ks_49 : Cond.selects "SafeSweepsModel" ⟨"SafeSweepsModel", "lacks", "(II)Z"⟩ ⟨"SafeSweepsModel", "lacks", "(II)Z"⟩ ∈ kw_tbl := List.mem_filter.mpr ⟨List.mem_of_getElem? (l := lw_tbl) (i := 49) rfl, rfl⟩
set_option maxRecDepth 100000 in
theorem ks_50 : Cond.selects "SafeSweepsModel" ⟨"SafeSweepsModel", "wrongPlaces", "()I"⟩ ⟨"SafeSweepsModel", "wrongPlaces", "()I"⟩ ∈ kw_tbl := List.mem_filter.mpr ⟨List.mem_of_getElem? (l := lw_tbl) (i := 50) rfl, rfl⟩
set_option maxRecDepth 100000 in
theorem ks_51 : Cond.selects "SafeSweepsModel" ⟨"SafeSweepsModel", "lostFrom", "(I)I"⟩ ⟨"SafeSweepsModel", "lostFrom", "(I)I"⟩ ∈ kw_tbl := List.mem_filter.mpr ⟨List.mem_of_getElem? (l := lw_tbl) (i := 51) rfl, rfl⟩
end
section
theorem kl_X0 : ∀ k, k < 8 → u_lay RX0 TX0 k ∈ kw_tbl := fun k hk => match k, hk with
  | 0, _ => kt_423
  | 1, _ => kt_425
  | 2, _ => kt_427
  | 3, _ => kt_429
  | 4, _ => kt_431
  | 5, _ => kt_433
  | 6, _ => kt_435
  | 7, _ => kt_437
  | k + 8, h => absurd h (by omega)
theorem kc_X0 : kw_CD 0 RX0 TX0 8 tyX0 := ⟨rfl, fun w hw => by obtain ⟨k, hk, rfl⟩ := List.mem_map.mp hw; exact kl_X0 k (List.mem_range.mp hk), tyX0_ok, nmX0, by decide +kernel⟩
theorem kl_X2 : ∀ k, k < 6 → u_lay RX2 TX2 k ∈ kw_tbl := fun k hk => match k, hk with
  | 0, _ => kt_44
  | 1, _ => kt_46
  | 2, _ => kt_48
  | 3, _ => kt_50
  | 4, _ => kt_52
  | 5, _ => kt_54
  | k + 6, h => absurd h (by omega)
theorem kc_X2 : kw_CD 1 RX2 TX2 6 tyX2 := ⟨rfl, fun w hw => by obtain ⟨k, hk, rfl⟩ := List.mem_map.mp hw; exact kl_X2 k (List.mem_range.mp hk), tyX2_ok, nmX2, by decide +kernel⟩
theorem kl_X3 : ∀ k, k < 3 → u_lay RX3 TX3 k ∈ kw_tbl := fun k hk => match k, hk with
  | 0, _ => kt_258
  | 1, _ => kt_260
  | 2, _ => kt_262
  | k + 3, h => absurd h (by omega)
theorem kc_X3 : kw_CD 2 RX3 TX3 3 tyX3 := ⟨rfl, fun w hw => by obtain ⟨k, hk, rfl⟩ := List.mem_map.mp hw; exact kl_X3 k (List.mem_range.mp hk), tyX3_ok, nmX3, by decide +kernel⟩
theorem kl_X4 : ∀ k, k < 6 → u_lay RX4 TX4 k ∈ kw_tbl := fun k hk => match k, hk with
  | 0, _ => kt_140
  | 1, _ => kt_142
  | 2, _ => kt_144
  | 3, _ => kt_146
  | 4, _ => kt_148
  | 5, _ => kt_150
  | k + 6, h => absurd h (by omega)
theorem kc_X4 : kw_CD 3 RX4 TX4 6 tyX4 := ⟨rfl, fun w hw => by obtain ⟨k, hk, rfl⟩ := List.mem_map.mp hw; exact kl_X4 k (List.mem_range.mp hk), tyX4_ok, nmX4, by decide +kernel⟩
theorem kl_X5 : ∀ k, k < 3 → u_lay RX5 TX5 k ∈ kw_tbl := fun k hk => match k, hk with
  | 0, _ => kt_458
  | 1, _ => kt_460
  | 2, _ => kt_462
  | k + 3, h => absurd h (by omega)
theorem kc_X5 : kw_CD 4 RX5 TX5 3 tyX5 := ⟨rfl, fun w hw => by obtain ⟨k, hk, rfl⟩ := List.mem_map.mp hw; exact kl_X5 k (List.mem_range.mp hk), tyX5_ok, nmX5, by decide +kernel⟩
theorem kl_X6 : ∀ k, k < 2 → u_lay RX6 TX6 k ∈ kw_tbl := fun k hk => match k, hk with
  | 0, _ => kt_204
  | 1, _ => kt_206
  | k + 2, h => absurd h (by omega)
theorem kc_X6 : kw_CD 5 RX6 TX6 2 tyX6 := ⟨rfl, fun w hw => by obtain ⟨k, hk, rfl⟩ := List.mem_map.mp hw; exact kl_X6 k (List.mem_range.mp hk), tyX6_ok, nmX6, by decide +kernel⟩
theorem kl_X7 : ∀ k, k < 7 → u_lay RX7 TX7 k ∈ kw_tbl := fun k hk => match k, hk with
  | 0, _ => kt_228
  | 1, _ => kt_230
  | 2, _ => kt_232
  | 3, _ => kt_234
  | 4, _ => kt_236
  | 5, _ => kt_238
  | 6, _ => kt_240
  | k + 7, h => absurd h (by omega)
theorem kc_X7 : kw_CD 6 RX7 TX7 7 tyX7 := ⟨rfl, fun w hw => by obtain ⟨k, hk, rfl⟩ := List.mem_map.mp hw; exact kl_X7 k (List.mem_range.mp hk), tyX7_ok, nmX7, by decide +kernel⟩
theorem kl_X8 : ∀ k, k < 4 → u_lay RX8 TX8 k ∈ kw_tbl := fun k hk => match k, hk with
  | 0, _ => kt_547
  | 1, _ => kt_549
  | 2, _ => kt_551
  | 3, _ => kt_553
  | k + 4, h => absurd h (by omega)
theorem kc_X8 : kw_CD 7 RX8 TX8 4 tyX8 := ⟨rfl, fun w hw => by obtain ⟨k, hk, rfl⟩ := List.mem_map.mp hw; exact kl_X8 k (List.mem_range.mp hk), tyX8_ok, nmX8, by decide +kernel⟩
theorem kl_X9 : ∀ k, k < 10 → u_lay RX9 TX9 k ∈ kw_tbl := fun k hk => match k, hk with
  | 0, _ => kt_100
  | 1, _ => kt_102
  | 2, _ => kt_104
  | 3, _ => kt_106
  | 4, _ => kt_108
  | 5, _ => kt_110
  | 6, _ => kt_112
  | 7, _ => kt_114
  | 8, _ => kt_116
  | 9, _ => kt_118
  | k + 10, h => absurd h (by omega)
theorem kc_X9 : kw_CD 8 RX9 TX9 10 tyX9 := ⟨rfl, fun w hw => by obtain ⟨k, hk, rfl⟩ := List.mem_map.mp hw; exact kl_X9 k (List.mem_range.mp hk), tyX9_ok, nmX9, by decide +kernel⟩
theorem kl_X10 : ∀ k, k < 11 → u_lay RX10 TX10 k ∈ kw_tbl := fun k hk => match k, hk with
  | 0, _ => kt_171
  | 1, _ => kt_173
  | 2, _ => kt_175
  | 3, _ => kt_177
  | 4, _ => kt_179
  | 5, _ => kt_181
  | 6, _ => kt_183
  | 7, _ => kt_185
  | 8, _ => kt_187
  | 9, _ => kt_189
  | 10, _ => kt_191
  | k + 11, h => absurd h (by omega)
theorem kc_X10 : kw_CD 9 RX10 TX10 11 tyX10 := ⟨rfl, fun w hw => by obtain ⟨k, hk, rfl⟩ := List.mem_map.mp hw; exact kl_X10 k (List.mem_range.mp hk), tyX10_ok, nmX10, by decide +kernel⟩
theorem kl_X11 : ∀ k, k < 10 → u_lay RX11 TX11 k ∈ kw_tbl := fun k hk => match k, hk with
  | 0, _ => kt_276
  | 1, _ => kt_278
  | 2, _ => kt_280
  | 3, _ => kt_282
  | 4, _ => kt_284
  | 5, _ => kt_286
  | 6, _ => kt_288
  | 7, _ => kt_290
  | 8, _ => kt_292
  | 9, _ => kt_294
  | k + 10, h => absurd h (by omega)
theorem kc_X11 : kw_CD 10 RX11 TX11 10 tyX11 := ⟨rfl, fun w hw => by obtain ⟨k, hk, rfl⟩ := List.mem_map.mp hw; exact kl_X11 k (List.mem_range.mp hk), tyX11_ok, nmX11, by decide +kernel⟩
theorem kl_X12 : ∀ k, k < 54 → u_lay RX12 TX12 k ∈ kw_tbl := fun k hk => match k, hk with
  | 0, _ => kt_945
  | 1, _ => kt_947
  | 2, _ => kt_949
  | 3, _ => kt_951
  | 4, _ => kt_953
  | 5, _ => kt_955
  | 6, _ => kt_957
  | 7, _ => kt_959
  | 8, _ => kt_961
  | 9, _ => kt_963
  | 10, _ => kt_965
  | 11, _ => kt_967
  | 12, _ => kt_969
  | 13, _ => kt_971
  | 14, _ => kt_973
  | 15, _ => kt_975
  | 16, _ => kt_977
  | 17, _ => kt_979
  | 18, _ => kt_981
  | 19, _ => kt_983
  | 20, _ => kt_985
  | 21, _ => kt_987
  | 22, _ => kt_989
  | 23, _ => kt_991
  | 24, _ => kt_993
  | 25, _ => kt_995
  | 26, _ => kt_997
  | 27, _ => kt_999
  | 28, _ => kt_1001
  | 29, _ => kt_1003
  | 30, _ => kt_1005
  | 31, _ => kt_1007
  | 32, _ => kt_1009
  | 33, _ => kt_1011
  | 34, _ => kt_1013
  | 35, _ => kt_1015
  | 36, _ => kt_1017
  | 37, _ => kt_1019
  | 38, _ => kt_1021
  | 39, _ => kt_1023
  | 40, _ => kt_1025
  | 41, _ => kt_1027
  | 42, _ => kt_1029
  | 43, _ => kt_1031
  | 44, _ => kt_1033
  | 45, _ => kt_1035
  | 46, _ => kt_1037
  | 47, _ => kt_1039
  | 48, _ => kt_1041
  | 49, _ => kt_1043
  | 50, _ => kt_1045
  | 51, _ => kt_1047
  | 52, _ => kt_1049
  | 53, _ => kt_1051
  | k + 54, h => absurd h (by omega)
theorem kc_X12 : kw_CD 11 RX12 TX12 54 tyX12 := ⟨rfl, fun w hw => by obtain ⟨k, hk, rfl⟩ := List.mem_map.mp hw; exact kl_X12 k (List.mem_range.mp hk), tyX12_ok, nmX12, by decide +kernel⟩
theorem fl_X2_11 : kw_FL RX2 11 1 0 (.array .int) true := ⟨_, _, _, _, kc_X2, by decide, rfl, rfl, kt_31⟩
theorem fl_X3_33 : kw_FL RX3 33 1 0 (.array .int) true := ⟨_, _, _, _, kc_X2, by decide, rfl, rfl, kt_32⟩
theorem fl_X2_15 : kw_FL RX2 15 1 1 (.array .int) true := ⟨_, _, _, _, kc_X2, by decide, rfl, rfl, kt_33⟩
theorem fl_X3_37 : kw_FL RX3 37 1 1 (.array .int) true := ⟨_, _, _, _, kc_X2, by decide, rfl, rfl, kt_34⟩
theorem fl_X3_18 : kw_FL RX3 18 1 2 .int false := ⟨_, _, _, _, kc_X2, by decide, rfl, rfl, kt_35⟩
theorem fl_X2_33 : kw_FL RX2 33 1 2 .int false := ⟨_, _, _, _, kc_X2, by decide, rfl, rfl, kt_36⟩
theorem fl_X11_268 : kw_FL RX11 268 1 2 .int false := ⟨_, _, _, _, kc_X2, by decide, rfl, rfl, kt_37⟩
theorem fl_X2_26 : kw_FL RX2 26 1 3 .int false := ⟨_, _, _, _, kc_X2, by decide, rfl, rfl, kt_38⟩
theorem fl_X11_289 : kw_FL RX11 289 1 3 .int false := ⟨_, _, _, _, kc_X2, by decide, rfl, rfl, kt_39⟩
theorem fl_X2_18 : kw_FL RX2 18 1 4 .int false := ⟨_, _, _, _, kc_X2, by decide, rfl, rfl, kt_40⟩
theorem fl_X11_258 : kw_FL RX11 258 1 4 .int false := ⟨_, _, _, _, kc_X2, by decide, rfl, rfl, kt_41⟩
theorem fl_X11_80 : kw_FL RX11 80 1 5 .boolean false := ⟨_, _, _, _, kc_X2, by decide, rfl, rfl, kt_42⟩
theorem fl_X2_22 : kw_FL RX2 22 1 5 .boolean false := ⟨_, _, _, _, kc_X2, by decide, rfl, rfl, kt_43⟩
theorem fl_X9_27 : kw_FL RX9 27 8 0 .int true := ⟨_, _, _, _, kc_X9, by decide, rfl, rfl, kt_74⟩
theorem fl_X11_116 : kw_FL RX11 116 8 0 .int true := ⟨_, _, _, _, kc_X9, by decide, rfl, rfl, kt_75⟩
theorem fl_X4_96 : kw_FL RX4 96 8 0 .int true := ⟨_, _, _, _, kc_X9, by decide, rfl, rfl, kt_76⟩
theorem fl_X9_31 : kw_FL RX9 31 8 1 (.object "SafeSweeps$Journal") true := ⟨_, _, _, _, kc_X9, by decide, rfl, rfl, kt_77⟩
theorem fl_X9_11 : kw_FL RX9 11 8 2 (.array (.object "SafeSweeps$Block")) true := ⟨_, _, _, _, kc_X9, by decide, rfl, rfl, kt_78⟩
theorem fl_X10_52 : kw_FL RX10 52 8 2 (.array (.object "SafeSweeps$Block")) true := ⟨_, _, _, _, kc_X9, by decide, rfl, rfl, kt_79⟩
theorem fl_X4_77 : kw_FL RX4 77 8 2 (.array (.object "SafeSweeps$Block")) true := ⟨_, _, _, _, kc_X9, by decide, rfl, rfl, kt_80⟩
theorem fl_X11_295 : kw_FL RX11 295 8 2 (.array (.object "SafeSweeps$Block")) true := ⟨_, _, _, _, kc_X9, by decide, rfl, rfl, kt_81⟩
theorem fl_X9_19 : kw_FL RX9 19 8 3 (.array (.object "SafeSweeps$Pack")) true := ⟨_, _, _, _, kc_X9, by decide, rfl, rfl, kt_82⟩
theorem fl_X4_29 : kw_FL RX4 29 8 3 (.array (.object "SafeSweeps$Pack")) true := ⟨_, _, _, _, kc_X9, by decide, rfl, rfl, kt_83⟩
theorem fl_X11_326 : kw_FL RX11 326 8 3 (.array (.object "SafeSweeps$Pack")) true := ⟨_, _, _, _, kc_X9, by decide, rfl, rfl, kt_84⟩
theorem fl_X9_23 : kw_FL RX9 23 8 4 (.array .boolean) true := ⟨_, _, _, _, kc_X9, by decide, rfl, rfl, kt_85⟩
theorem fl_X9_35 : kw_FL RX9 35 8 5 .int false := ⟨_, _, _, _, kc_X9, by decide, rfl, rfl, kt_86⟩
theorem fl_X10_44 : kw_FL RX10 44 8 5 .int false := ⟨_, _, _, _, kc_X9, by decide, rfl, rfl, kt_87⟩
theorem fl_X4_67 : kw_FL RX4 67 8 5 .int false := ⟨_, _, _, _, kc_X9, by decide, rfl, rfl, kt_88⟩
theorem fl_X11_274 : kw_FL RX11 274 8 5 .int false := ⟨_, _, _, _, kc_X9, by decide, rfl, rfl, kt_89⟩
theorem fl_X9_91 : kw_FL RX9 91 8 6 .int false := ⟨_, _, _, _, kc_X9, by decide, rfl, rfl, kt_90⟩
theorem fl_X11_277 : kw_FL RX11 277 8 6 .int false := ⟨_, _, _, _, kc_X9, by decide, rfl, rfl, kt_91⟩
theorem fl_X9_111 : kw_FL RX9 111 8 7 .int false := ⟨_, _, _, _, kc_X9, by decide, rfl, rfl, kt_92⟩
theorem fl_X11_292 : kw_FL RX11 292 8 7 .int false := ⟨_, _, _, _, kc_X9, by decide, rfl, rfl, kt_93⟩
theorem fl_X4_86 : kw_FL RX4 86 8 8 .int false := ⟨_, _, _, _, kc_X9, by decide, rfl, rfl, kt_94⟩
theorem fl_X9_56 : kw_FL RX9 56 8 8 .int false := ⟨_, _, _, _, kc_X9, by decide, rfl, rfl, kt_95⟩
theorem fl_X10_88 : kw_FL RX10 88 8 8 .int false := ⟨_, _, _, _, kc_X9, by decide, rfl, rfl, kt_96⟩
theorem fl_X11_280 : kw_FL RX11 280 8 8 .int false := ⟨_, _, _, _, kc_X9, by decide, rfl, rfl, kt_97⟩
theorem fl_X4_103 : kw_FL RX4 103 8 9 .int false := ⟨_, _, _, _, kc_X9, by decide, rfl, rfl, kt_98⟩
theorem fl_X11_283 : kw_FL RX11 283 8 9 .int false := ⟨_, _, _, _, kc_X9, by decide, rfl, rfl, kt_99⟩
theorem fl_X4_21 : kw_FL RX4 21 3 0 (.object "SafeSweeps$Store") true := ⟨_, _, _, _, kc_X4, by decide, rfl, rfl, kt_134⟩
theorem fl_X4_25 : kw_FL RX4 25 3 1 (.object "SafeSweeps$Journal") true := ⟨_, _, _, _, kc_X4, by decide, rfl, rfl, kt_135⟩
theorem fl_X4_9 : kw_FL RX4 9 3 2 (.array .int) true := ⟨_, _, _, _, kc_X4, by decide, rfl, rfl, kt_136⟩
theorem fl_X4_15 : kw_FL RX4 15 3 3 (.array .int) true := ⟨_, _, _, _, kc_X4, by decide, rfl, rfl, kt_137⟩
theorem fl_X4_18 : kw_FL RX4 18 3 4 (.array .int) true := ⟨_, _, _, _, kc_X4, by decide, rfl, rfl, kt_138⟩
theorem fl_X4_55 : kw_FL RX4 55 3 5 .int false := ⟨_, _, _, _, kc_X4, by decide, rfl, rfl, kt_139⟩
theorem fl_X10_19 : kw_FL RX10 19 9 0 (.object "SafeSweeps$Store") true := ⟨_, _, _, _, kc_X10, by decide, rfl, rfl, kt_153⟩
theorem fl_X10_28 : kw_FL RX10 28 9 1 (.object "SafeSweeps$Mover") true := ⟨_, _, _, _, kc_X10, by decide, rfl, rfl, kt_154⟩
theorem fl_X10_11 : kw_FL RX10 11 9 2 (.array .int) true := ⟨_, _, _, _, kc_X10, by decide, rfl, rfl, kt_155⟩
theorem fl_X10_38 : kw_FL RX10 38 9 3 .int false := ⟨_, _, _, _, kc_X10, by decide, rfl, rfl, kt_156⟩
theorem fl_X11_351 : kw_FL RX11 351 9 3 .int false := ⟨_, _, _, _, kc_X10, by decide, rfl, rfl, kt_157⟩
theorem fl_X10_41 : kw_FL RX10 41 9 4 .int false := ⟨_, _, _, _, kc_X10, by decide, rfl, rfl, kt_158⟩
theorem fl_X11_348 : kw_FL RX11 348 9 4 .int false := ⟨_, _, _, _, kc_X10, by decide, rfl, rfl, kt_159⟩
theorem fl_X10_35 : kw_FL RX10 35 9 5 .int false := ⟨_, _, _, _, kc_X10, by decide, rfl, rfl, kt_160⟩
theorem fl_X11_226 : kw_FL RX11 226 9 5 .int false := ⟨_, _, _, _, kc_X10, by decide, rfl, rfl, kt_161⟩
theorem fl_X10_32 : kw_FL RX10 32 9 6 .int false := ⟨_, _, _, _, kc_X10, by decide, rfl, rfl, kt_162⟩
theorem fl_X11_249 : kw_FL RX11 249 9 6 .int false := ⟨_, _, _, _, kc_X10, by decide, rfl, rfl, kt_163⟩
theorem fl_X10_49 : kw_FL RX10 49 9 7 .int false := ⟨_, _, _, _, kc_X10, by decide, rfl, rfl, kt_164⟩
theorem fl_X11_354 : kw_FL RX11 354 9 7 .int false := ⟨_, _, _, _, kc_X10, by decide, rfl, rfl, kt_165⟩
theorem fl_X10_85 : kw_FL RX10 85 9 8 .int false := ⟨_, _, _, _, kc_X10, by decide, rfl, rfl, kt_166⟩
theorem fl_X11_357 : kw_FL RX11 357 9 8 .int false := ⟨_, _, _, _, kc_X10, by decide, rfl, rfl, kt_167⟩
theorem fl_X10_91 : kw_FL RX10 91 9 9 .int false := ⟨_, _, _, _, kc_X10, by decide, rfl, rfl, kt_168⟩
theorem fl_X10_15 : kw_FL RX10 15 9 10 .int false := ⟨_, _, _, _, kc_X10, by decide, rfl, rfl, kt_169⟩
theorem fl_X11_255 : kw_FL RX11 255 9 10 .int false := ⟨_, _, _, _, kc_X10, by decide, rfl, rfl, kt_170⟩
theorem fl_X6_9 : kw_FL RX6 9 5 0 (.array .int) true := ⟨_, _, _, _, kc_X6, by decide, rfl, rfl, kt_200⟩
theorem fl_X11_210 : kw_FL RX11 210 5 0 (.array .int) true := ⟨_, _, _, _, kc_X6, by decide, rfl, rfl, kt_201⟩
theorem fl_X6_15 : kw_FL RX6 15 5 1 (.array .int) true := ⟨_, _, _, _, kc_X6, by decide, rfl, rfl, kt_202⟩
theorem fl_X11_217 : kw_FL RX11 217 5 1 (.array .int) true := ⟨_, _, _, _, kc_X6, by decide, rfl, rfl, kt_203⟩
theorem fl_X7_9 : kw_FL RX7 9 6 0 (.array .int) true := ⟨_, _, _, _, kc_X7, by decide, rfl, rfl, kt_216⟩
theorem fl_X11_190 : kw_FL RX11 190 6 0 (.array .int) true := ⟨_, _, _, _, kc_X7, by decide, rfl, rfl, kt_217⟩
theorem fl_X7_15 : kw_FL RX7 15 6 1 (.array .int) true := ⟨_, _, _, _, kc_X7, by decide, rfl, rfl, kt_218⟩
theorem fl_X11_119 : kw_FL RX11 119 6 1 (.array .int) true := ⟨_, _, _, _, kc_X7, by decide, rfl, rfl, kt_219⟩
theorem fl_X7_22 : kw_FL RX7 22 6 2 .int false := ⟨_, _, _, _, kc_X7, by decide, rfl, rfl, kt_220⟩
theorem fl_X11_135 : kw_FL RX11 135 6 2 .int false := ⟨_, _, _, _, kc_X7, by decide, rfl, rfl, kt_221⟩
theorem fl_X7_26 : kw_FL RX7 26 6 3 .int false := ⟨_, _, _, _, kc_X7, by decide, rfl, rfl, kt_222⟩
theorem fl_X11_112 : kw_FL RX11 112 6 3 .int false := ⟨_, _, _, _, kc_X7, by decide, rfl, rfl, kt_223⟩
theorem fl_X7_29 : kw_FL RX7 29 6 4 .int false := ⟨_, _, _, _, kc_X7, by decide, rfl, rfl, kt_224⟩
theorem fl_X7_36 : kw_FL RX7 36 6 5 .long false := ⟨_, _, _, _, kc_X7, by decide, rfl, rfl, kt_225⟩
theorem fl_X7_18 : kw_FL RX7 18 6 6 .boolean false := ⟨_, _, _, _, kc_X7, by decide, rfl, rfl, kt_226⟩
theorem fl_X11_87 : kw_FL RX11 87 6 6 .boolean false := ⟨_, _, _, _, kc_X7, by decide, rfl, rfl, kt_227⟩
theorem fl_X3_9 : kw_FL RX3 9 2 0 (.array .boolean) true := ⟨_, _, _, _, kc_X3, by decide, rfl, rfl, kt_252⟩
theorem fl_X11_381 : kw_FL RX11 381 2 0 (.array .boolean) true := ⟨_, _, _, _, kc_X3, by decide, rfl, rfl, kt_253⟩
theorem fl_X3_15 : kw_FL RX3 15 2 1 (.array .boolean) true := ⟨_, _, _, _, kc_X3, by decide, rfl, rfl, kt_254⟩
theorem fl_X11_388 : kw_FL RX11 388 2 1 (.array .boolean) true := ⟨_, _, _, _, kc_X3, by decide, rfl, rfl, kt_255⟩
theorem fl_X3_24 : kw_FL RX3 24 2 2 .int false := ⟨_, _, _, _, kc_X3, by decide, rfl, rfl, kt_256⟩
theorem fl_X11_271 : kw_FL RX11 271 2 2 .int false := ⟨_, _, _, _, kc_X3, by decide, rfl, rfl, kt_257⟩
theorem fl_X11_10 : kw_FL RX11 10 10 0 (.object "SafeSweeps$Journal") true := ⟨_, _, _, _, kc_X11, by decide, rfl, rfl, kt_266⟩
theorem fl_X11_30 : kw_FL RX11 30 10 1 (.object "SafeSweeps$Store") true := ⟨_, _, _, _, kc_X11, by decide, rfl, rfl, kt_267⟩
theorem fl_X11_39 : kw_FL RX11 39 10 2 (.object "SafeSweeps$Sweep") true := ⟨_, _, _, _, kc_X11, by decide, rfl, rfl, kt_268⟩
theorem fl_X11_46 : kw_FL RX11 46 10 3 (.object "SafeSweeps$Rules") true := ⟨_, _, _, _, kc_X11, by decide, rfl, rfl, kt_269⟩
theorem fl_X11_52 : kw_FL RX11 52 10 4 (.array (.object "SafeSweeps$Saver")) true := ⟨_, _, _, _, kc_X11, by decide, rfl, rfl, kt_270⟩
theorem fl_X11_59 : kw_FL RX11 59 10 5 (.array (.object "SafeSweeps$Snapshot")) true := ⟨_, _, _, _, kc_X11, by decide, rfl, rfl, kt_271⟩
theorem fl_X11_65 : kw_FL RX11 65 10 6 (.array (.object "SafeSweeps$Mirror")) true := ⟨_, _, _, _, kc_X11, by decide, rfl, rfl, kt_272⟩
theorem fl_X11_70 : kw_FL RX11 70 10 7 (.object "SafeSweeps$Mirror") true := ⟨_, _, _, _, kc_X11, by decide, rfl, rfl, kt_273⟩
theorem fl_X11_180 : kw_FL RX11 180 10 8 .int false := ⟨_, _, _, _, kc_X11, by decide, rfl, rfl, kt_274⟩
theorem fl_X11_76 : kw_FL RX11 76 10 9 .long false := ⟨_, _, _, _, kc_X11, by decide, rfl, rfl, kt_275⟩
theorem fl_X0_7 : kw_FL RX0 7 0 0 .long true := ⟨_, _, _, _, kc_X0, by decide, rfl, rfl, kt_399⟩
theorem fl_X11_323 : kw_FL RX11 323 0 0 .long true := ⟨_, _, _, _, kc_X0, by decide, rfl, rfl, kt_400⟩
theorem fl_X0_13 : kw_FL RX0 13 0 1 .int true := ⟨_, _, _, _, kc_X0, by decide, rfl, rfl, kt_401⟩
theorem fl_X4_93 : kw_FL RX4 93 0 1 .int true := ⟨_, _, _, _, kc_X0, by decide, rfl, rfl, kt_402⟩
theorem fl_X9_85 : kw_FL RX9 85 0 1 .int true := ⟨_, _, _, _, kc_X0, by decide, rfl, rfl, kt_403⟩
theorem fl_X11_304 : kw_FL RX11 304 0 1 .int true := ⟨_, _, _, _, kc_X0, by decide, rfl, rfl, kt_404⟩
theorem fl_X0_17 : kw_FL RX0 17 0 2 (.array .int) true := ⟨_, _, _, _, kc_X0, by decide, rfl, rfl, kt_405⟩
theorem fl_X10_94 : kw_FL RX10 94 0 2 (.array .int) true := ⟨_, _, _, _, kc_X0, by decide, rfl, rfl, kt_406⟩
theorem fl_X9_101 : kw_FL RX9 101 0 2 (.array .int) true := ⟨_, _, _, _, kc_X0, by decide, rfl, rfl, kt_407⟩
theorem fl_X11_322 : kw_FL RX11 322 0 2 (.array .int) true := ⟨_, _, _, _, kc_X0, by decide, rfl, rfl, kt_408⟩
theorem fl_X9_49 : kw_FL RX9 49 0 3 .int false := ⟨_, _, _, _, kc_X0, by decide, rfl, rfl, kt_409⟩
theorem fl_X11_307 : kw_FL RX11 307 0 3 .int false := ⟨_, _, _, _, kc_X0, by decide, rfl, rfl, kt_410⟩
theorem fl_X4_81 : kw_FL RX4 81 0 4 .int false := ⟨_, _, _, _, kc_X0, by decide, rfl, rfl, kt_411⟩
theorem fl_X9_82 : kw_FL RX9 82 0 4 .int false := ⟨_, _, _, _, kc_X0, by decide, rfl, rfl, kt_412⟩
theorem fl_X11_310 : kw_FL RX11 310 0 4 .int false := ⟨_, _, _, _, kc_X0, by decide, rfl, rfl, kt_413⟩
theorem fl_X9_42 : kw_FL RX9 42 0 5 .int false := ⟨_, _, _, _, kc_X0, by decide, rfl, rfl, kt_414⟩
theorem fl_X10_101 : kw_FL RX10 101 0 5 .int false := ⟨_, _, _, _, kc_X0, by decide, rfl, rfl, kt_415⟩
theorem fl_X11_313 : kw_FL RX11 313 0 5 .int false := ⟨_, _, _, _, kc_X0, by decide, rfl, rfl, kt_416⟩
theorem fl_X9_38 : kw_FL RX9 38 0 6 .boolean false := ⟨_, _, _, _, kc_X0, by decide, rfl, rfl, kt_417⟩
theorem fl_X10_108 : kw_FL RX10 108 0 6 .boolean false := ⟨_, _, _, _, kc_X0, by decide, rfl, rfl, kt_418⟩
theorem fl_X11_299 : kw_FL RX11 299 0 6 .boolean false := ⟨_, _, _, _, kc_X0, by decide, rfl, rfl, kt_419⟩
theorem fl_X10_56 : kw_FL RX10 56 0 7 .boolean false := ⟨_, _, _, _, kc_X0, by decide, rfl, rfl, kt_420⟩
theorem fl_X9_114 : kw_FL RX9 114 0 7 .boolean false := ⟨_, _, _, _, kc_X0, by decide, rfl, rfl, kt_421⟩
theorem fl_X11_316 : kw_FL RX11 316 0 7 .boolean false := ⟨_, _, _, _, kc_X0, by decide, rfl, rfl, kt_422⟩
theorem fl_X4_44 : kw_FL RX4 44 4 0 .int false := ⟨_, _, _, _, kc_X5, by decide, rfl, rfl, kt_449⟩
theorem fl_X9_62 : kw_FL RX9 62 4 0 .int false := ⟨_, _, _, _, kc_X5, by decide, rfl, rfl, kt_450⟩
theorem fl_X11_333 : kw_FL RX11 333 4 0 .int false := ⟨_, _, _, _, kc_X5, by decide, rfl, rfl, kt_451⟩
theorem fl_X4_40 : kw_FL RX4 40 4 1 .int false := ⟨_, _, _, _, kc_X5, by decide, rfl, rfl, kt_452⟩
theorem fl_X9_88 : kw_FL RX9 88 4 1 .int false := ⟨_, _, _, _, kc_X5, by decide, rfl, rfl, kt_453⟩
theorem fl_X11_336 : kw_FL RX11 336 4 1 .int false := ⟨_, _, _, _, kc_X5, by decide, rfl, rfl, kt_454⟩
theorem fl_X4_34 : kw_FL RX4 34 4 2 .boolean false := ⟨_, _, _, _, kc_X5, by decide, rfl, rfl, kt_455⟩
theorem fl_X9_59 : kw_FL RX9 59 4 2 .boolean false := ⟨_, _, _, _, kc_X5, by decide, rfl, rfl, kt_456⟩
theorem fl_X11_330 : kw_FL RX11 330 4 2 .boolean false := ⟨_, _, _, _, kc_X5, by decide, rfl, rfl, kt_457⟩
theorem fl_X8_7 : kw_FL RX8 7 7 0 .long true := ⟨_, _, _, _, kc_X8, by decide, rfl, rfl, kt_537⟩
theorem fl_X6_32 : kw_FL RX6 32 7 0 .long true := ⟨_, _, _, _, kc_X8, by decide, rfl, rfl, kt_538⟩
theorem fl_X11_345 : kw_FL RX11 345 7 0 .long true := ⟨_, _, _, _, kc_X8, by decide, rfl, rfl, kt_539⟩
theorem fl_X8_13 : kw_FL RX8 13 7 1 .int true := ⟨_, _, _, _, kc_X8, by decide, rfl, rfl, kt_540⟩
theorem fl_X6_24 : kw_FL RX6 24 7 1 .int true := ⟨_, _, _, _, kc_X8, by decide, rfl, rfl, kt_541⟩
theorem fl_X11_342 : kw_FL RX11 342 7 1 .int true := ⟨_, _, _, _, kc_X8, by decide, rfl, rfl, kt_542⟩
theorem fl_X8_17 : kw_FL RX8 17 7 2 (.array .int) true := ⟨_, _, _, _, kc_X8, by decide, rfl, rfl, kt_543⟩
theorem fl_X11_235 : kw_FL RX11 235 7 2 (.array .int) true := ⟨_, _, _, _, kc_X8, by decide, rfl, rfl, kt_544⟩
theorem fl_X6_18 : kw_FL RX6 18 7 3 .boolean false := ⟨_, _, _, _, kc_X8, by decide, rfl, rfl, kt_545⟩
theorem fl_X11_223 : kw_FL RX11 223 7 3 .boolean false := ⟨_, _, _, _, kc_X8, by decide, rfl, rfl, kt_546⟩
theorem fl_X12_124 : kw_FL RX12 124 11 0 .int true := ⟨_, _, _, _, kc_X12, by decide, rfl, rfl, kt_891⟩
theorem fl_X12_9 : kw_FL RX12 9 11 1 .long false := ⟨_, _, _, _, kc_X12, by decide, rfl, rfl, kt_892⟩
theorem fl_X12_127 : kw_FL RX12 127 11 2 .boolean false := ⟨_, _, _, _, kc_X12, by decide, rfl, rfl, kt_893⟩
theorem fl_X12_15 : kw_FL RX12 15 11 3 .int false := ⟨_, _, _, _, kc_X12, by decide, rfl, rfl, kt_894⟩
theorem fl_X12_134 : kw_FL RX12 134 11 4 .int false := ⟨_, _, _, _, kc_X12, by decide, rfl, rfl, kt_895⟩
theorem fl_X12_156 : kw_FL RX12 156 11 5 .int false := ⟨_, _, _, _, kc_X12, by decide, rfl, rfl, kt_896⟩
theorem fl_X12_19 : kw_FL RX12 19 11 6 (.array .long) true := ⟨_, _, _, _, kc_X12, by decide, rfl, rfl, kt_897⟩
theorem fl_X12_23 : kw_FL RX12 23 11 7 (.array .int) true := ⟨_, _, _, _, kc_X12, by decide, rfl, rfl, kt_898⟩
theorem fl_X12_27 : kw_FL RX12 27 11 8 (.array .int) true := ⟨_, _, _, _, kc_X12, by decide, rfl, rfl, kt_899⟩
theorem fl_X12_30 : kw_FL RX12 30 11 9 (.array .int) true := ⟨_, _, _, _, kc_X12, by decide, rfl, rfl, kt_900⟩
theorem fl_X12_33 : kw_FL RX12 33 11 10 (.array .boolean) true := ⟨_, _, _, _, kc_X12, by decide, rfl, rfl, kt_901⟩
theorem fl_X12_37 : kw_FL RX12 37 11 11 (.array .int) true := ⟨_, _, _, _, kc_X12, by decide, rfl, rfl, kt_902⟩
theorem fl_X12_40 : kw_FL RX12 40 11 12 (.array .int) true := ⟨_, _, _, _, kc_X12, by decide, rfl, rfl, kt_903⟩
theorem fl_X12_43 : kw_FL RX12 43 11 13 (.array .int) true := ⟨_, _, _, _, kc_X12, by decide, rfl, rfl, kt_904⟩
theorem fl_X12_212 : kw_FL RX12 212 11 14 .int false := ⟨_, _, _, _, kc_X12, by decide, rfl, rfl, kt_905⟩
theorem fl_X12_285 : kw_FL RX12 285 11 15 .int false := ⟨_, _, _, _, kc_X12, by decide, rfl, rfl, kt_906⟩
theorem fl_X12_178 : kw_FL RX12 178 11 16 .int false := ⟨_, _, _, _, kc_X12, by decide, rfl, rfl, kt_907⟩
theorem fl_X12_46 : kw_FL RX12 46 11 17 (.array .boolean) true := ⟨_, _, _, _, kc_X12, by decide, rfl, rfl, kt_908⟩
theorem fl_X12_49 : kw_FL RX12 49 11 18 (.array .int) true := ⟨_, _, _, _, kc_X12, by decide, rfl, rfl, kt_909⟩
theorem fl_X12_298 : kw_FL RX12 298 11 19 .int false := ⟨_, _, _, _, kc_X12, by decide, rfl, rfl, kt_910⟩
theorem fl_X12_52 : kw_FL RX12 52 11 20 .int false := ⟨_, _, _, _, kc_X12, by decide, rfl, rfl, kt_911⟩
theorem fl_X12_218 : kw_FL RX12 218 11 21 .int false := ⟨_, _, _, _, kc_X12, by decide, rfl, rfl, kt_912⟩
theorem fl_X12_55 : kw_FL RX12 55 11 22 (.array .boolean) true := ⟨_, _, _, _, kc_X12, by decide, rfl, rfl, kt_913⟩
theorem fl_X12_58 : kw_FL RX12 58 11 23 (.array .long) true := ⟨_, _, _, _, kc_X12, by decide, rfl, rfl, kt_914⟩
theorem fl_X12_61 : kw_FL RX12 61 11 24 (.array .int) true := ⟨_, _, _, _, kc_X12, by decide, rfl, rfl, kt_915⟩
theorem fl_X12_64 : kw_FL RX12 64 11 25 (.array .int) true := ⟨_, _, _, _, kc_X12, by decide, rfl, rfl, kt_916⟩
theorem fl_X12_67 : kw_FL RX12 67 11 26 (.array .int) true := ⟨_, _, _, _, kc_X12, by decide, rfl, rfl, kt_917⟩
theorem fl_X12_137 : kw_FL RX12 137 11 27 .int false := ⟨_, _, _, _, kc_X12, by decide, rfl, rfl, kt_918⟩
theorem fl_X12_70 : kw_FL RX12 70 11 28 (.array .int) true := ⟨_, _, _, _, kc_X12, by decide, rfl, rfl, kt_919⟩
theorem fl_X12_73 : kw_FL RX12 73 11 29 (.array .int) true := ⟨_, _, _, _, kc_X12, by decide, rfl, rfl, kt_920⟩
theorem fl_X12_76 : kw_FL RX12 76 11 30 (.array .int) true := ⟨_, _, _, _, kc_X12, by decide, rfl, rfl, kt_921⟩
theorem fl_X12_79 : kw_FL RX12 79 11 31 (.array .boolean) true := ⟨_, _, _, _, kc_X12, by decide, rfl, rfl, kt_922⟩
theorem fl_X12_82 : kw_FL RX12 82 11 32 (.array .int) true := ⟨_, _, _, _, kc_X12, by decide, rfl, rfl, kt_923⟩
theorem fl_X12_85 : kw_FL RX12 85 11 33 (.array .long) true := ⟨_, _, _, _, kc_X12, by decide, rfl, rfl, kt_924⟩
theorem fl_X12_88 : kw_FL RX12 88 11 34 (.array .int) true := ⟨_, _, _, _, kc_X12, by decide, rfl, rfl, kt_925⟩
theorem fl_X12_91 : kw_FL RX12 91 11 35 (.array .int) true := ⟨_, _, _, _, kc_X12, by decide, rfl, rfl, kt_926⟩
theorem fl_X12_94 : kw_FL RX12 94 11 36 (.array .int) true := ⟨_, _, _, _, kc_X12, by decide, rfl, rfl, kt_927⟩
theorem fl_X12_97 : kw_FL RX12 97 11 37 (.array .int) true := ⟨_, _, _, _, kc_X12, by decide, rfl, rfl, kt_928⟩
theorem fl_X12_100 : kw_FL RX12 100 11 38 (.array .int) true := ⟨_, _, _, _, kc_X12, by decide, rfl, rfl, kt_929⟩
theorem fl_X12_276 : kw_FL RX12 276 11 39 .int false := ⟨_, _, _, _, kc_X12, by decide, rfl, rfl, kt_930⟩
theorem fl_X12_131 : kw_FL RX12 131 11 40 .int false := ⟨_, _, _, _, kc_X12, by decide, rfl, rfl, kt_931⟩
theorem fl_X12_103 : kw_FL RX12 103 11 41 (.array .boolean) true := ⟨_, _, _, _, kc_X12, by decide, rfl, rfl, kt_932⟩
theorem fl_X12_106 : kw_FL RX12 106 11 42 (.array .int) true := ⟨_, _, _, _, kc_X12, by decide, rfl, rfl, kt_933⟩
theorem fl_X12_264 : kw_FL RX12 264 11 43 .int false := ⟨_, _, _, _, kc_X12, by decide, rfl, rfl, kt_934⟩
theorem fl_X12_215 : kw_FL RX12 215 11 44 .int false := ⟨_, _, _, _, kc_X12, by decide, rfl, rfl, kt_935⟩
theorem fl_X12_270 : kw_FL RX12 270 11 45 .int false := ⟨_, _, _, _, kc_X12, by decide, rfl, rfl, kt_936⟩
theorem fl_X12_267 : kw_FL RX12 267 11 46 .int false := ⟨_, _, _, _, kc_X12, by decide, rfl, rfl, kt_937⟩
theorem fl_X12_273 : kw_FL RX12 273 11 47 .int false := ⟨_, _, _, _, kc_X12, by decide, rfl, rfl, kt_938⟩
theorem fl_X12_205 : kw_FL RX12 205 11 48 .int false := ⟨_, _, _, _, kc_X12, by decide, rfl, rfl, kt_939⟩
theorem fl_X12_109 : kw_FL RX12 109 11 49 (.array .boolean) true := ⟨_, _, _, _, kc_X12, by decide, rfl, rfl, kt_940⟩
theorem fl_X12_112 : kw_FL RX12 112 11 50 (.array .boolean) true := ⟨_, _, _, _, kc_X12, by decide, rfl, rfl, kt_941⟩
theorem fl_X12_115 : kw_FL RX12 115 11 51 (.array .int) true := ⟨_, _, _, _, kc_X12, by decide, rfl, rfl, kt_942⟩
theorem fl_X12_118 : kw_FL RX12 118 11 52 (.array .int) true := ⟨_, _, _, _, kc_X12, by decide, rfl, rfl, kt_943⟩
theorem fl_X12_121 : kw_FL RX12 121 11 53 (.array .int) true := ⟨_, _, _, _, kc_X12, by decide, rfl, rfl, kt_944⟩
theorem cl_L_15 : kw_CI RL 15 yX11_init cX11_init 3 1 := ⟨⟨kt_1, kt_21, by decide, by decide, by decide +kernel⟩, kt_19, kt_20, rfl⟩
theorem cl_X11_18 : kw_CS RX11 18 yJ9_min_7cf53 cJ9_min_7cf53 2 (Option.some Jvm.ClassFile.FieldType.int) 2 := ⟨⟨kt_4, kt_62, by decide, by decide, by decide +kernel⟩, kt_60, kt_61⟩
theorem cl_X11_24 : kw_CS RX11 24 yJ9_max_7cf53 cJ9_max_7cf53 2 (Option.some Jvm.ClassFile.FieldType.int) 2 := ⟨⟨kt_4, kt_65, by decide, by decide, by decide +kernel⟩, kt_63, kt_64⟩
theorem cl_X11_27 : kw_CI RX11 27 yX9_init cX9_init 3 2 := ⟨⟨kt_3, kt_68, by decide, by decide, by decide +kernel⟩, kt_66, kt_67, rfl⟩
theorem cl_X11_36 : kw_CI RX11 36 yX10_init cX10_init 3 2 := ⟨⟨kt_5, kt_126, by decide, by decide, by decide +kernel⟩, kt_124, kt_125, rfl⟩
theorem cl_X10_25 : kw_CI RX10 25 yX4_init cX4_init 3 2 := ⟨⟨kt_6, kt_132, by decide, by decide, by decide +kernel⟩, kt_130, kt_131, rfl⟩
theorem cl_L_23 : kw_CV RL 23 yX11_at cX11_at 3 (Option.some Jvm.ClassFile.FieldType.int) 1 := ⟨⟨kt_1, kt_300, by decide, by decide, by decide +kernel⟩, kt_297, kt_298, kt_299⟩
theorem cl_L_28 : kw_CV RL 28 yX11_begin cX11_begin 3 (Option.some Jvm.ClassFile.FieldType.int) 1 := ⟨⟨kt_1, kt_305, by decide, by decide, by decide +kernel⟩, kt_302, kt_303, kt_304⟩
theorem cl_X11_90 : kw_CV RX11 90 yX7_arrive cX7_arrive 4 (Option.none : Option Jvm.ClassFile.FieldType) 2 := ⟨⟨kt_8, kt_310, by decide, by decide, by decide +kernel⟩, kt_307, kt_308, kt_309⟩
theorem cl_X7_32 : kw_CV RX7 32 yX7_renew cX7_renew 3 (Option.none : Option Jvm.ClassFile.FieldType) 1 := ⟨⟨kt_8, kt_314, by decide, by decide, by decide +kernel⟩, kt_311, kt_312, kt_313⟩
theorem cl_L_33 : kw_CV RL 33 yX11_child cX11_child 4 (Option.some Jvm.ClassFile.FieldType.int) 2 := ⟨⟨kt_1, kt_318, by decide, by decide, by decide +kernel⟩, kt_315, kt_316, kt_317⟩
theorem cl_X11_94 : kw_CV RX11 94 yX11_renewed cX11_renewed 3 (Option.some (Jvm.ClassFile.FieldType.object "SafeSweeps$Saver")) 1 := ⟨⟨kt_1, kt_322, by decide, by decide, by decide +kernel⟩, kt_319, kt_321, ks_0⟩
theorem cl_X11_177 : kw_CV RX11 177 yX11_saverHere cX11_saverHere 3 (Option.some (Jvm.ClassFile.FieldType.object "SafeSweeps$Saver")) 1 := ⟨⟨kt_1, kt_326, by decide, by decide, by decide +kernel⟩, kt_323, kt_325, ks_1⟩
theorem cl_X11_102 : kw_CV RX11 102 yX7_isDead cX7_isDead 3 (Option.some Jvm.ClassFile.FieldType.boolean) 1 := ⟨⟨kt_8, kt_330, by decide, by decide, by decide +kernel⟩, kt_327, kt_328, kt_329⟩
theorem cl_X11_196 : kw_CV RX11 196 yX7_renew cX7_renew 3 (Option.none : Option Jvm.ClassFile.FieldType) 1 := ⟨⟨kt_8, kt_314, by decide, by decide, by decide +kernel⟩, kt_331, kt_312, kt_313⟩
theorem cl_X11_98 : kw_CV RX11 98 yX9_holds cX9_holds 2 (Option.some Jvm.ClassFile.FieldType.boolean) 1 := ⟨⟨kt_3, kt_335, by decide, by decide, by decide +kernel⟩, kt_332, kt_333, kt_334⟩
theorem cl_X11_106 : kw_CV RX11 106 yX7_uses cX7_uses 3 (Option.some Jvm.ClassFile.FieldType.boolean) 1 := ⟨⟨kt_8, kt_339, by decide, by decide, by decide +kernel⟩, kt_336, kt_337, kt_338⟩
theorem cl_X11_109 : kw_CV RX11 109 yX7_addChild cX7_addChild 2 (Option.some Jvm.ClassFile.FieldType.boolean) 1 := ⟨⟨kt_8, kt_343, by decide, by decide, by decide +kernel⟩, kt_340, kt_341, kt_342⟩
theorem cl_L_38 : kw_CV RL 38 yX11_save cX11_save 7 (Option.some Jvm.ClassFile.FieldType.int) 3 := ⟨⟨kt_1, kt_347, by decide, by decide, by decide +kernel⟩, kt_344, kt_345, kt_346⟩
theorem cl_X11_123 : kw_CV RX11 123 yX9_find cX9_find 7 (Option.some Jvm.ClassFile.FieldType.int) 4 := ⟨⟨kt_3, kt_351, by decide, by decide, by decide +kernel⟩, kt_348, kt_349, kt_350⟩
theorem cl_X9_52 : kw_CV RX9 52 yX0_isLike cX0_isLike 7 (Option.some Jvm.ClassFile.FieldType.boolean) 4 := ⟨⟨kt_13, kt_355, by decide, by decide, by decide +kernel⟩, kt_352, kt_353, kt_354⟩
theorem cl_X11_127 : kw_CV RX11 127 yX11_saveNew cX11_saveNew 6 (Option.some Jvm.ClassFile.FieldType.int) 3 := ⟨⟨kt_1, kt_359, by decide, by decide, by decide +kernel⟩, kt_356, kt_358, ks_2⟩
theorem cl_X11_138 : kw_CV RX11 138 yX9_hasRoomFor cX9_hasRoomFor 3 (Option.some Jvm.ClassFile.FieldType.boolean) 1 := ⟨⟨kt_3, kt_363, by decide, by decide, by decide +kernel⟩, kt_360, kt_361, kt_362⟩
theorem cl_X9_65 : kw_CV RX9 65 yX9_filledOfLatest cX9_filledOfLatest 4 (Option.some Jvm.ClassFile.FieldType.int) 1 := ⟨⟨kt_3, kt_367, by decide, by decide, by decide +kernel⟩, kt_364, kt_365, kt_366⟩
theorem cl_X11_141 : kw_CS RX11 141 yJ7_copyOf_59c91 cJ7_copyOf_59c91 3 (Option.some (Jvm.ClassFile.FieldType.array Jvm.ClassFile.FieldType.int)) 2 := ⟨⟨kt_11, kt_370, by decide, by decide, by decide +kernel⟩, kt_368, kt_369⟩
theorem cl_J7_304 : kw_CS RJ7 304 yJ9_min_7cf53 cJ9_min_7cf53 2 (Option.some Jvm.ClassFile.FieldType.int) 2 := ⟨⟨kt_4, kt_62, by decide, by decide, by decide +kernel⟩, kt_378, kt_61⟩
theorem cl_X11_147 : kw_CV RX11 147 yX9_add cX9_add 8 (Option.some Jvm.ClassFile.FieldType.int) 3 := ⟨⟨kt_3, kt_385, by decide, by decide, by decide +kernel⟩, kt_382, kt_383, kt_384⟩
theorem cl_X9_71 : kw_CV RX9 71 yX2_write_ cX2_write_ 3 (Option.some Jvm.ClassFile.FieldType.boolean) 2 := ⟨⟨kt_2, kt_389, by decide, by decide, by decide +kernel⟩, kt_386, kt_387, kt_388⟩
theorem cl_X2_29 : kw_CV RX2 29 yX2_write cX2_write 1 (Option.some Jvm.ClassFile.FieldType.boolean) 0 := ⟨⟨kt_2, kt_393, by decide, by decide, by decide +kernel⟩, kt_390, kt_391, kt_392⟩
theorem cl_X9_74 : kw_CI RX9 74 yX0_init cX0_init 5 3 := ⟨⟨kt_13, kt_397, by decide, by decide, by decide +kernel⟩, kt_395, kt_396, rfl⟩
theorem cl_X9_77 : kw_CV RX9 77 yX9_lay cX9_lay 4 (Option.none : Option Jvm.ClassFile.FieldType) 3 := ⟨⟨kt_3, kt_443, by decide, by decide, by decide +kernel⟩, kt_440, kt_441, kt_442⟩
theorem cl_X11_151 : kw_CV RX11 151 yX11_losePower cX11_losePower 2 (Option.some Jvm.ClassFile.FieldType.int) 0 := ⟨⟨kt_1, kt_468, by decide, by decide, by decide +kernel⟩, kt_465, kt_467, ks_3⟩
theorem cl_X11_155 : kw_CV RX11 155 yX7_use cX7_use 2 (Option.none : Option Jvm.ClassFile.FieldType) 1 := ⟨⟨kt_8, kt_472, by decide, by decide, by decide +kernel⟩, kt_469, kt_470, kt_471⟩
theorem cl_X7_40 : kw_CV RX7 40 yX7_uses cX7_uses 3 (Option.some Jvm.ClassFile.FieldType.boolean) 1 := ⟨⟨kt_8, kt_339, by decide, by decide, by decide +kernel⟩, kt_473, kt_337, kt_338⟩
theorem cl_X11_131 : kw_CV RX11 131 yX11_saveFound cX11_saveFound 3 (Option.some Jvm.ClassFile.FieldType.int) 2 := ⟨⟨kt_1, kt_477, by decide, by decide, by decide +kernel⟩, kt_474, kt_476, ks_4⟩
theorem cl_X11_159 : kw_CV RX11 159 yX7_canUse cX7_canUse 2 (Option.some Jvm.ClassFile.FieldType.boolean) 1 := ⟨⟨kt_8, kt_481, by decide, by decide, by decide +kernel⟩, kt_478, kt_479, kt_480⟩
theorem cl_X11_162 : kw_CV RX11 162 yX11_takeFor cX11_takeFor 4 (Option.some Jvm.ClassFile.FieldType.int) 2 := ⟨⟨kt_1, kt_485, by decide, by decide, by decide +kernel⟩, kt_482, kt_484, ks_5⟩
theorem cl_X11_165 : kw_CV RX11 165 yX9_reachNothing cX9_reachNothing 2 (Option.none : Option Jvm.ClassFile.FieldType) 0 := ⟨⟨kt_3, kt_489, by decide, by decide, by decide +kernel⟩, kt_486, kt_487, kt_488⟩
theorem cl_X11_168 : kw_CV RX11 168 yX9_reachFrom cX9_reachFrom 3 (Option.none : Option Jvm.ClassFile.FieldType) 1 := ⟨⟨kt_3, kt_493, by decide, by decide, by decide +kernel⟩, kt_490, kt_491, kt_492⟩
theorem cl_X9_97 : kw_CV RX9 97 yX9_reachChildren cX9_reachChildren 4 (Option.none : Option Jvm.ClassFile.FieldType) 1 := ⟨⟨kt_3, kt_497, by decide, by decide, by decide +kernel⟩, kt_494, kt_495, kt_496⟩
theorem cl_X11_171 : kw_CV RX11 171 yX9_reviveReached cX9_reviveReached 3 (Option.some Jvm.ClassFile.FieldType.int) 0 := ⟨⟨kt_3, kt_501, by decide, by decide, by decide +kernel⟩, kt_498, kt_499, kt_500⟩
theorem cl_X9_108 : kw_CV RX9 108 yX9_await cX9_await 3 (Option.some Jvm.ClassFile.FieldType.boolean) 2 := ⟨⟨kt_3, kt_505, by decide, by decide, by decide +kernel⟩, kt_502, kt_503, kt_504⟩
theorem cl_X9_94 : kw_CV RX9 94 yX2_write cX2_write 1 (Option.some Jvm.ClassFile.FieldType.boolean) 0 := ⟨⟨kt_2, kt_393, by decide, by decide, by decide +kernel⟩, kt_506, kt_391, kt_392⟩
theorem cl_X11_174 : kw_CV RX11 174 yX10_spareReached cX10_spareReached 2 (Option.none : Option Jvm.ClassFile.FieldType) 1 := ⟨⟨kt_5, kt_510, by decide, by decide, by decide +kernel⟩, kt_507, kt_508, kt_509⟩
theorem cl_X10_66 : kw_CV RX10 66 yX9_markReached cX9_markReached 2 (Option.none : Option Jvm.ClassFile.FieldType) 0 := ⟨⟨kt_3, kt_514, by decide, by decide, by decide +kernel⟩, kt_511, kt_512, kt_513⟩
theorem cl_X10_62 : kw_CV RX10 62 yX10_lineUp cX10_lineUp 2 (Option.none : Option Jvm.ClassFile.FieldType) 1 := ⟨⟨kt_5, kt_518, by decide, by decide, by decide +kernel⟩, kt_515, kt_516, kt_517⟩
theorem cl_L_43 : kw_CV RL 43 yX11_take cX11_take 4 (Option.some Jvm.ClassFile.FieldType.int) 2 := ⟨⟨kt_1, kt_522, by decide, by decide, by decide +kernel⟩, kt_519, kt_520, kt_521⟩
theorem cl_L_47 : kw_CV RL 47 yX11_commit cX11_commit 5 (Option.some Jvm.ClassFile.FieldType.int) 2 := ⟨⟨kt_1, kt_526, by decide, by decide, by decide +kernel⟩, kt_523, kt_524, kt_525⟩
theorem cl_X11_183 : kw_CV RX11 183 yX11_snapshotsThere cX11_snapshotsThere 3 (Option.some Jvm.ClassFile.FieldType.int) 0 := ⟨⟨kt_1, kt_530, by decide, by decide, by decide +kernel⟩, kt_527, kt_529, ks_6⟩
theorem cl_X11_186 : kw_CV RX11 186 yX2_write_ cX2_write_ 3 (Option.some Jvm.ClassFile.FieldType.boolean) 2 := ⟨⟨kt_2, kt_389, by decide, by decide, by decide +kernel⟩, kt_531, kt_387, kt_388⟩
theorem cl_X11_193 : kw_CI RX11 193 yX8_init cX8_init 5 3 := ⟨⟨kt_15, kt_535, by decide, by decide, by decide +kernel⟩, kt_533, kt_534, rfl⟩
theorem cl_L_51 : kw_CV RL 51 yX11_give cX11_give 3 (Option.some Jvm.ClassFile.FieldType.int) 1 := ⟨⟨kt_1, kt_559, by decide, by decide, by decide +kernel⟩, kt_556, kt_557, kt_558⟩
theorem cl_L_55 : kw_CV RL 55 yX11_drop cX11_drop 2 (Option.some Jvm.ClassFile.FieldType.int) 1 := ⟨⟨kt_1, kt_563, by decide, by decide, by decide +kernel⟩, kt_560, kt_561, kt_562⟩
theorem cl_X11_200 : kw_CV RX11 200 yX11_snapshotIsThere cX11_snapshotIsThere 2 (Option.some Jvm.ClassFile.FieldType.boolean) 1 := ⟨⟨kt_1, kt_567, by decide, by decide, by decide +kernel⟩, kt_564, kt_566, ks_7⟩
theorem cl_X11_203 : kw_CV RX11 203 yX11_removeSnapshot cX11_removeSnapshot 2 (Option.some Jvm.ClassFile.FieldType.boolean) 1 := ⟨⟨kt_1, kt_571, by decide, by decide, by decide +kernel⟩, kt_568, kt_570, ks_8⟩
theorem cl_L_59 : kw_CV RL 59 yX11_rule cX11_rule 4 (Option.some Jvm.ClassFile.FieldType.int) 2 := ⟨⟨kt_1, kt_575, by decide, by decide, by decide +kernel⟩, kt_572, kt_573, kt_574⟩
theorem cl_X11_206 : kw_CS RX11 206 yX6_greatest cX6_greatest 1 (Option.some Jvm.ClassFile.FieldType.int) 1 := ⟨⟨kt_7, kt_578, by decide, by decide, by decide +kernel⟩, kt_576, kt_577⟩
theorem cl_L_63 : kw_CV RL 63 yX11_keeps cX11_keeps 2 (Option.some Jvm.ClassFile.FieldType.int) 1 := ⟨⟨kt_1, kt_582, by decide, by decide, by decide +kernel⟩, kt_579, kt_580, kt_581⟩
theorem cl_X11_213 : kw_CV RX11 213 yX6_judge cX6_judge 5 (Option.none : Option Jvm.ClassFile.FieldType) 2 := ⟨⟨kt_7, kt_586, by decide, by decide, by decide +kernel⟩, kt_583, kt_584, kt_585⟩
theorem cl_X6_28 : kw_CV RX6 28 yX6_judgeBy cX6_judgeBy 10 (Option.none : Option Jvm.ClassFile.FieldType) 3 := ⟨⟨kt_7, kt_590, by decide, by decide, by decide +kernel⟩, kt_587, kt_588, kt_589⟩
theorem cl_X6_36 : kw_CS RX6 36 yX1_dayOf cX1_dayOf 2 (Option.some Jvm.ClassFile.FieldType.long) 1 := ⟨⟨kt_16, kt_593, by decide, by decide, by decide +kernel⟩, kt_591, kt_592⟩
theorem cl_X1_11 : kw_CS RX1 11 yJ9_floorDiv_f86c9 cJ9_floorDiv_f86c9 6 (Option.some Jvm.ClassFile.FieldType.long) 2 := ⟨⟨kt_4, kt_597, by decide, by decide, by decide +kernel⟩, kt_595, kt_596⟩
theorem cl_X6_42 : kw_CS RX6 42 yX6_periodOf cX6_periodOf 3 (Option.some Jvm.ClassFile.FieldType.long) 2 := ⟨⟨kt_7, kt_600, by decide, by decide, by decide +kernel⟩, kt_598, kt_599⟩
theorem cl_X6_46 : kw_CS RX6 46 yX1_weekOf cX1_weekOf 2 (Option.some Jvm.ClassFile.FieldType.long) 1 := ⟨⟨kt_16, kt_603, by decide, by decide, by decide +kernel⟩, kt_601, kt_602⟩
theorem cl_X6_49 : kw_CS RX6 49 yX1_monthsUpTo cX1_monthsUpTo 8 (Option.some Jvm.ClassFile.FieldType.long) 1 := ⟨⟨kt_16, kt_608, by decide, by decide, by decide +kernel⟩, kt_606, kt_607⟩
theorem cl_X1_30 : kw_CS RX1 30 yX1_dayOfEra cX1_dayOfEra 2 (Option.some Jvm.ClassFile.FieldType.long) 1 := ⟨⟨kt_16, kt_613, by decide, by decide, by decide +kernel⟩, kt_611, kt_612⟩
theorem cl_X1_21 : kw_CS RX1 21 yJ9_floorMod_f86c9 cJ9_floorMod_f86c9 6 (Option.some Jvm.ClassFile.FieldType.long) 2 := ⟨⟨kt_4, kt_616, by decide, by decide, by decide +kernel⟩, kt_614, kt_615⟩
theorem cl_X1_33 : kw_CS RX1 33 yX1_marchYearOfEra cX1_marchYearOfEra 4 (Option.some Jvm.ClassFile.FieldType.long) 1 := ⟨⟨kt_16, kt_619, by decide, by decide, by decide +kernel⟩, kt_617, kt_618⟩
theorem cl_X1_36 : kw_CS RX1 36 yX1_dayOfMarchYear cX1_dayOfMarchYear 4 (Option.some Jvm.ClassFile.FieldType.long) 2 := ⟨⟨kt_16, kt_628, by decide, by decide, by decide +kernel⟩, kt_626, kt_627⟩
theorem cl_X1_39 : kw_CS RX1 39 yX1_marchMonth cX1_marchMonth 2 (Option.some Jvm.ClassFile.FieldType.long) 1 := ⟨⟨kt_16, kt_633, by decide, by decide, by decide +kernel⟩, kt_631, kt_632⟩
theorem cl_X6_52 : kw_CS RX6 52 yX1_yearOf cX1_yearOf 2 (Option.some Jvm.ClassFile.FieldType.long) 1 := ⟨⟨kt_16, kt_639, by decide, by decide, by decide +kernel⟩, kt_637, kt_638⟩
theorem cl_X1_24 : kw_CS RX1 24 yX1_monthsUpTo cX1_monthsUpTo 8 (Option.some Jvm.ClassFile.FieldType.long) 1 := ⟨⟨kt_16, kt_608, by decide, by decide, by decide +kernel⟩, kt_640, kt_607⟩
theorem cl_L_67 : kw_CV RL 67 yX11_prune cX11_prune 5 (Option.some Jvm.ClassFile.FieldType.int) 1 := ⟨⟨kt_1, kt_644, by decide, by decide, by decide +kernel⟩, kt_641, kt_642, kt_643⟩
theorem cl_X11_220 : kw_CV RX11 220 yX11_snapshotIsUnkept cX11_snapshotIsUnkept 2 (Option.some Jvm.ClassFile.FieldType.boolean) 1 := ⟨⟨kt_1, kt_648, by decide, by decide, by decide +kernel⟩, kt_645, kt_647, ks_9⟩
theorem cl_L_72 : kw_CV RL 72 yX11_sweep cX11_sweep 2 (Option.some Jvm.ClassFile.FieldType.int) 0 := ⟨⟨kt_1, kt_652, by decide, by decide, by decide +kernel⟩, kt_649, kt_650, kt_651⟩
theorem cl_X11_229 : kw_CV RX11 229 yX2_write cX2_write 1 (Option.some Jvm.ClassFile.FieldType.boolean) 0 := ⟨⟨kt_2, kt_393, by decide, by decide, by decide +kernel⟩, kt_653, kt_391, kt_392⟩
theorem cl_X11_232 : kw_CV RX11 232 yX10_prepare cX10_prepare 2 (Option.none : Option Jvm.ClassFile.FieldType) 0 := ⟨⟨kt_5, kt_657, by decide, by decide, by decide +kernel⟩, kt_654, kt_655, kt_656⟩
theorem cl_X11_238 : kw_CV RX11 238 yX10_lineUpAll cX10_lineUpAll 4 (Option.none : Option Jvm.ClassFile.FieldType) 2 := ⟨⟨kt_5, kt_661, by decide, by decide, by decide +kernel⟩, kt_658, kt_659, kt_660⟩
theorem cl_X11_242 : kw_CV RX11 242 yX11_lineUpOrDismiss cX11_lineUpOrDismiss 2 (Option.none : Option Jvm.ClassFile.FieldType) 1 := ⟨⟨kt_1, kt_665, by decide, by decide, by decide +kernel⟩, kt_662, kt_664, ks_10⟩
theorem cl_X11_246 : kw_CV RX11 246 yX10_settle cX10_settle 1 (Option.none : Option Jvm.ClassFile.FieldType) 0 := ⟨⟨kt_5, kt_669, by decide, by decide, by decide +kernel⟩, kt_666, kt_667, kt_668⟩
theorem cl_L_77 : kw_CV RL 77 yX11_step cX11_step 3 (Option.some Jvm.ClassFile.FieldType.int) 1 := ⟨⟨kt_1, kt_673, by decide, by decide, by decide +kernel⟩, kt_670, kt_671, kt_672⟩
theorem cl_X11_252 : kw_CV RX11 252 yX10_advance cX10_advance 2 (Option.some Jvm.ClassFile.FieldType.boolean) 0 := ⟨⟨kt_5, kt_677, by decide, by decide, by decide +kernel⟩, kt_674, kt_675, kt_676⟩
theorem cl_X10_69 : kw_CV RX10 69 yX10_markFirst cX10_markFirst 2 (Option.none : Option Jvm.ClassFile.FieldType) 0 := ⟨⟨kt_5, kt_681, by decide, by decide, by decide +kernel⟩, kt_678, kt_679, kt_680⟩
theorem cl_X10_97 : kw_CV RX10 97 yX10_lineUpAll cX10_lineUpAll 4 (Option.none : Option Jvm.ClassFile.FieldType) 2 := ⟨⟨kt_5, kt_661, by decide, by decide, by decide +kernel⟩, kt_682, kt_659, kt_660⟩
theorem cl_X10_72 : kw_CV RX10 72 yX10_clearNext cX10_clearNext 3 (Option.some Jvm.ClassFile.FieldType.boolean) 0 := ⟨⟨kt_5, kt_686, by decide, by decide, by decide +kernel⟩, kt_683, kt_684, kt_685⟩
theorem cl_X10_104 : kw_CV RX10 104 yX9_await cX9_await 3 (Option.some Jvm.ClassFile.FieldType.boolean) 2 := ⟨⟨kt_3, kt_505, by decide, by decide, by decide +kernel⟩, kt_687, kt_503, kt_504⟩
theorem cl_X10_76 : kw_CV RX10 76 yX10_chooseNext cX10_chooseNext 3 (Option.some Jvm.ClassFile.FieldType.boolean) 0 := ⟨⟨kt_5, kt_691, by decide, by decide, by decide +kernel⟩, kt_688, kt_689, kt_690⟩
theorem cl_X10_111 : kw_CV RX10 111 yX9_free cX9_free 3 (Option.some Jvm.ClassFile.FieldType.boolean) 1 := ⟨⟨kt_3, kt_695, by decide, by decide, by decide +kernel⟩, kt_692, kt_693, kt_694⟩
theorem cl_X10_79 : kw_CV RX10 79 yX10_packNext cX10_packNext 2 (Option.some Jvm.ClassFile.FieldType.boolean) 0 := ⟨⟨kt_5, kt_699, by decide, by decide, by decide +kernel⟩, kt_696, kt_697, kt_698⟩
theorem cl_X10_115 : kw_CV RX10 115 yX4_isDue cX4_isDue 4 (Option.some Jvm.ClassFile.FieldType.boolean) 2 := ⟨⟨kt_6, kt_703, by decide, by decide, by decide +kernel⟩, kt_700, kt_701, kt_702⟩
theorem cl_X10_118 : kw_CV RX10 118 yX4_packAnew cX4_packAnew 3 (Option.some Jvm.ClassFile.FieldType.boolean) 1 := ⟨⟨kt_6, kt_707, by decide, by decide, by decide +kernel⟩, kt_704, kt_705, kt_706⟩
theorem cl_X4_47 : kw_CV RX4 47 yX4_collect cX4_collect 3 (Option.none : Option Jvm.ClassFile.FieldType) 1 := ⟨⟨kt_6, kt_711, by decide, by decide, by decide +kernel⟩, kt_708, kt_709, kt_710⟩
theorem cl_X4_70 : kw_CV RX4 70 yX9_liesIn cX9_liesIn 3 (Option.some Jvm.ClassFile.FieldType.boolean) 2 := ⟨⟨kt_3, kt_715, by decide, by decide, by decide +kernel⟩, kt_712, kt_713, kt_714⟩
theorem cl_X4_74 : kw_CV RX4 74 yX4_insertByPlace cX4_insertByPlace 4 (Option.none : Option Jvm.ClassFile.FieldType) 1 := ⟨⟨kt_6, kt_719, by decide, by decide, by decide +kernel⟩, kt_716, kt_717, kt_718⟩
theorem cl_X4_51 : kw_CV RX4 51 yX4_plan cX4_plan 6 (Option.some Jvm.ClassFile.FieldType.boolean) 1 := ⟨⟨kt_6, kt_723, by decide, by decide, by decide +kernel⟩, kt_720, kt_721, kt_722⟩
theorem cl_X4_89 : kw_CV RX4 89 yX9_filledOfLatest cX9_filledOfLatest 4 (Option.some Jvm.ClassFile.FieldType.int) 1 := ⟨⟨kt_3, kt_367, by decide, by decide, by decide +kernel⟩, kt_724, kt_365, kt_366⟩
theorem cl_X4_58 : kw_CV RX4 58 yX2_write cX2_write 1 (Option.some Jvm.ClassFile.FieldType.boolean) 0 := ⟨⟨kt_2, kt_393, by decide, by decide, by decide +kernel⟩, kt_725, kt_391, kt_392⟩
theorem cl_X4_64 : kw_CV RX4 64 yX4_carryOut cX4_carryOut 3 (Option.none : Option Jvm.ClassFile.FieldType) 1 := ⟨⟨kt_6, kt_729, by decide, by decide, by decide +kernel⟩, kt_726, kt_727, kt_728⟩
theorem cl_X4_99 : kw_CV RX4 99 yX9_lay cX9_lay 4 (Option.none : Option Jvm.ClassFile.FieldType) 3 := ⟨⟨kt_3, kt_443, by decide, by decide, by decide +kernel⟩, kt_730, kt_441, kt_442⟩
theorem cl_X10_82 : kw_CV RX10 82 yX10_settle cX10_settle 1 (Option.none : Option Jvm.ClassFile.FieldType) 0 := ⟨⟨kt_5, kt_669, by decide, by decide, by decide +kernel⟩, kt_731, kt_667, kt_668⟩
theorem cl_L_81 : kw_CV RL 81 yX11_share cX11_share 3 (Option.some Jvm.ClassFile.FieldType.int) 1 := ⟨⟨kt_1, kt_735, by decide, by decide, by decide +kernel⟩, kt_732, kt_733, kt_734⟩
theorem cl_L_85 : kw_CV RL 85 yX11_cut cX11_cut 2 (Option.some Jvm.ClassFile.FieldType.int) 1 := ⟨⟨kt_1, kt_739, by decide, by decide, by decide +kernel⟩, kt_736, kt_737, kt_738⟩
theorem cl_L_89 : kw_CV RL 89 yX11_open cX11_open 1 (Option.some Jvm.ClassFile.FieldType.int) 0 := ⟨⟨kt_1, kt_743, by decide, by decide, by decide +kernel⟩, kt_740, kt_741, kt_742⟩
theorem cl_X11_261 : kw_CV RX11 261 yX9_blocksWaiting cX9_blocksWaiting 3 (Option.some Jvm.ClassFile.FieldType.int) 0 := ⟨⟨kt_3, kt_747, by decide, by decide, by decide +kernel⟩, kt_744, kt_745, kt_746⟩
theorem cl_L_93 : kw_CV RL 93 yX11_follow cX11_follow 3 (Option.some Jvm.ClassFile.FieldType.int) 2 := ⟨⟨kt_1, kt_751, by decide, by decide, by decide +kernel⟩, kt_748, kt_749, kt_750⟩
theorem cl_X11_264 : kw_CV RX11 264 yX3_repeat cX3_repeat 7 (Option.none : Option Jvm.ClassFile.FieldType) 2 := ⟨⟨kt_9, kt_755, by decide, by decide, by decide +kernel⟩, kt_752, kt_753, kt_754⟩
theorem cl_X3_27 : kw_CS RX3 27 yJ9_min_7cf53 cJ9_min_7cf53 2 (Option.some Jvm.ClassFile.FieldType.int) 2 := ⟨⟨kt_4, kt_62, by decide, by decide, by decide +kernel⟩, kt_756, kt_61⟩
theorem cl_L_97 : kw_CV RL 97 yX11_count cX11_count 2 (Option.some Jvm.ClassFile.FieldType.int) 1 := ⟨⟨kt_1, kt_760, by decide, by decide, by decide +kernel⟩, kt_757, kt_758, kt_759⟩
theorem cl_X11_286 : kw_CV RX11 286 yX11_saversHere cX11_saversHere 3 (Option.some Jvm.ClassFile.FieldType.int) 0 := ⟨⟨kt_1, kt_764, by decide, by decide, by decide +kernel⟩, kt_761, kt_763, ks_11⟩
theorem cl_L_101 : kw_CV RL 101 yX11_block cX11_block 4 (Option.some Jvm.ClassFile.FieldType.int) 2 := ⟨⟨kt_1, kt_768, by decide, by decide, by decide +kernel⟩, kt_765, kt_766, kt_767⟩
theorem cl_X11_319 : kw_CV RX11 319 yX11_saversThatUse cX11_saversThatUse 4 (Option.some Jvm.ClassFile.FieldType.int) 1 := ⟨⟨kt_1, kt_772, by decide, by decide, by decide +kernel⟩, kt_769, kt_771, ks_12⟩
theorem cl_L_105 : kw_CV RL 105 yX11_key cX11_key 2 (Option.some Jvm.ClassFile.FieldType.long) 1 := ⟨⟨kt_1, kt_776, by decide, by decide, by decide +kernel⟩, kt_773, kt_774, kt_775⟩
theorem cl_L_110 : kw_CV RL 110 yX11_pack cX11_pack 4 (Option.some Jvm.ClassFile.FieldType.int) 2 := ⟨⟨kt_1, kt_780, by decide, by decide, by decide +kernel⟩, kt_777, kt_778, kt_779⟩
theorem cl_X11_339 : kw_CV RX11 339 yX9_blocksIn cX9_blocksIn 4 (Option.some Jvm.ClassFile.FieldType.int) 1 := ⟨⟨kt_3, kt_784, by decide, by decide, by decide +kernel⟩, kt_781, kt_782, kt_783⟩
theorem cl_X9_45 : kw_CV RX9 45 yX9_liesIn cX9_liesIn 3 (Option.some Jvm.ClassFile.FieldType.boolean) 2 := ⟨⟨kt_3, kt_715, by decide, by decide, by decide +kernel⟩, kt_785, kt_713, kt_714⟩
theorem cl_L_114 : kw_CV RL 114 yX11_snapshot cX11_snapshot 4 (Option.some Jvm.ClassFile.FieldType.int) 2 := ⟨⟨kt_1, kt_789, by decide, by decide, by decide +kernel⟩, kt_786, kt_787, kt_788⟩
theorem cl_L_118 : kw_CV RL 118 yX11_time cX11_time 2 (Option.some Jvm.ClassFile.FieldType.long) 1 := ⟨⟨kt_1, kt_793, by decide, by decide, by decide +kernel⟩, kt_790, kt_791, kt_792⟩
theorem cl_L_122 : kw_CV RL 122 yX11_saver cX11_saver 4 (Option.some Jvm.ClassFile.FieldType.int) 2 := ⟨⟨kt_1, kt_797, by decide, by decide, by decide +kernel⟩, kt_794, kt_795, kt_796⟩
theorem cl_L_126 : kw_CV RL 126 yX11_swept cX11_swept 3 (Option.some Jvm.ClassFile.FieldType.int) 1 := ⟨⟨kt_1, kt_801, by decide, by decide, by decide +kernel⟩, kt_798, kt_799, kt_800⟩
theorem cl_L_130 : kw_CV RL 130 yX11_calendar cX11_calendar 6 (Option.some Jvm.ClassFile.FieldType.int) 2 := ⟨⟨kt_1, kt_805, by decide, by decide, by decide +kernel⟩, kt_802, kt_803, kt_804⟩
theorem cl_X11_362 : kw_CS RX11 362 yX1_dayOf cX1_dayOf 2 (Option.some Jvm.ClassFile.FieldType.long) 1 := ⟨⟨kt_16, kt_593, by decide, by decide, by decide +kernel⟩, kt_807, kt_592⟩
theorem cl_X11_368 : kw_CS RX11 368 yX1_yearOf cX1_yearOf 2 (Option.some Jvm.ClassFile.FieldType.long) 1 := ⟨⟨kt_16, kt_639, by decide, by decide, by decide +kernel⟩, kt_808, kt_638⟩
theorem cl_X11_371 : kw_CS RX11 371 yX1_monthOf cX1_monthOf 2 (Option.some Jvm.ClassFile.FieldType.int) 1 := ⟨⟨kt_16, kt_811, by decide, by decide, by decide +kernel⟩, kt_809, kt_810⟩
theorem cl_X11_375 : kw_CS RX11 375 yX1_dayOfMonth cX1_dayOfMonth 6 (Option.some Jvm.ClassFile.FieldType.int) 1 := ⟨⟨kt_16, kt_814, by decide, by decide, by decide +kernel⟩, kt_812, kt_813⟩
theorem cl_X1_42 : kw_CS RX1 42 yX1_daysBeforeMarchMonth cX1_daysBeforeMarchMonth 2 (Option.some Jvm.ClassFile.FieldType.long) 1 := ⟨⟨kt_16, kt_817, by decide, by decide, by decide +kernel⟩, kt_815, kt_816⟩
theorem cl_X11_378 : kw_CS RX11 378 yX1_dayOfWeek cX1_dayOfWeek 2 (Option.some Jvm.ClassFile.FieldType.int) 1 := ⟨⟨kt_16, kt_820, by decide, by decide, by decide +kernel⟩, kt_818, kt_819⟩
theorem cl_L_135 : kw_CV RL 135 yX11_mirrored cX11_mirrored 4 (Option.some Jvm.ClassFile.FieldType.int) 2 := ⟨⟨kt_1, kt_824, by decide, by decide, by decide +kernel⟩, kt_821, kt_822, kt_823⟩
theorem cl_X11_384 : kw_CS RX11 384 yX3_held cX3_held 3 (Option.some Jvm.ClassFile.FieldType.int) 1 := ⟨⟨kt_9, kt_827, by decide, by decide, by decide +kernel⟩, kt_825, kt_826⟩
theorem cl_X11_390 : kw_CV RX11 390 yX11_brokenSnapshots cX11_brokenSnapshots 4 (Option.some Jvm.ClassFile.FieldType.int) 1 := ⟨⟨kt_1, kt_831, by decide, by decide, by decide +kernel⟩, kt_828, kt_830, ks_13⟩
theorem cl_X11_394 : kw_CV RX11 394 yX9_reachFromAll cX9_reachFromAll 4 (Option.none : Option Jvm.ClassFile.FieldType) 2 := ⟨⟨kt_3, kt_835, by decide, by decide, by decide +kernel⟩, kt_832, kt_833, kt_834⟩
theorem cl_X9_105 : kw_CV RX9 105 yX9_reachFrom cX9_reachFrom 3 (Option.none : Option Jvm.ClassFile.FieldType) 1 := ⟨⟨kt_3, kt_493, by decide, by decide, by decide +kernel⟩, kt_836, kt_491, kt_492⟩
theorem cl_X11_397 : kw_CV RX11 397 yX9_reachedOutside cX9_reachedOutside 4 (Option.some Jvm.ClassFile.FieldType.int) 1 := ⟨⟨kt_3, kt_840, by decide, by decide, by decide +kernel⟩, kt_837, kt_838, kt_839⟩
theorem cl_L_139 : kw_CV RL 139 yX11_has cX11_has 3 (Option.some Jvm.ClassFile.FieldType.boolean) 2 := ⟨⟨kt_1, kt_844, by decide, by decide, by decide +kernel⟩, kt_841, kt_842, kt_843⟩
theorem cl_L_144 : kw_CV RL 144 yX11_audit cX11_audit 3 (Option.some Jvm.ClassFile.FieldType.int) 0 := ⟨⟨kt_1, kt_848, by decide, by decide, by decide +kernel⟩, kt_845, kt_846, kt_847⟩
theorem cl_X11_400 : kw_CV RX11 400 yX11_reachedButFreed cX11_reachedButFreed 2 (Option.some Jvm.ClassFile.FieldType.int) 0 := ⟨⟨kt_1, kt_852, by decide, by decide, by decide +kernel⟩, kt_849, kt_851, ks_14⟩
theorem cl_X11_415 : kw_CV RX11 415 yX9_reachFromThere cX9_reachFromThere 2 (Option.none : Option Jvm.ClassFile.FieldType) 0 := ⟨⟨kt_3, kt_856, by decide, by decide, by decide +kernel⟩, kt_853, kt_854, kt_855⟩
theorem cl_X11_418 : kw_CV RX11 418 yX9_reachedButFreed cX9_reachedButFreed 3 (Option.some Jvm.ClassFile.FieldType.int) 0 := ⟨⟨kt_3, kt_860, by decide, by decide, by decide +kernel⟩, kt_857, kt_858, kt_859⟩
theorem cl_X11_403 : kw_CV RX11 403 yX9_misplacedBlocks cX9_misplacedBlocks 5 (Option.some Jvm.ClassFile.FieldType.int) 0 := ⟨⟨kt_3, kt_864, by decide, by decide, by decide +kernel⟩, kt_861, kt_862, kt_863⟩
theorem cl_X9_117 : kw_CV RX9 117 yX9_liesOverLater cX9_liesOverLater 5 (Option.some Jvm.ClassFile.FieldType.boolean) 1 := ⟨⟨kt_3, kt_868, by decide, by decide, by decide +kernel⟩, kt_865, kt_866, kt_867⟩
theorem cl_X11_406 : kw_CV RX11 406 yX9_unevenPacks cX9_unevenPacks 5 (Option.some Jvm.ClassFile.FieldType.int) 0 := ⟨⟨kt_3, kt_872, by decide, by decide, by decide +kernel⟩, kt_869, kt_870, kt_871⟩
theorem cl_X11_409 : kw_CV RX11 409 yX3_forget cX3_forget 2 (Option.none : Option Jvm.ClassFile.FieldType) 0 := ⟨⟨kt_9, kt_876, by decide, by decide, by decide +kernel⟩, kt_873, kt_874, kt_875⟩
theorem cl_X11_412 : kw_CV RX11 412 yX3_differences cX3_differences 4 (Option.some Jvm.ClassFile.FieldType.int) 1 := ⟨⟨kt_9, kt_880, by decide, by decide, by decide +kernel⟩, kt_877, kt_878, kt_879⟩
theorem cl_L_9 : kw_CS RL 9 yL_cell cL_cell 2 (Option.some Jvm.ClassFile.FieldType.int) 2 := ⟨⟨kt_0, kt_883, by decide, by decide, by decide +kernel⟩, kt_881, kt_882⟩
theorem cl_L_20 : kw_CI RL 20 yX12_init cX12_init 2 1 := ⟨⟨kt_10, kt_888, by decide, by decide, by decide +kernel⟩, kt_886, kt_887, rfl⟩
theorem cl_L_88 : kw_CV RL 88 yX12_cut cX12_cut 2 (Option.some Jvm.ClassFile.FieldType.int) 1 := ⟨⟨kt_10, kt_1058, by decide, by decide, by decide +kernel⟩, kt_1055, kt_1056, kt_1057⟩
theorem cl_X12_144 : kw_CS RX12 144 yX12_in cX12_in 6 (Option.some Jvm.ClassFile.FieldType.boolean) 3 := ⟨⟨kt_10, kt_1063, by decide, by decide, by decide +kernel⟩, kt_1061, kt_1062⟩
theorem cl_L_92 : kw_CV RL 92 yX12_open cX12_open 1 (Option.some Jvm.ClassFile.FieldType.int) 0 := ⟨⟨kt_10, kt_1067, by decide, by decide, by decide +kernel⟩, kt_1064, kt_1065, kt_1066⟩
theorem cl_X12_148 : kw_CV RX12 148 yX12_count cX12_count 2 (Option.some Jvm.ClassFile.FieldType.int) 1 := ⟨⟨kt_10, kt_1071, by decide, by decide, by decide +kernel⟩, kt_1068, kt_1069, kt_1070⟩
theorem cl_X12_313 : kw_CV RX12 313 yX12_counted cX12_counted 4 (Option.some Jvm.ClassFile.FieldType.int) 1 := ⟨⟨kt_10, kt_1075, by decide, by decide, by decide +kernel⟩, kt_1072, kt_1074, ks_15⟩
theorem cl_X12_221 : kw_CV RX12 221 yX12_snapshotsThere cX12_snapshotsThere 3 (Option.some Jvm.ClassFile.FieldType.int) 0 := ⟨⟨kt_10, kt_1079, by decide, by decide, by decide +kernel⟩, kt_1076, kt_1078, ks_16⟩
theorem cl_X12_316 : kw_CV RX12 316 yX12_savers cX12_savers 3 (Option.some Jvm.ClassFile.FieldType.int) 0 := ⟨⟨kt_10, kt_1083, by decide, by decide, by decide +kernel⟩, kt_1080, kt_1082, ks_17⟩
theorem cl_L_27 : kw_CV RL 27 yX12_at cX12_at 3 (Option.some Jvm.ClassFile.FieldType.int) 1 := ⟨⟨kt_10, kt_1087, by decide, by decide, by decide +kernel⟩, kt_1084, kt_1085, kt_1086⟩
theorem cl_L_32 : kw_CV RL 32 yX12_begin cX12_begin 3 (Option.some Jvm.ClassFile.FieldType.int) 1 := ⟨⟨kt_10, kt_1092, by decide, by decide, by decide +kernel⟩, kt_1089, kt_1090, kt_1091⟩
theorem cl_L_37 : kw_CV RL 37 yX12_child cX12_child 4 (Option.some Jvm.ClassFile.FieldType.int) 2 := ⟨⟨kt_10, kt_1097, by decide, by decide, by decide +kernel⟩, kt_1094, kt_1095, kt_1096⟩
theorem cl_X12_165 : kw_CV RX12 165 yX12_isSaver cX12_isSaver 2 (Option.some Jvm.ClassFile.FieldType.boolean) 1 := ⟨⟨kt_10, kt_1101, by decide, by decide, by decide +kernel⟩, kt_1098, kt_1100, ks_18⟩
theorem cl_X12_168 : kw_CV RX12 168 yX12_meet cX12_meet 2 (Option.some Jvm.ClassFile.FieldType.boolean) 1 := ⟨⟨kt_10, kt_1106, by decide, by decide, by decide +kernel⟩, kt_1103, kt_1105, ks_19⟩
theorem cl_X12_159 : kw_CV RX12 159 yX12_isDead cX12_isDead 2 (Option.some Jvm.ClassFile.FieldType.boolean) 1 := ⟨⟨kt_10, kt_1110, by decide, by decide, by decide +kernel⟩, kt_1107, kt_1109, ks_20⟩
theorem cl_X12_171 : kw_CV RX12 171 yX12_isBlock cX12_isBlock 2 (Option.some Jvm.ClassFile.FieldType.boolean) 1 := ⟨⟨kt_10, kt_1114, by decide, by decide, by decide +kernel⟩, kt_1111, kt_1113, ks_21⟩
theorem cl_X12_174 : kw_CV RX12 174 yX12_uses cX12_uses 5 (Option.some Jvm.ClassFile.FieldType.boolean) 2 := ⟨⟨kt_10, kt_1118, by decide, by decide, by decide +kernel⟩, kt_1115, kt_1117, ks_22⟩
theorem cl_L_42 : kw_CV RL 42 yX12_save cX12_save 7 (Option.some Jvm.ClassFile.FieldType.int) 3 := ⟨⟨kt_10, kt_1122, by decide, by decide, by decide +kernel⟩, kt_1119, kt_1120, kt_1121⟩
theorem cl_X12_181 : kw_CV RX12 181 yX12_find cX12_find 8 (Option.some Jvm.ClassFile.FieldType.int) 3 := ⟨⟨kt_10, kt_1126, by decide, by decide, by decide +kernel⟩, kt_1123, kt_1125, ks_23⟩
theorem cl_X12_185 : kw_CV RX12 185 yX12_taken cX12_taken 4 (Option.some Jvm.ClassFile.FieldType.boolean) 2 := ⟨⟨kt_10, kt_1130, by decide, by decide, by decide +kernel⟩, kt_1127, kt_1129, ks_24⟩
theorem cl_X12_208 : kw_CV RX12 208 yX12_reachFrom cX12_reachFrom 4 (Option.none : Option Jvm.ClassFile.FieldType) 1 := ⟨⟨kt_10, kt_1134, by decide, by decide, by decide +kernel⟩, kt_1131, kt_1133, ks_25⟩
theorem cl_X12_191 : kw_CV RX12 191 yX12_write cX12_write 2 (Option.some Jvm.ClassFile.FieldType.boolean) 0 := ⟨⟨kt_10, kt_1138, by decide, by decide, by decide +kernel⟩, kt_1135, kt_1137, ks_26⟩
theorem cl_X12_202 : kw_CV RX12 202 yX12_use cX12_use 3 (Option.none : Option Jvm.ClassFile.FieldType) 2 := ⟨⟨kt_10, kt_1142, by decide, by decide, by decide +kernel⟩, kt_1139, kt_1141, ks_27⟩
theorem cl_X12_188 : kw_CV RX12 188 yX12_fitsLatest cX12_fitsLatest 2 (Option.some Jvm.ClassFile.FieldType.boolean) 1 := ⟨⟨kt_10, kt_1146, by decide, by decide, by decide +kernel⟩, kt_1143, kt_1145, ks_28⟩
theorem cl_X12_195 : kw_CV RX12 195 yX12_made cX12_made 7 (Option.some Jvm.ClassFile.FieldType.int) 3 := ⟨⟨kt_10, kt_1150, by decide, by decide, by decide +kernel⟩, kt_1147, kt_1149, ks_29⟩
theorem cl_X12_198 : kw_CV RX12 198 yX12_tell cX12_tell 3 (Option.none : Option Jvm.ClassFile.FieldType) 2 := ⟨⟨kt_10, kt_1154, by decide, by decide, by decide +kernel⟩, kt_1151, kt_1153, ks_30⟩
theorem cl_L_46 : kw_CV RL 46 yX12_take cX12_take 4 (Option.some Jvm.ClassFile.FieldType.int) 2 := ⟨⟨kt_10, kt_1158, by decide, by decide, by decide +kernel⟩, kt_1155, kt_1156, kt_1157⟩
theorem cl_L_50 : kw_CV RL 50 yX12_commit cX12_commit 5 (Option.some Jvm.ClassFile.FieldType.int) 2 := ⟨⟨kt_10, kt_1162, by decide, by decide, by decide +kernel⟩, kt_1159, kt_1160, kt_1161⟩
theorem cl_L_54 : kw_CV RL 54 yX12_give cX12_give 2 (Option.some Jvm.ClassFile.FieldType.int) 1 := ⟨⟨kt_10, kt_1166, by decide, by decide, by decide +kernel⟩, kt_1163, kt_1164, kt_1165⟩
theorem cl_L_58 : kw_CV RL 58 yX12_drop cX12_drop 2 (Option.some Jvm.ClassFile.FieldType.int) 1 := ⟨⟨kt_10, kt_1170, by decide, by decide, by decide +kernel⟩, kt_1167, kt_1168, kt_1169⟩
theorem cl_X12_225 : kw_CV RX12 225 yX12_isSnapshot cX12_isSnapshot 2 (Option.some Jvm.ClassFile.FieldType.boolean) 1 := ⟨⟨kt_10, kt_1174, by decide, by decide, by decide +kernel⟩, kt_1171, kt_1173, ks_31⟩
theorem cl_X12_228 : kw_CV RX12 228 yX12_goes cX12_goes 2 (Option.some Jvm.ClassFile.FieldType.boolean) 1 := ⟨⟨kt_10, kt_1178, by decide, by decide, by decide +kernel⟩, kt_1175, kt_1177, ks_32⟩
theorem cl_L_62 : kw_CV RL 62 yX12_rule cX12_rule 4 (Option.some Jvm.ClassFile.FieldType.int) 2 := ⟨⟨kt_10, kt_1182, by decide, by decide, by decide +kernel⟩, kt_1179, kt_1180, kt_1181⟩
theorem cl_L_66 : kw_CV RL 66 yX12_keeps cX12_keeps 2 (Option.some Jvm.ClassFile.FieldType.int) 1 := ⟨⟨kt_10, kt_1189, by decide, by decide, by decide +kernel⟩, kt_1186, kt_1187, kt_1188⟩
theorem cl_X12_261 : kw_CV RX12 261 yX12_keptBy cX12_keptBy 5 (Option.some Jvm.ClassFile.FieldType.int) 1 := ⟨⟨kt_10, kt_1193, by decide, by decide, by decide +kernel⟩, kt_1190, kt_1192, ks_33⟩
theorem cl_X12_251 : kw_CV RX12 251 yX12_behind cX12_behind 4 (Option.some Jvm.ClassFile.FieldType.int) 1 := ⟨⟨kt_10, kt_1197, by decide, by decide, by decide +kernel⟩, kt_1194, kt_1196, ks_34⟩
theorem cl_X12_258 : kw_CV RX12 258 yX12_spanKeeps cX12_spanKeeps 6 (Option.some Jvm.ClassFile.FieldType.boolean) 2 := ⟨⟨kt_10, kt_1201, by decide, by decide, by decide +kernel⟩, kt_1198, kt_1200, ks_35⟩
theorem cl_X12_254 : kw_CV RX12 254 yX12_spanOf cX12_spanOf 6 (Option.some Jvm.ClassFile.FieldType.long) 2 := ⟨⟨kt_10, kt_1205, by decide, by decide, by decide +kernel⟩, kt_1202, kt_1204, ks_36⟩
theorem cl_X12_239 : kw_CS RX12 239 yX12_floor cX12_floor 6 (Option.some Jvm.ClassFile.FieldType.long) 2 := ⟨⟨kt_10, kt_1209, by decide, by decide, by decide +kernel⟩, kt_1207, kt_1208⟩
theorem cl_X12_247 : kw_CV RX12 247 yX12_calendar cX12_calendar 13 (Option.some Jvm.ClassFile.FieldType.int) 2 := ⟨⟨kt_10, kt_1215, by decide, by decide, by decide +kernel⟩, kt_1212, kt_1213, kt_1214⟩
theorem cl_X12_334 : kw_CS RX12 334 yX12_daysOf cX12_daysOf 3 (Option.some Jvm.ClassFile.FieldType.int) 2 := ⟨⟨kt_10, kt_1222, by decide, by decide, by decide +kernel⟩, kt_1220, kt_1221⟩
theorem cl_L_71 : kw_CV RL 71 yX12_prune cX12_prune 7 (Option.some Jvm.ClassFile.FieldType.int) 1 := ⟨⟨kt_10, kt_1227, by decide, by decide, by decide +kernel⟩, kt_1224, kt_1225, kt_1226⟩
theorem cl_L_76 : kw_CV RL 76 yX12_sweep cX12_sweep 3 (Option.some Jvm.ClassFile.FieldType.int) 0 := ⟨⟨kt_10, kt_1231, by decide, by decide, by decide +kernel⟩, kt_1228, kt_1229, kt_1230⟩
theorem cl_X12_279 : kw_CV RX12 279 yX12_push cX12_push 2 (Option.none : Option Jvm.ClassFile.FieldType) 1 := ⟨⟨kt_10, kt_1235, by decide, by decide, by decide +kernel⟩, kt_1232, kt_1234, ks_37⟩
theorem cl_X12_282 : kw_CV RX12 282 yX12_settle cX12_settle 1 (Option.none : Option Jvm.ClassFile.FieldType) 0 := ⟨⟨kt_10, kt_1239, by decide, by decide, by decide +kernel⟩, kt_1236, kt_1238, ks_38⟩
theorem cl_L_80 : kw_CV RL 80 yX12_step cX12_step 4 (Option.some Jvm.ClassFile.FieldType.int) 1 := ⟨⟨kt_10, kt_1243, by decide, by decide, by decide +kernel⟩, kt_1240, kt_1241, kt_1242⟩
theorem cl_X12_301 : kw_CV RX12 301 yX12_mark cX12_mark 3 (Option.none : Option Jvm.ClassFile.FieldType) 0 := ⟨⟨kt_10, kt_1247, by decide, by decide, by decide +kernel⟩, kt_1244, kt_1246, ks_39⟩
theorem cl_X12_304 : kw_CV RX12 304 yX12_clear cX12_clear 2 (Option.some Jvm.ClassFile.FieldType.boolean) 0 := ⟨⟨kt_10, kt_1251, by decide, by decide, by decide +kernel⟩, kt_1248, kt_1250, ks_40⟩
theorem cl_X12_307 : kw_CV RX12 307 yX12_choose cX12_choose 3 (Option.some Jvm.ClassFile.FieldType.boolean) 0 := ⟨⟨kt_10, kt_1255, by decide, by decide, by decide +kernel⟩, kt_1252, kt_1254, ks_41⟩
theorem cl_X12_310 : kw_CV RX12 310 yX12_packStep cX12_packStep 6 (Option.some Jvm.ClassFile.FieldType.boolean) 0 := ⟨⟨kt_10, kt_1259, by decide, by decide, by decide +kernel⟩, kt_1256, kt_1258, ks_42⟩
theorem cl_X12_288 : kw_CV RX12 288 yX12_bytesIn cX12_bytesIn 4 (Option.some Jvm.ClassFile.FieldType.int) 1 := ⟨⟨kt_10, kt_1263, by decide, by decide, by decide +kernel⟩, kt_1260, kt_1262, ks_43⟩
theorem cl_X12_291 : kw_CV RX12 291 yX12_blocksIn cX12_blocksIn 4 (Option.some Jvm.ClassFile.FieldType.int) 1 := ⟨⟨kt_10, kt_1267, by decide, by decide, by decide +kernel⟩, kt_1264, kt_1266, ks_44⟩
theorem cl_X12_294 : kw_CV RX12 294 yX12_plan cX12_plan 12 (Option.some Jvm.ClassFile.FieldType.int) 2 := ⟨⟨kt_10, kt_1271, by decide, by decide, by decide +kernel⟩, kt_1268, kt_1270, ks_45⟩
theorem cl_L_84 : kw_CV RL 84 yX12_share cX12_share 3 (Option.some Jvm.ClassFile.FieldType.int) 1 := ⟨⟨kt_10, kt_1275, by decide, by decide, by decide +kernel⟩, kt_1272, kt_1273, kt_1274⟩
theorem cl_L_100 : kw_CV RL 100 yX12_count cX12_count 2 (Option.some Jvm.ClassFile.FieldType.int) 1 := ⟨⟨kt_10, kt_1071, by decide, by decide, by decide +kernel⟩, kt_1276, kt_1069, kt_1070⟩
theorem cl_L_104 : kw_CV RL 104 yX12_block cX12_block 3 (Option.some Jvm.ClassFile.FieldType.int) 2 := ⟨⟨kt_10, kt_1280, by decide, by decide, by decide +kernel⟩, kt_1277, kt_1278, kt_1279⟩
theorem cl_X12_319 : kw_CV RX12 319 yX12_usersOf cX12_usersOf 4 (Option.some Jvm.ClassFile.FieldType.int) 1 := ⟨⟨kt_10, kt_1284, by decide, by decide, by decide +kernel⟩, kt_1281, kt_1283, ks_46⟩
theorem cl_L_109 : kw_CV RL 109 yX12_key cX12_key 2 (Option.some Jvm.ClassFile.FieldType.long) 1 := ⟨⟨kt_10, kt_1290, by decide, by decide, by decide +kernel⟩, kt_1287, kt_1288, kt_1289⟩
theorem cl_L_113 : kw_CV RL 113 yX12_pack cX12_pack 3 (Option.some Jvm.ClassFile.FieldType.int) 2 := ⟨⟨kt_10, kt_1294, by decide, by decide, by decide +kernel⟩, kt_1291, kt_1292, kt_1293⟩
theorem cl_L_117 : kw_CV RL 117 yX12_snapshot cX12_snapshot 3 (Option.some Jvm.ClassFile.FieldType.int) 2 := ⟨⟨kt_10, kt_1298, by decide, by decide, by decide +kernel⟩, kt_1295, kt_1296, kt_1297⟩
theorem cl_L_121 : kw_CV RL 121 yX12_time cX12_time 2 (Option.some Jvm.ClassFile.FieldType.long) 1 := ⟨⟨kt_10, kt_1302, by decide, by decide, by decide +kernel⟩, kt_1299, kt_1300, kt_1301⟩
theorem cl_L_125 : kw_CV RL 125 yX12_saver cX12_saver 3 (Option.some Jvm.ClassFile.FieldType.int) 2 := ⟨⟨kt_10, kt_1306, by decide, by decide, by decide +kernel⟩, kt_1303, kt_1304, kt_1305⟩
theorem cl_L_129 : kw_CV RL 129 yX12_swept cX12_swept 2 (Option.some Jvm.ClassFile.FieldType.int) 1 := ⟨⟨kt_10, kt_1310, by decide, by decide, by decide +kernel⟩, kt_1307, kt_1308, kt_1309⟩
theorem cl_L_134 : kw_CV RL 134 yX12_calendar cX12_calendar 13 (Option.some Jvm.ClassFile.FieldType.int) 2 := ⟨⟨kt_10, kt_1215, by decide, by decide, by decide +kernel⟩, kt_1311, kt_1213, kt_1214⟩
theorem cl_L_96 : kw_CV RL 96 yX12_follow cX12_follow 3 (Option.some Jvm.ClassFile.FieldType.int) 2 := ⟨⟨kt_10, kt_1315, by decide, by decide, by decide +kernel⟩, kt_1312, kt_1313, kt_1314⟩
theorem cl_X12_339 : kw_CV RX12 339 yX12_isMirror cX12_isMirror 2 (Option.some Jvm.ClassFile.FieldType.boolean) 1 := ⟨⟨kt_10, kt_1319, by decide, by decide, by decide +kernel⟩, kt_1316, kt_1318, ks_47⟩
theorem cl_L_143 : kw_CV RL 143 yX12_has cX12_has 3 (Option.some Jvm.ClassFile.FieldType.boolean) 2 := ⟨⟨kt_10, kt_1323, by decide, by decide, by decide +kernel⟩, kt_1320, kt_1321, kt_1322⟩
theorem cl_X12_342 : kw_CV RX12 342 yX12_mirrorHas cX12_mirrorHas 6 (Option.some Jvm.ClassFile.FieldType.boolean) 3 := ⟨⟨kt_10, kt_1327, by decide, by decide, by decide +kernel⟩, kt_1324, kt_1326, ks_48⟩
theorem cl_L_138 : kw_CV RL 138 yX12_mirrored cX12_mirrored 5 (Option.some Jvm.ClassFile.FieldType.int) 2 := ⟨⟨kt_10, kt_1331, by decide, by decide, by decide +kernel⟩, kt_1328, kt_1329, kt_1330⟩
theorem cl_X12_346 : kw_CV RX12 346 yX12_lacks cX12_lacks 6 (Option.some Jvm.ClassFile.FieldType.boolean) 2 := ⟨⟨kt_10, kt_1335, by decide, by decide, by decide +kernel⟩, kt_1332, kt_1334, ks_49⟩
theorem cl_L_147 : kw_CV RL 147 yX12_audit cX12_audit 4 (Option.some Jvm.ClassFile.FieldType.int) 0 := ⟨⟨kt_10, kt_1339, by decide, by decide, by decide +kernel⟩, kt_1336, kt_1337, kt_1338⟩
theorem cl_X12_349 : kw_CV RX12 349 yX12_wrongPlaces cX12_wrongPlaces 6 (Option.some Jvm.ClassFile.FieldType.int) 0 := ⟨⟨kt_10, kt_1343, by decide, by decide, by decide +kernel⟩, kt_1340, kt_1342, ks_50⟩
theorem cl_X12_352 : kw_CV RX12 352 yX12_lostFrom cX12_lostFrom 4 (Option.some Jvm.ClassFile.FieldType.int) 1 := ⟨⟨kt_10, kt_1347, by decide, by decide, by decide +kernel⟩, kt_1344, kt_1346, ks_51⟩
theorem cl_X11_9 : kw_CIN RX11 9 yX2_init cX2_init 1 0 "SafeSweeps" := ⟨⟨kt_2, kt_29, by decide, by decide, by decide +kernel⟩, List.mem_of_getElem? (i := 0) (by decide +kernel), kt_28, rfl⟩
theorem cl_X11_45 : kw_CIN RX11 45 yX6_init cX6_init 1 0 "SafeSweeps" := ⟨⟨kt_7, kt_198, by decide, by decide, by decide +kernel⟩, List.mem_of_getElem? (i := 1) (by decide +kernel), kt_197, rfl⟩
theorem cl_X11_56 : kw_CIN RX11 56 yX7_init cX7_init 1 0 "SafeSweeps" := ⟨⟨kt_8, kt_214, by decide, by decide, by decide +kernel⟩, List.mem_of_getElem? (i := 2) (by decide +kernel), kt_213, rfl⟩
theorem cl_X11_69 : kw_CIN RX11 69 yX3_init cX3_init 1 0 "SafeSweeps" := ⟨⟨kt_9, kt_250, by decide, by decide, by decide +kernel⟩, List.mem_of_getElem? (i := 3) (by decide +kernel), kt_249, rfl⟩
theorem cl_X9_81 : kw_CIN RX9 81 yX5_init cX5_init 1 0 "SafeSweeps" := ⟨⟨kt_14, kt_447, by decide, by decide, by decide +kernel⟩, List.mem_of_getElem? (i := 4) (by decide +kernel), kt_446, rfl⟩
end
section
theorem dX0_init_0 : decode cX0_init 0 = .ok (.aload_n 0, 1) := by decide +kernel
theorem dX0_init_1 : decode cX0_init 1 = .ok (.invokespecial 1, 3) := by decide +kernel
theorem dX0_init_4 : decode cX0_init 4 = .ok (.aload_n 0, 1) := by decide +kernel
theorem dX0_init_5 : decode cX0_init 5 = .ok (.lload_n 1, 1) := by decide +kernel
theorem dX0_init_6 : decode cX0_init 6 = .ok (.putfield 7, 3) := by decide +kernel
theorem dX0_init_9 : decode cX0_init 9 = .ok (.aload_n 0, 1) := by decide +kernel
theorem dX0_init_10 : decode cX0_init 10 = .ok (.iload_n 3, 1) := by decide +kernel
theorem dX0_init_11 : decode cX0_init 11 = .ok (.putfield 13, 3) := by decide +kernel
theorem dX0_init_14 : decode cX0_init 14 = .ok (.aload_n 0, 1) := by decide +kernel
theorem dX0_init_15 : decode cX0_init 15 = .ok (.aload 4, 2) := by decide +kernel
theorem dX0_init_17 : decode cX0_init 17 = .ok (.putfield 17, 3) := by decide +kernel
theorem dX0_init_20 : decode cX0_init 20 = .ok (.return_, 1) := by decide +kernel
theorem dX0_isLike_0 : decode cX0_isLike 0 = .ok (.aload_n 0, 1) := by decide +kernel
theorem dX0_isLike_1 : decode cX0_isLike 1 = .ok (.getfield 7, 3) := by decide +kernel
theorem dX0_isLike_4 : decode cX0_isLike 4 = .ok (.lload_n 1, 1) := by decide +kernel
theorem dX0_isLike_5 : decode cX0_isLike 5 = .ok (.lcmp, 1) := by decide +kernel
theorem dX0_isLike_6 : decode cX0_isLike 6 = .ok (.ifCond .ne 21, 3) := by decide +kernel
theorem dX0_isLike_9 : decode cX0_isLike 9 = .ok (.aload_n 0, 1) := by decide +kernel
theorem dX0_isLike_10 : decode cX0_isLike 10 = .ok (.getfield 13, 3) := by decide +kernel
theorem dX0_isLike_13 : decode cX0_isLike 13 = .ok (.iload_n 3, 1) := by decide +kernel
theorem dX0_isLike_14 : decode cX0_isLike 14 = .ok (.if_icmp .ne 13, 3) := by decide +kernel
theorem dX0_isLike_17 : decode cX0_isLike 17 = .ok (.aload_n 0, 1) := by decide +kernel
theorem dX0_isLike_18 : decode cX0_isLike 18 = .ok (.getfield 17, 3) := by decide +kernel
theorem dX0_isLike_21 : decode cX0_isLike 21 = .ok (.arraylength, 1) := by decide +kernel
theorem dX0_isLike_22 : decode cX0_isLike 22 = .ok (.iload 5, 2) := by decide +kernel
theorem dX0_isLike_24 : decode cX0_isLike 24 = .ok (.if_icmp .eq 5, 3) := by decide +kernel
theorem dX0_isLike_27 : decode cX0_isLike 27 = .ok (.iconst 0, 1) := by decide +kernel
theorem dX0_isLike_28 : decode cX0_isLike 28 = .ok (.ireturn, 1) := by decide +kernel
theorem dX0_isLike_29 : decode cX0_isLike 29 = .ok (.iconst 0, 1) := by decide +kernel
theorem dX0_isLike_30 : decode cX0_isLike 30 = .ok (.istore 6, 2) := by decide +kernel
theorem dX0_isLike_32 : decode cX0_isLike 32 = .ok (.iload 6, 2) := by decide +kernel
theorem dX0_isLike_34 : decode cX0_isLike 34 = .ok (.iload 5, 2) := by decide +kernel
theorem dX0_isLike_36 : decode cX0_isLike 36 = .ok (.if_icmp .ge 26, 3) := by decide +kernel
theorem dX0_isLike_39 : decode cX0_isLike 39 = .ok (.aload_n 0, 1) := by decide +kernel
theorem dX0_isLike_40 : decode cX0_isLike 40 = .ok (.getfield 17, 3) := by decide +kernel
theorem dX0_isLike_43 : decode cX0_isLike 43 = .ok (.iload 6, 2) := by decide +kernel
theorem dX0_isLike_45 : decode cX0_isLike 45 = .ok (.iaload, 1) := by decide +kernel
theorem dX0_isLike_46 : decode cX0_isLike 46 = .ok (.aload 4, 2) := by decide +kernel
theorem dX0_isLike_48 : decode cX0_isLike 48 = .ok (.iload 6, 2) := by decide +kernel
theorem dX0_isLike_50 : decode cX0_isLike 50 = .ok (.iaload, 1) := by decide +kernel
theorem dX0_isLike_51 : decode cX0_isLike 51 = .ok (.if_icmp .eq 5, 3) := by decide +kernel
theorem dX0_isLike_54 : decode cX0_isLike 54 = .ok (.iconst 0, 1) := by decide +kernel
theorem dX0_isLike_55 : decode cX0_isLike 55 = .ok (.ireturn, 1) := by decide +kernel
theorem dX0_isLike_56 : decode cX0_isLike 56 = .ok (.iinc 6 1, 3) := by decide +kernel
theorem dX0_isLike_59 : decode cX0_isLike 59 = .ok (.goto (-27), 3) := by decide +kernel
theorem dX0_isLike_62 : decode cX0_isLike 62 = .ok (.iconst 1, 1) := by decide +kernel
theorem dX0_isLike_63 : decode cX0_isLike 63 = .ok (.ireturn, 1) := by decide +kernel
theorem dX1_dayOf_0 : decode cX1_dayOf 0 = .ok (.lload_n 0, 1) := by decide +kernel
theorem dX1_dayOf_1 : decode cX1_dayOf 1 = .ok (.ldc2_w 9, 3) := by decide +kernel
theorem dX1_dayOf_4 : decode cX1_dayOf 4 = .ok (.invokestatic 11, 3) := by decide +kernel
theorem dX1_dayOf_7 : decode cX1_dayOf 7 = .ok (.lreturn, 1) := by decide +kernel
theorem dX1_weekOf_0 : decode cX1_weekOf 0 = .ok (.lload_n 0, 1) := by decide +kernel
theorem dX1_weekOf_1 : decode cX1_weekOf 1 = .ok (.ldc2_w 17, 3) := by decide +kernel
theorem dX1_weekOf_4 : decode cX1_weekOf 4 = .ok (.ladd, 1) := by decide +kernel
theorem dX1_weekOf_5 : decode cX1_weekOf 5 = .ok (.ldc2_w 19, 3) := by decide +kernel
theorem dX1_weekOf_8 : decode cX1_weekOf 8 = .ok (.invokestatic 11, 3) := by decide +kernel
theorem dX1_weekOf_11 : decode cX1_weekOf 11 = .ok (.lreturn, 1) := by decide +kernel
theorem dX1_dayOfWeek_0 : decode cX1_dayOfWeek 0 = .ok (.lload_n 0, 1) := by decide +kernel
theorem dX1_dayOfWeek_1 : decode cX1_dayOfWeek 1 = .ok (.ldc2_w 17, 3) := by decide +kernel
theorem dX1_dayOfWeek_4 : decode cX1_dayOfWeek 4 = .ok (.ladd, 1) := by decide +kernel
theorem dX1_dayOfWeek_5 : decode cX1_dayOfWeek 5 = .ok (.ldc2_w 19, 3) := by decide +kernel
theorem dX1_dayOfWeek_8 : decode cX1_dayOfWeek 8 = .ok (.invokestatic 21, 3) := by decide +kernel
theorem dX1_dayOfWeek_11 : decode cX1_dayOfWeek 11 = .ok (.l2i, 1) := by decide +kernel
theorem dX1_dayOfWeek_12 : decode cX1_dayOfWeek 12 = .ok (.ireturn, 1) := by decide +kernel
theorem dX1_yearOf_0 : decode cX1_yearOf 0 = .ok (.lload_n 0, 1) := by decide +kernel
theorem dX1_yearOf_1 : decode cX1_yearOf 1 = .ok (.invokestatic 24, 3) := by decide +kernel
theorem dX1_yearOf_4 : decode cX1_yearOf 4 = .ok (.ldc2_w 28, 3) := by decide +kernel
theorem dX1_yearOf_7 : decode cX1_yearOf 7 = .ok (.invokestatic 11, 3) := by decide +kernel
theorem dX1_yearOf_10 : decode cX1_yearOf 10 = .ok (.lreturn, 1) := by decide +kernel
theorem dX1_monthOf_0 : decode cX1_monthOf 0 = .ok (.lload_n 0, 1) := by decide +kernel
theorem dX1_monthOf_1 : decode cX1_monthOf 1 = .ok (.invokestatic 24, 3) := by decide +kernel
theorem dX1_monthOf_4 : decode cX1_monthOf 4 = .ok (.ldc2_w 28, 3) := by decide +kernel
theorem dX1_monthOf_7 : decode cX1_monthOf 7 = .ok (.invokestatic 21, 3) := by decide +kernel
theorem dX1_monthOf_10 : decode cX1_monthOf 10 = .ok (.l2i, 1) := by decide +kernel
theorem dX1_monthOf_11 : decode cX1_monthOf 11 = .ok (.iconst 1, 1) := by decide +kernel
theorem dX1_monthOf_12 : decode cX1_monthOf 12 = .ok (.iadd, 1) := by decide +kernel
theorem dX1_monthOf_13 : decode cX1_monthOf 13 = .ok (.ireturn, 1) := by decide +kernel
theorem dX1_dayOfMonth_0 : decode cX1_dayOfMonth 0 = .ok (.lload_n 0, 1) := by decide +kernel
theorem dX1_dayOfMonth_1 : decode cX1_dayOfMonth 1 = .ok (.invokestatic 30, 3) := by decide +kernel
theorem dX1_dayOfMonth_4 : decode cX1_dayOfMonth 4 = .ok (.lstore_n 2, 1) := by decide +kernel
theorem dX1_dayOfMonth_5 : decode cX1_dayOfMonth 5 = .ok (.lload_n 2, 1) := by decide +kernel
theorem dX1_dayOfMonth_6 : decode cX1_dayOfMonth 6 = .ok (.lload_n 2, 1) := by decide +kernel
theorem dX1_dayOfMonth_7 : decode cX1_dayOfMonth 7 = .ok (.invokestatic 33, 3) := by decide +kernel
theorem dX1_dayOfMonth_10 : decode cX1_dayOfMonth 10 = .ok (.invokestatic 36, 3) := by decide +kernel
theorem dX1_dayOfMonth_13 : decode cX1_dayOfMonth 13 = .ok (.lstore 4, 2) := by decide +kernel
theorem dX1_dayOfMonth_15 : decode cX1_dayOfMonth 15 = .ok (.lload 4, 2) := by decide +kernel
theorem dX1_dayOfMonth_17 : decode cX1_dayOfMonth 17 = .ok (.lload 4, 2) := by decide +kernel
theorem dX1_dayOfMonth_19 : decode cX1_dayOfMonth 19 = .ok (.invokestatic 39, 3) := by decide +kernel
theorem dX1_dayOfMonth_22 : decode cX1_dayOfMonth 22 = .ok (.invokestatic 42, 3) := by decide +kernel
theorem dX1_dayOfMonth_25 : decode cX1_dayOfMonth 25 = .ok (.lsub, 1) := by decide +kernel
theorem dX1_dayOfMonth_26 : decode cX1_dayOfMonth 26 = .ok (.l2i, 1) := by decide +kernel
theorem dX1_dayOfMonth_27 : decode cX1_dayOfMonth 27 = .ok (.iconst 1, 1) := by decide +kernel
theorem dX1_dayOfMonth_28 : decode cX1_dayOfMonth 28 = .ok (.iadd, 1) := by decide +kernel
theorem dX1_dayOfMonth_29 : decode cX1_dayOfMonth 29 = .ok (.ireturn, 1) := by decide +kernel
theorem dX1_monthsUpTo_0 : decode cX1_monthsUpTo 0 = .ok (.lload_n 0, 1) := by decide +kernel
theorem dX1_monthsUpTo_1 : decode cX1_monthsUpTo 1 = .ok (.ldc2_w 45, 3) := by decide +kernel
theorem dX1_monthsUpTo_4 : decode cX1_monthsUpTo 4 = .ok (.ladd, 1) := by decide +kernel
theorem dX1_monthsUpTo_5 : decode cX1_monthsUpTo 5 = .ok (.ldc2_w 47, 3) := by decide +kernel
theorem dX1_monthsUpTo_8 : decode cX1_monthsUpTo 8 = .ok (.invokestatic 11, 3) := by decide +kernel
theorem dX1_monthsUpTo_11 : decode cX1_monthsUpTo 11 = .ok (.lstore_n 2, 1) := by decide +kernel
theorem dX1_monthsUpTo_12 : decode cX1_monthsUpTo 12 = .ok (.lload_n 0, 1) := by decide +kernel
theorem dX1_monthsUpTo_13 : decode cX1_monthsUpTo 13 = .ok (.invokestatic 30, 3) := by decide +kernel
theorem dX1_monthsUpTo_16 : decode cX1_monthsUpTo 16 = .ok (.lstore 4, 2) := by decide +kernel
theorem dX1_monthsUpTo_18 : decode cX1_monthsUpTo 18 = .ok (.lload 4, 2) := by decide +kernel
theorem dX1_monthsUpTo_20 : decode cX1_monthsUpTo 20 = .ok (.invokestatic 33, 3) := by decide +kernel
theorem dX1_monthsUpTo_23 : decode cX1_monthsUpTo 23 = .ok (.lstore 6, 2) := by decide +kernel
theorem dX1_monthsUpTo_25 : decode cX1_monthsUpTo 25 = .ok (.ldc2_w 28, 3) := by decide +kernel
theorem dX1_monthsUpTo_28 : decode cX1_monthsUpTo 28 = .ok (.ldc2_w 49, 3) := by decide +kernel
theorem dX1_monthsUpTo_31 : decode cX1_monthsUpTo 31 = .ok (.lload_n 2, 1) := by decide +kernel
theorem dX1_monthsUpTo_32 : decode cX1_monthsUpTo 32 = .ok (.lmul, 1) := by decide +kernel
theorem dX1_monthsUpTo_33 : decode cX1_monthsUpTo 33 = .ok (.lload 6, 2) := by decide +kernel
theorem dX1_monthsUpTo_35 : decode cX1_monthsUpTo 35 = .ok (.ladd, 1) := by decide +kernel
theorem dX1_monthsUpTo_36 : decode cX1_monthsUpTo 36 = .ok (.lmul, 1) := by decide +kernel
theorem dX1_monthsUpTo_37 : decode cX1_monthsUpTo 37 = .ok (.lload 4, 2) := by decide +kernel
theorem dX1_monthsUpTo_39 : decode cX1_monthsUpTo 39 = .ok (.lload 6, 2) := by decide +kernel
theorem dX1_monthsUpTo_41 : decode cX1_monthsUpTo 41 = .ok (.invokestatic 36, 3) := by decide +kernel
theorem dX1_monthsUpTo_44 : decode cX1_monthsUpTo 44 = .ok (.invokestatic 39, 3) := by decide +kernel
theorem dX1_monthsUpTo_47 : decode cX1_monthsUpTo 47 = .ok (.ladd, 1) := by decide +kernel
theorem dX1_monthsUpTo_48 : decode cX1_monthsUpTo 48 = .ok (.ldc2_w 51, 3) := by decide +kernel
theorem dX1_monthsUpTo_51 : decode cX1_monthsUpTo 51 = .ok (.ladd, 1) := by decide +kernel
theorem dX1_monthsUpTo_52 : decode cX1_monthsUpTo 52 = .ok (.lreturn, 1) := by decide +kernel
theorem dX1_dayOfEra_0 : decode cX1_dayOfEra 0 = .ok (.lload_n 0, 1) := by decide +kernel
theorem dX1_dayOfEra_1 : decode cX1_dayOfEra 1 = .ok (.ldc2_w 45, 3) := by decide +kernel
theorem dX1_dayOfEra_4 : decode cX1_dayOfEra 4 = .ok (.ladd, 1) := by decide +kernel
theorem dX1_dayOfEra_5 : decode cX1_dayOfEra 5 = .ok (.ldc2_w 47, 3) := by decide +kernel
theorem dX1_dayOfEra_8 : decode cX1_dayOfEra 8 = .ok (.invokestatic 21, 3) := by decide +kernel
theorem dX1_dayOfEra_11 : decode cX1_dayOfEra 11 = .ok (.lreturn, 1) := by decide +kernel
theorem dX1_marchYearOfEra_0 : decode cX1_marchYearOfEra 0 = .ok (.lload_n 0, 1) := by decide +kernel
theorem dX1_marchYearOfEra_1 : decode cX1_marchYearOfEra 1 = .ok (.ldc2_w 53, 3) := by decide +kernel
theorem dX1_marchYearOfEra_4 : decode cX1_marchYearOfEra 4 = .ok (.ldiv, 1) := by decide +kernel
theorem dX1_marchYearOfEra_5 : decode cX1_marchYearOfEra 5 = .ok (.lload_n 0, 1) := by decide +kernel
theorem dX1_marchYearOfEra_6 : decode cX1_marchYearOfEra 6 = .ok (.ldc2_w 55, 3) := by decide +kernel
theorem dX1_marchYearOfEra_9 : decode cX1_marchYearOfEra 9 = .ok (.ldiv, 1) := by decide +kernel
theorem dX1_marchYearOfEra_10 : decode cX1_marchYearOfEra 10 = .ok (.lsub, 1) := by decide +kernel
theorem dX1_marchYearOfEra_11 : decode cX1_marchYearOfEra 11 = .ok (.lload_n 0, 1) := by decide +kernel
theorem dX1_marchYearOfEra_12 : decode cX1_marchYearOfEra 12 = .ok (.ldc2_w 57, 3) := by decide +kernel
theorem dX1_marchYearOfEra_15 : decode cX1_marchYearOfEra 15 = .ok (.ldiv, 1) := by decide +kernel
theorem dX1_marchYearOfEra_16 : decode cX1_marchYearOfEra 16 = .ok (.ladd, 1) := by decide +kernel
theorem dX1_marchYearOfEra_17 : decode cX1_marchYearOfEra 17 = .ok (.lstore_n 2, 1) := by decide +kernel
theorem dX1_marchYearOfEra_18 : decode cX1_marchYearOfEra 18 = .ok (.lload_n 0, 1) := by decide +kernel
theorem dX1_marchYearOfEra_19 : decode cX1_marchYearOfEra 19 = .ok (.lload_n 2, 1) := by decide +kernel
theorem dX1_marchYearOfEra_20 : decode cX1_marchYearOfEra 20 = .ok (.lsub, 1) := by decide +kernel
theorem dX1_marchYearOfEra_21 : decode cX1_marchYearOfEra 21 = .ok (.ldc2_w 59, 3) := by decide +kernel
theorem dX1_marchYearOfEra_24 : decode cX1_marchYearOfEra 24 = .ok (.ldiv, 1) := by decide +kernel
theorem dX1_marchYearOfEra_25 : decode cX1_marchYearOfEra 25 = .ok (.lreturn, 1) := by decide +kernel
theorem dX1_dayOfMarchYear_0 : decode cX1_dayOfMarchYear 0 = .ok (.lload_n 0, 1) := by decide +kernel
theorem dX1_dayOfMarchYear_1 : decode cX1_dayOfMarchYear 1 = .ok (.ldc2_w 59, 3) := by decide +kernel
theorem dX1_dayOfMarchYear_4 : decode cX1_dayOfMarchYear 4 = .ok (.lload_n 2, 1) := by decide +kernel
theorem dX1_dayOfMarchYear_5 : decode cX1_dayOfMarchYear 5 = .ok (.lmul, 1) := by decide +kernel
theorem dX1_dayOfMarchYear_6 : decode cX1_dayOfMarchYear 6 = .ok (.lload_n 2, 1) := by decide +kernel
theorem dX1_dayOfMarchYear_7 : decode cX1_dayOfMarchYear 7 = .ok (.ldc2_w 61, 3) := by decide +kernel
theorem dX1_dayOfMarchYear_10 : decode cX1_dayOfMarchYear 10 = .ok (.ldiv, 1) := by decide +kernel
theorem dX1_dayOfMarchYear_11 : decode cX1_dayOfMarchYear 11 = .ok (.ladd, 1) := by decide +kernel
theorem dX1_dayOfMarchYear_12 : decode cX1_dayOfMarchYear 12 = .ok (.lload_n 2, 1) := by decide +kernel
theorem dX1_dayOfMarchYear_13 : decode cX1_dayOfMarchYear 13 = .ok (.ldc2_w 63, 3) := by decide +kernel
theorem dX1_dayOfMarchYear_16 : decode cX1_dayOfMarchYear 16 = .ok (.ldiv, 1) := by decide +kernel
theorem dX1_dayOfMarchYear_17 : decode cX1_dayOfMarchYear 17 = .ok (.lsub, 1) := by decide +kernel
theorem dX1_dayOfMarchYear_18 : decode cX1_dayOfMarchYear 18 = .ok (.lsub, 1) := by decide +kernel
theorem dX1_dayOfMarchYear_19 : decode cX1_dayOfMarchYear 19 = .ok (.lreturn, 1) := by decide +kernel
theorem dX1_marchMonth_0 : decode cX1_marchMonth 0 = .ok (.ldc2_w 65, 3) := by decide +kernel
theorem dX1_marchMonth_3 : decode cX1_marchMonth 3 = .ok (.lload_n 0, 1) := by decide +kernel
theorem dX1_marchMonth_4 : decode cX1_marchMonth 4 = .ok (.lmul, 1) := by decide +kernel
theorem dX1_marchMonth_5 : decode cX1_marchMonth 5 = .ok (.ldc2_w 51, 3) := by decide +kernel
theorem dX1_marchMonth_8 : decode cX1_marchMonth 8 = .ok (.ladd, 1) := by decide +kernel
theorem dX1_marchMonth_9 : decode cX1_marchMonth 9 = .ok (.ldc2_w 67, 3) := by decide +kernel
theorem dX1_marchMonth_12 : decode cX1_marchMonth 12 = .ok (.ldiv, 1) := by decide +kernel
theorem dX1_marchMonth_13 : decode cX1_marchMonth 13 = .ok (.lreturn, 1) := by decide +kernel
theorem dX1_daysBeforeMarchMonth_0 : decode cX1_daysBeforeMarchMonth 0 = .ok (.ldc2_w 67, 3) := by decide +kernel
theorem dX1_daysBeforeMarchMonth_3 : decode cX1_daysBeforeMarchMonth 3 = .ok (.lload_n 0, 1) := by decide +kernel
theorem dX1_daysBeforeMarchMonth_4 : decode cX1_daysBeforeMarchMonth 4 = .ok (.lmul, 1) := by decide +kernel
theorem dX1_daysBeforeMarchMonth_5 : decode cX1_daysBeforeMarchMonth 5 = .ok (.ldc2_w 51, 3) := by decide +kernel
theorem dX1_daysBeforeMarchMonth_8 : decode cX1_daysBeforeMarchMonth 8 = .ok (.ladd, 1) := by decide +kernel
theorem dX1_daysBeforeMarchMonth_9 : decode cX1_daysBeforeMarchMonth 9 = .ok (.ldc2_w 65, 3) := by decide +kernel
theorem dX1_daysBeforeMarchMonth_12 : decode cX1_daysBeforeMarchMonth 12 = .ok (.ldiv, 1) := by decide +kernel
theorem dX1_daysBeforeMarchMonth_13 : decode cX1_daysBeforeMarchMonth 13 = .ok (.lreturn, 1) := by decide +kernel
theorem dX2_init_0 : decode cX2_init 0 = .ok (.aload_n 0, 1) := by decide +kernel
theorem dX2_init_1 : decode cX2_init 1 = .ok (.invokespecial 3, 3) := by decide +kernel
theorem dX2_init_4 : decode cX2_init 4 = .ok (.aload_n 0, 1) := by decide +kernel
theorem dX2_init_5 : decode cX2_init 5 = .ok (.sipush 240, 3) := by decide +kernel
theorem dX2_init_8 : decode cX2_init 8 = .ok (.newarray .int, 2) := by decide +kernel
theorem dX2_init_10 : decode cX2_init 10 = .ok (.putfield 11, 3) := by decide +kernel
theorem dX2_init_13 : decode cX2_init 13 = .ok (.aload_n 0, 1) := by decide +kernel
theorem dX2_init_14 : decode cX2_init 14 = .ok (.sipush 240, 3) := by decide +kernel
theorem dX2_init_17 : decode cX2_init 17 = .ok (.newarray .int, 2) := by decide +kernel
theorem dX2_init_19 : decode cX2_init 19 = .ok (.putfield 15, 3) := by decide +kernel
theorem dX2_init_22 : decode cX2_init 22 = .ok (.aload_n 0, 1) := by decide +kernel
theorem dX2_init_23 : decode cX2_init 23 = .ok (.iconst (-1), 1) := by decide +kernel
theorem dX2_init_24 : decode cX2_init 24 = .ok (.putfield 18, 3) := by decide +kernel
theorem dX2_init_27 : decode cX2_init 27 = .ok (.return_, 1) := by decide +kernel
theorem dX2_write_0 : decode cX2_write 0 = .ok (.aload_n 0, 1) := by decide +kernel
theorem dX2_write_1 : decode cX2_write 1 = .ok (.getfield 18, 3) := by decide +kernel
theorem dX2_write_4 : decode cX2_write 4 = .ok (.ifCond .ne 15, 3) := by decide +kernel
theorem dX2_write_7 : decode cX2_write 7 = .ok (.aload_n 0, 1) := by decide +kernel
theorem dX2_write_8 : decode cX2_write 8 = .ok (.iconst (-1), 1) := by decide +kernel
theorem dX2_write_9 : decode cX2_write 9 = .ok (.putfield 18, 3) := by decide +kernel
theorem dX2_write_12 : decode cX2_write 12 = .ok (.aload_n 0, 1) := by decide +kernel
theorem dX2_write_13 : decode cX2_write 13 = .ok (.iconst 1, 1) := by decide +kernel
theorem dX2_write_14 : decode cX2_write 14 = .ok (.putfield 22, 3) := by decide +kernel
theorem dX2_write_17 : decode cX2_write 17 = .ok (.iconst 0, 1) := by decide +kernel
theorem dX2_write_18 : decode cX2_write 18 = .ok (.ireturn, 1) := by decide +kernel
theorem dX2_write_19 : decode cX2_write 19 = .ok (.aload_n 0, 1) := by decide +kernel
theorem dX2_write_20 : decode cX2_write 20 = .ok (.getfield 18, 3) := by decide +kernel
theorem dX2_write_23 : decode cX2_write 23 = .ok (.ifCond .le 13, 3) := by decide +kernel
theorem dX2_write_26 : decode cX2_write 26 = .ok (.aload_n 0, 1) := by decide +kernel
theorem dX2_write_27 : decode cX2_write 27 = .ok (.dup, 1) := by decide +kernel
theorem dX2_write_28 : decode cX2_write 28 = .ok (.getfield 18, 3) := by decide +kernel
theorem dX2_write_31 : decode cX2_write 31 = .ok (.iconst 1, 1) := by decide +kernel
theorem dX2_write_32 : decode cX2_write 32 = .ok (.isub, 1) := by decide +kernel
theorem dX2_write_33 : decode cX2_write 33 = .ok (.putfield 18, 3) := by decide +kernel
theorem dX2_write_36 : decode cX2_write 36 = .ok (.aload_n 0, 1) := by decide +kernel
theorem dX2_write_37 : decode cX2_write 37 = .ok (.dup, 1) := by decide +kernel
theorem dX2_write_38 : decode cX2_write 38 = .ok (.getfield 26, 3) := by decide +kernel
theorem dX2_write_41 : decode cX2_write 41 = .ok (.iconst 1, 1) := by decide +kernel
theorem dX2_write_42 : decode cX2_write 42 = .ok (.iadd, 1) := by decide +kernel
theorem dX2_write_43 : decode cX2_write 43 = .ok (.putfield 26, 3) := by decide +kernel
theorem dX2_write_46 : decode cX2_write 46 = .ok (.iconst 1, 1) := by decide +kernel
theorem dX2_write_47 : decode cX2_write 47 = .ok (.ireturn, 1) := by decide +kernel
theorem dX2_write__0 : decode cX2_write_ 0 = .ok (.aload_n 0, 1) := by decide +kernel
theorem dX2_write__1 : decode cX2_write_ 1 = .ok (.invokevirtual 29, 3) := by decide +kernel
theorem dX2_write__4 : decode cX2_write_ 4 = .ok (.ifCond .ne 5, 3) := by decide +kernel
theorem dX2_write__7 : decode cX2_write_ 7 = .ok (.iconst 0, 1) := by decide +kernel
theorem dX2_write__8 : decode cX2_write_ 8 = .ok (.ireturn, 1) := by decide +kernel
theorem dX2_write__9 : decode cX2_write_ 9 = .ok (.aload_n 0, 1) := by decide +kernel
theorem dX2_write__10 : decode cX2_write_ 10 = .ok (.getfield 33, 3) := by decide +kernel
theorem dX2_write__13 : decode cX2_write_ 13 = .ok (.sipush 240, 3) := by decide +kernel
theorem dX2_write__16 : decode cX2_write_ 16 = .ok (.if_icmp .ge 33, 3) := by decide +kernel
theorem dX2_write__19 : decode cX2_write_ 19 = .ok (.aload_n 0, 1) := by decide +kernel
theorem dX2_write__20 : decode cX2_write_ 20 = .ok (.getfield 11, 3) := by decide +kernel
theorem dX2_write__23 : decode cX2_write_ 23 = .ok (.aload_n 0, 1) := by decide +kernel
theorem dX2_write__24 : decode cX2_write_ 24 = .ok (.getfield 33, 3) := by decide +kernel
theorem dX2_write__27 : decode cX2_write_ 27 = .ok (.iload_n 1, 1) := by decide +kernel
theorem dX2_write__28 : decode cX2_write_ 28 = .ok (.iastore, 1) := by decide +kernel
theorem dX2_write__29 : decode cX2_write_ 29 = .ok (.aload_n 0, 1) := by decide +kernel
theorem dX2_write__30 : decode cX2_write_ 30 = .ok (.getfield 15, 3) := by decide +kernel
theorem dX2_write__33 : decode cX2_write_ 33 = .ok (.aload_n 0, 1) := by decide +kernel
theorem dX2_write__34 : decode cX2_write_ 34 = .ok (.getfield 33, 3) := by decide +kernel
theorem dX2_write__37 : decode cX2_write_ 37 = .ok (.iload_n 2, 1) := by decide +kernel
theorem dX2_write__38 : decode cX2_write_ 38 = .ok (.iastore, 1) := by decide +kernel
theorem dX2_write__39 : decode cX2_write_ 39 = .ok (.aload_n 0, 1) := by decide +kernel
theorem dX2_write__40 : decode cX2_write_ 40 = .ok (.dup, 1) := by decide +kernel
theorem dX2_write__41 : decode cX2_write_ 41 = .ok (.getfield 33, 3) := by decide +kernel
theorem dX2_write__44 : decode cX2_write_ 44 = .ok (.iconst 1, 1) := by decide +kernel
theorem dX2_write__45 : decode cX2_write_ 45 = .ok (.iadd, 1) := by decide +kernel
theorem dX2_write__46 : decode cX2_write_ 46 = .ok (.putfield 33, 3) := by decide +kernel
theorem dX2_write__49 : decode cX2_write_ 49 = .ok (.iconst 1, 1) := by decide +kernel
theorem dX2_write__50 : decode cX2_write_ 50 = .ok (.ireturn, 1) := by decide +kernel
theorem dX3_init_0 : decode cX3_init 0 = .ok (.aload_n 0, 1) := by decide +kernel
theorem dX3_init_1 : decode cX3_init 1 = .ok (.invokespecial 3, 3) := by decide +kernel
theorem dX3_init_4 : decode cX3_init 4 = .ok (.aload_n 0, 1) := by decide +kernel
theorem dX3_init_5 : decode cX3_init 5 = .ok (.bipush 80, 2) := by decide +kernel
theorem dX3_init_7 : decode cX3_init 7 = .ok (.newarray .boolean, 2) := by decide +kernel
theorem dX3_init_9 : decode cX3_init 9 = .ok (.putfield 9, 3) := by decide +kernel
theorem dX3_init_12 : decode cX3_init 12 = .ok (.aload_n 0, 1) := by decide +kernel
theorem dX3_init_13 : decode cX3_init 13 = .ok (.bipush 40, 2) := by decide +kernel
theorem dX3_init_15 : decode cX3_init 15 = .ok (.newarray .boolean, 2) := by decide +kernel
theorem dX3_init_17 : decode cX3_init 17 = .ok (.putfield 15, 3) := by decide +kernel
theorem dX3_init_20 : decode cX3_init 20 = .ok (.return_, 1) := by decide +kernel
theorem dX3_repeat_0 : decode cX3_repeat 0 = .ok (.aload_n 1, 1) := by decide +kernel
theorem dX3_repeat_1 : decode cX3_repeat 1 = .ok (.getfield 18, 3) := by decide +kernel
theorem dX3_repeat_4 : decode cX3_repeat 4 = .ok (.aload_n 0, 1) := by decide +kernel
theorem dX3_repeat_5 : decode cX3_repeat 5 = .ok (.getfield 24, 3) := by decide +kernel
theorem dX3_repeat_8 : decode cX3_repeat 8 = .ok (.iload_n 2, 1) := by decide +kernel
theorem dX3_repeat_9 : decode cX3_repeat 9 = .ok (.iadd, 1) := by decide +kernel
theorem dX3_repeat_10 : decode cX3_repeat 10 = .ok (.invokestatic 27, 3) := by decide +kernel
theorem dX3_repeat_13 : decode cX3_repeat 13 = .ok (.istore_n 3, 1) := by decide +kernel
theorem dX3_repeat_14 : decode cX3_repeat 14 = .ok (.aload_n 0, 1) := by decide +kernel
theorem dX3_repeat_15 : decode cX3_repeat 15 = .ok (.getfield 24, 3) := by decide +kernel
theorem dX3_repeat_18 : decode cX3_repeat 18 = .ok (.istore 4, 2) := by decide +kernel
theorem dX3_repeat_20 : decode cX3_repeat 20 = .ok (.iload 4, 2) := by decide +kernel
theorem dX3_repeat_22 : decode cX3_repeat 22 = .ok (.iload_n 3, 1) := by decide +kernel
theorem dX3_repeat_23 : decode cX3_repeat 23 = .ok (.if_icmp .ge 68, 3) := by decide +kernel
theorem dX3_repeat_26 : decode cX3_repeat 26 = .ok (.aload_n 1, 1) := by decide +kernel
theorem dX3_repeat_27 : decode cX3_repeat 27 = .ok (.getfield 33, 3) := by decide +kernel
theorem dX3_repeat_30 : decode cX3_repeat 30 = .ok (.iload 4, 2) := by decide +kernel
theorem dX3_repeat_32 : decode cX3_repeat 32 = .ok (.iaload, 1) := by decide +kernel
theorem dX3_repeat_33 : decode cX3_repeat 33 = .ok (.istore 5, 2) := by decide +kernel
theorem dX3_repeat_35 : decode cX3_repeat 35 = .ok (.iload 5, 2) := by decide +kernel
theorem dX3_repeat_37 : decode cX3_repeat 37 = .ok (.ifCond .eq 9, 3) := by decide +kernel
theorem dX3_repeat_40 : decode cX3_repeat 40 = .ok (.iload 5, 2) := by decide +kernel
theorem dX3_repeat_42 : decode cX3_repeat 42 = .ok (.iconst 1, 1) := by decide +kernel
theorem dX3_repeat_43 : decode cX3_repeat 43 = .ok (.if_icmp .ne 10, 3) := by decide +kernel
theorem dX3_repeat_46 : decode cX3_repeat 46 = .ok (.aload_n 0, 1) := by decide +kernel
theorem dX3_repeat_47 : decode cX3_repeat 47 = .ok (.getfield 9, 3) := by decide +kernel
theorem dX3_repeat_50 : decode cX3_repeat 50 = .ok (.goto 7, 3) := by decide +kernel
theorem dX3_repeat_53 : decode cX3_repeat 53 = .ok (.aload_n 0, 1) := by decide +kernel
theorem dX3_repeat_54 : decode cX3_repeat 54 = .ok (.getfield 15, 3) := by decide +kernel
theorem dX3_repeat_57 : decode cX3_repeat 57 = .ok (.astore 6, 2) := by decide +kernel
theorem dX3_repeat_59 : decode cX3_repeat 59 = .ok (.aload 6, 2) := by decide +kernel
theorem dX3_repeat_61 : decode cX3_repeat 61 = .ok (.aload_n 1, 1) := by decide +kernel
theorem dX3_repeat_62 : decode cX3_repeat 62 = .ok (.getfield 37, 3) := by decide +kernel
theorem dX3_repeat_65 : decode cX3_repeat 65 = .ok (.iload 4, 2) := by decide +kernel
theorem dX3_repeat_67 : decode cX3_repeat 67 = .ok (.iaload, 1) := by decide +kernel
theorem dX3_repeat_68 : decode cX3_repeat 68 = .ok (.iload 5, 2) := by decide +kernel
theorem dX3_repeat_70 : decode cX3_repeat 70 = .ok (.ifCond .eq 9, 3) := by decide +kernel
theorem dX3_repeat_73 : decode cX3_repeat 73 = .ok (.iload 5, 2) := by decide +kernel
theorem dX3_repeat_75 : decode cX3_repeat 75 = .ok (.iconst 2, 1) := by decide +kernel
theorem dX3_repeat_76 : decode cX3_repeat 76 = .ok (.if_icmp .ne 7, 3) := by decide +kernel
theorem dX3_repeat_79 : decode cX3_repeat 79 = .ok (.iconst 1, 1) := by decide +kernel
theorem dX3_repeat_80 : decode cX3_repeat 80 = .ok (.goto 4, 3) := by decide +kernel
theorem dX3_repeat_83 : decode cX3_repeat 83 = .ok (.iconst 0, 1) := by decide +kernel
theorem dX3_repeat_84 : decode cX3_repeat 84 = .ok (.bastore, 1) := by decide +kernel
theorem dX3_repeat_85 : decode cX3_repeat 85 = .ok (.iinc 4 1, 3) := by decide +kernel
theorem dX3_repeat_88 : decode cX3_repeat 88 = .ok (.goto (-68), 3) := by decide +kernel
theorem dX3_repeat_91 : decode cX3_repeat 91 = .ok (.aload_n 0, 1) := by decide +kernel
theorem dX3_repeat_92 : decode cX3_repeat 92 = .ok (.iload_n 3, 1) := by decide +kernel
theorem dX3_repeat_93 : decode cX3_repeat 93 = .ok (.putfield 24, 3) := by decide +kernel
theorem dX3_repeat_96 : decode cX3_repeat 96 = .ok (.return_, 1) := by decide +kernel
theorem dX3_forget_0 : decode cX3_forget 0 = .ok (.aload_n 0, 1) := by decide +kernel
theorem dX3_forget_1 : decode cX3_forget 1 = .ok (.iconst 0, 1) := by decide +kernel
theorem dX3_forget_2 : decode cX3_forget 2 = .ok (.putfield 24, 3) := by decide +kernel
theorem dX3_forget_5 : decode cX3_forget 5 = .ok (.iconst 0, 1) := by decide +kernel
theorem dX3_forget_6 : decode cX3_forget 6 = .ok (.istore_n 1, 1) := by decide +kernel
theorem dX3_forget_7 : decode cX3_forget 7 = .ok (.iload_n 1, 1) := by decide +kernel
theorem dX3_forget_8 : decode cX3_forget 8 = .ok (.bipush 80, 2) := by decide +kernel
theorem dX3_forget_10 : decode cX3_forget 10 = .ok (.if_icmp .ge 16, 3) := by decide +kernel
theorem dX3_forget_13 : decode cX3_forget 13 = .ok (.aload_n 0, 1) := by decide +kernel
theorem dX3_forget_14 : decode cX3_forget 14 = .ok (.getfield 9, 3) := by decide +kernel
theorem dX3_forget_17 : decode cX3_forget 17 = .ok (.iload_n 1, 1) := by decide +kernel
theorem dX3_forget_18 : decode cX3_forget 18 = .ok (.iconst 0, 1) := by decide +kernel
theorem dX3_forget_19 : decode cX3_forget 19 = .ok (.bastore, 1) := by decide +kernel
theorem dX3_forget_20 : decode cX3_forget 20 = .ok (.iinc 1 1, 3) := by decide +kernel
theorem dX3_forget_23 : decode cX3_forget 23 = .ok (.goto (-16), 3) := by decide +kernel
theorem dX3_forget_26 : decode cX3_forget 26 = .ok (.iconst 0, 1) := by decide +kernel
theorem dX3_forget_27 : decode cX3_forget 27 = .ok (.istore_n 1, 1) := by decide +kernel
theorem dX3_forget_28 : decode cX3_forget 28 = .ok (.iload_n 1, 1) := by decide +kernel
theorem dX3_forget_29 : decode cX3_forget 29 = .ok (.bipush 40, 2) := by decide +kernel
theorem dX3_forget_31 : decode cX3_forget 31 = .ok (.if_icmp .ge 16, 3) := by decide +kernel
theorem dX3_forget_34 : decode cX3_forget 34 = .ok (.aload_n 0, 1) := by decide +kernel
theorem dX3_forget_35 : decode cX3_forget 35 = .ok (.getfield 15, 3) := by decide +kernel
theorem dX3_forget_38 : decode cX3_forget 38 = .ok (.iload_n 1, 1) := by decide +kernel
theorem dX3_forget_39 : decode cX3_forget 39 = .ok (.iconst 0, 1) := by decide +kernel
theorem dX3_forget_40 : decode cX3_forget 40 = .ok (.bastore, 1) := by decide +kernel
theorem dX3_forget_41 : decode cX3_forget 41 = .ok (.iinc 1 1, 3) := by decide +kernel
theorem dX3_forget_44 : decode cX3_forget 44 = .ok (.goto (-16), 3) := by decide +kernel
theorem dX3_forget_47 : decode cX3_forget 47 = .ok (.return_, 1) := by decide +kernel
theorem dX3_differences_0 : decode cX3_differences 0 = .ok (.iconst 0, 1) := by decide +kernel
theorem dX3_differences_1 : decode cX3_differences 1 = .ok (.istore_n 2, 1) := by decide +kernel
theorem dX3_differences_2 : decode cX3_differences 2 = .ok (.iconst 0, 1) := by decide +kernel
theorem dX3_differences_3 : decode cX3_differences 3 = .ok (.istore_n 3, 1) := by decide +kernel
theorem dX3_differences_4 : decode cX3_differences 4 = .ok (.iload_n 3, 1) := by decide +kernel
theorem dX3_differences_5 : decode cX3_differences 5 = .ok (.bipush 80, 2) := by decide +kernel
theorem dX3_differences_7 : decode cX3_differences 7 = .ok (.if_icmp .ge 32, 3) := by decide +kernel
theorem dX3_differences_10 : decode cX3_differences 10 = .ok (.iload_n 2, 1) := by decide +kernel
theorem dX3_differences_11 : decode cX3_differences 11 = .ok (.aload_n 0, 1) := by decide +kernel
theorem dX3_differences_12 : decode cX3_differences 12 = .ok (.getfield 9, 3) := by decide +kernel
theorem dX3_differences_15 : decode cX3_differences 15 = .ok (.iload_n 3, 1) := by decide +kernel
theorem dX3_differences_16 : decode cX3_differences 16 = .ok (.baload, 1) := by decide +kernel
theorem dX3_differences_17 : decode cX3_differences 17 = .ok (.aload_n 1, 1) := by decide +kernel
theorem dX3_differences_18 : decode cX3_differences 18 = .ok (.getfield 9, 3) := by decide +kernel
theorem dX3_differences_21 : decode cX3_differences 21 = .ok (.iload_n 3, 1) := by decide +kernel
theorem dX3_differences_22 : decode cX3_differences 22 = .ok (.baload, 1) := by decide +kernel
theorem dX3_differences_23 : decode cX3_differences 23 = .ok (.if_icmp .ne 7, 3) := by decide +kernel
theorem dX3_differences_26 : decode cX3_differences 26 = .ok (.iconst 0, 1) := by decide +kernel
theorem dX3_differences_27 : decode cX3_differences 27 = .ok (.goto 4, 3) := by decide +kernel
theorem dX3_differences_30 : decode cX3_differences 30 = .ok (.iconst 1, 1) := by decide +kernel
theorem dX3_differences_31 : decode cX3_differences 31 = .ok (.iadd, 1) := by decide +kernel
theorem dX3_differences_32 : decode cX3_differences 32 = .ok (.istore_n 2, 1) := by decide +kernel
theorem dX3_differences_33 : decode cX3_differences 33 = .ok (.iinc 3 1, 3) := by decide +kernel
theorem dX3_differences_36 : decode cX3_differences 36 = .ok (.goto (-32), 3) := by decide +kernel
theorem dX3_differences_39 : decode cX3_differences 39 = .ok (.iconst 0, 1) := by decide +kernel
theorem dX3_differences_40 : decode cX3_differences 40 = .ok (.istore_n 3, 1) := by decide +kernel
theorem dX3_differences_41 : decode cX3_differences 41 = .ok (.iload_n 3, 1) := by decide +kernel
theorem dX3_differences_42 : decode cX3_differences 42 = .ok (.bipush 40, 2) := by decide +kernel
theorem dX3_differences_44 : decode cX3_differences 44 = .ok (.if_icmp .ge 32, 3) := by decide +kernel
theorem dX3_differences_47 : decode cX3_differences 47 = .ok (.iload_n 2, 1) := by decide +kernel
theorem dX3_differences_48 : decode cX3_differences 48 = .ok (.aload_n 0, 1) := by decide +kernel
theorem dX3_differences_49 : decode cX3_differences 49 = .ok (.getfield 15, 3) := by decide +kernel
theorem dX3_differences_52 : decode cX3_differences 52 = .ok (.iload_n 3, 1) := by decide +kernel
theorem dX3_differences_53 : decode cX3_differences 53 = .ok (.baload, 1) := by decide +kernel
theorem dX3_differences_54 : decode cX3_differences 54 = .ok (.aload_n 1, 1) := by decide +kernel
theorem dX3_differences_55 : decode cX3_differences 55 = .ok (.getfield 15, 3) := by decide +kernel
theorem dX3_differences_58 : decode cX3_differences 58 = .ok (.iload_n 3, 1) := by decide +kernel
theorem dX3_differences_59 : decode cX3_differences 59 = .ok (.baload, 1) := by decide +kernel
theorem dX3_differences_60 : decode cX3_differences 60 = .ok (.if_icmp .ne 7, 3) := by decide +kernel
theorem dX3_differences_63 : decode cX3_differences 63 = .ok (.iconst 0, 1) := by decide +kernel
theorem dX3_differences_64 : decode cX3_differences 64 = .ok (.goto 4, 3) := by decide +kernel
theorem dX3_differences_67 : decode cX3_differences 67 = .ok (.iconst 1, 1) := by decide +kernel
theorem dX3_differences_68 : decode cX3_differences 68 = .ok (.iadd, 1) := by decide +kernel
theorem dX3_differences_69 : decode cX3_differences 69 = .ok (.istore_n 2, 1) := by decide +kernel
theorem dX3_differences_70 : decode cX3_differences 70 = .ok (.iinc 3 1, 3) := by decide +kernel
theorem dX3_differences_73 : decode cX3_differences 73 = .ok (.goto (-32), 3) := by decide +kernel
theorem dX3_differences_76 : decode cX3_differences 76 = .ok (.iload_n 2, 1) := by decide +kernel
theorem dX3_differences_77 : decode cX3_differences 77 = .ok (.ireturn, 1) := by decide +kernel
theorem dX3_held_0 : decode cX3_held 0 = .ok (.iconst 0, 1) := by decide +kernel
theorem dX3_held_1 : decode cX3_held 1 = .ok (.istore_n 1, 1) := by decide +kernel
theorem dX3_held_2 : decode cX3_held 2 = .ok (.iconst 0, 1) := by decide +kernel
theorem dX3_held_3 : decode cX3_held 3 = .ok (.istore_n 2, 1) := by decide +kernel
theorem dX3_held_4 : decode cX3_held 4 = .ok (.iload_n 2, 1) := by decide +kernel
theorem dX3_held_5 : decode cX3_held 5 = .ok (.aload_n 0, 1) := by decide +kernel
theorem dX3_held_6 : decode cX3_held 6 = .ok (.arraylength, 1) := by decide +kernel
theorem dX3_held_7 : decode cX3_held 7 = .ok (.if_icmp .ge 23, 3) := by decide +kernel
theorem dX3_held_10 : decode cX3_held 10 = .ok (.iload_n 1, 1) := by decide +kernel
theorem dX3_held_11 : decode cX3_held 11 = .ok (.aload_n 0, 1) := by decide +kernel
theorem dX3_held_12 : decode cX3_held 12 = .ok (.iload_n 2, 1) := by decide +kernel
theorem dX3_held_13 : decode cX3_held 13 = .ok (.baload, 1) := by decide +kernel
theorem dX3_held_14 : decode cX3_held 14 = .ok (.ifCond .eq 7, 3) := by decide +kernel
theorem dX3_held_17 : decode cX3_held 17 = .ok (.iconst 1, 1) := by decide +kernel
theorem dX3_held_18 : decode cX3_held 18 = .ok (.goto 4, 3) := by decide +kernel
theorem dX3_held_21 : decode cX3_held 21 = .ok (.iconst 0, 1) := by decide +kernel
theorem dX3_held_22 : decode cX3_held 22 = .ok (.iadd, 1) := by decide +kernel
theorem dX3_held_23 : decode cX3_held 23 = .ok (.istore_n 1, 1) := by decide +kernel
theorem dX3_held_24 : decode cX3_held 24 = .ok (.iinc 2 1, 3) := by decide +kernel
theorem dX3_held_27 : decode cX3_held 27 = .ok (.goto (-23), 3) := by decide +kernel
theorem dX3_held_30 : decode cX3_held 30 = .ok (.iload_n 1, 1) := by decide +kernel
theorem dX3_held_31 : decode cX3_held 31 = .ok (.ireturn, 1) := by decide +kernel
theorem dX4_init_0 : decode cX4_init 0 = .ok (.aload_n 0, 1) := by decide +kernel
theorem dX4_init_1 : decode cX4_init 1 = .ok (.invokespecial 3, 3) := by decide +kernel
theorem dX4_init_4 : decode cX4_init 4 = .ok (.aload_n 0, 1) := by decide +kernel
theorem dX4_init_5 : decode cX4_init 5 = .ok (.bipush 80, 2) := by decide +kernel
theorem dX4_init_7 : decode cX4_init 7 = .ok (.newarray .int, 2) := by decide +kernel
theorem dX4_init_9 : decode cX4_init 9 = .ok (.putfield 9, 3) := by decide +kernel
theorem dX4_init_12 : decode cX4_init 12 = .ok (.aload_n 0, 1) := by decide +kernel
theorem dX4_init_13 : decode cX4_init 13 = .ok (.bipush 80, 2) := by decide +kernel
theorem dX4_init_15 : decode cX4_init 15 = .ok (.newarray .int, 2) := by decide +kernel
theorem dX4_init_17 : decode cX4_init 17 = .ok (.putfield 15, 3) := by decide +kernel
theorem dX4_init_20 : decode cX4_init 20 = .ok (.aload_n 0, 1) := by decide +kernel
theorem dX4_init_21 : decode cX4_init 21 = .ok (.bipush 80, 2) := by decide +kernel
theorem dX4_init_23 : decode cX4_init 23 = .ok (.newarray .int, 2) := by decide +kernel
theorem dX4_init_25 : decode cX4_init 25 = .ok (.putfield 18, 3) := by decide +kernel
theorem dX4_init_28 : decode cX4_init 28 = .ok (.aload_n 0, 1) := by decide +kernel
theorem dX4_init_29 : decode cX4_init 29 = .ok (.aload_n 1, 1) := by decide +kernel
theorem dX4_init_30 : decode cX4_init 30 = .ok (.putfield 21, 3) := by decide +kernel
theorem dX4_init_33 : decode cX4_init 33 = .ok (.aload_n 0, 1) := by decide +kernel
theorem dX4_init_34 : decode cX4_init 34 = .ok (.aload_n 2, 1) := by decide +kernel
theorem dX4_init_35 : decode cX4_init 35 = .ok (.putfield 25, 3) := by decide +kernel
theorem dX4_init_38 : decode cX4_init 38 = .ok (.return_, 1) := by decide +kernel
theorem dX4_isDue_0 : decode cX4_isDue 0 = .ok (.aload_n 0, 1) := by decide +kernel
theorem dX4_isDue_1 : decode cX4_isDue 1 = .ok (.getfield 21, 3) := by decide +kernel
theorem dX4_isDue_4 : decode cX4_isDue 4 = .ok (.getfield 29, 3) := by decide +kernel
theorem dX4_isDue_7 : decode cX4_isDue 7 = .ok (.iload_n 1, 1) := by decide +kernel
theorem dX4_isDue_8 : decode cX4_isDue 8 = .ok (.aaload, 1) := by decide +kernel
theorem dX4_isDue_9 : decode cX4_isDue 9 = .ok (.astore_n 3, 1) := by decide +kernel
theorem dX4_isDue_10 : decode cX4_isDue 10 = .ok (.iload_n 2, 1) := by decide +kernel
theorem dX4_isDue_11 : decode cX4_isDue 11 = .ok (.ifCond .le 37, 3) := by decide +kernel
theorem dX4_isDue_14 : decode cX4_isDue 14 = .ok (.aload_n 3, 1) := by decide +kernel
theorem dX4_isDue_15 : decode cX4_isDue 15 = .ok (.getfield 34, 3) := by decide +kernel
theorem dX4_isDue_18 : decode cX4_isDue 18 = .ok (.ifCond .ne 30, 3) := by decide +kernel
theorem dX4_isDue_21 : decode cX4_isDue 21 = .ok (.aload_n 3, 1) := by decide +kernel
theorem dX4_isDue_22 : decode cX4_isDue 22 = .ok (.getfield 40, 3) := by decide +kernel
theorem dX4_isDue_25 : decode cX4_isDue 25 = .ok (.ifCond .le 23, 3) := by decide +kernel
theorem dX4_isDue_28 : decode cX4_isDue 28 = .ok (.bipush 100, 2) := by decide +kernel
theorem dX4_isDue_30 : decode cX4_isDue 30 = .ok (.aload_n 3, 1) := by decide +kernel
theorem dX4_isDue_31 : decode cX4_isDue 31 = .ok (.getfield 40, 3) := by decide +kernel
theorem dX4_isDue_34 : decode cX4_isDue 34 = .ok (.imul, 1) := by decide +kernel
theorem dX4_isDue_35 : decode cX4_isDue 35 = .ok (.iload_n 2, 1) := by decide +kernel
theorem dX4_isDue_36 : decode cX4_isDue 36 = .ok (.aload_n 3, 1) := by decide +kernel
theorem dX4_isDue_37 : decode cX4_isDue 37 = .ok (.getfield 44, 3) := by decide +kernel
theorem dX4_isDue_40 : decode cX4_isDue 40 = .ok (.imul, 1) := by decide +kernel
theorem dX4_isDue_41 : decode cX4_isDue 41 = .ok (.if_icmp .lt 7, 3) := by decide +kernel
theorem dX4_isDue_44 : decode cX4_isDue 44 = .ok (.iconst 1, 1) := by decide +kernel
theorem dX4_isDue_45 : decode cX4_isDue 45 = .ok (.goto 4, 3) := by decide +kernel
theorem dX4_isDue_48 : decode cX4_isDue 48 = .ok (.iconst 0, 1) := by decide +kernel
theorem dX4_isDue_49 : decode cX4_isDue 49 = .ok (.ireturn, 1) := by decide +kernel
theorem dX4_packAnew_0 : decode cX4_packAnew 0 = .ok (.aload_n 0, 1) := by decide +kernel
theorem dX4_packAnew_1 : decode cX4_packAnew 1 = .ok (.iload_n 1, 1) := by decide +kernel
theorem dX4_packAnew_2 : decode cX4_packAnew 2 = .ok (.invokevirtual 47, 3) := by decide +kernel
theorem dX4_packAnew_5 : decode cX4_packAnew 5 = .ok (.aload_n 0, 1) := by decide +kernel
theorem dX4_packAnew_6 : decode cX4_packAnew 6 = .ok (.iload_n 1, 1) := by decide +kernel
theorem dX4_packAnew_7 : decode cX4_packAnew 7 = .ok (.invokevirtual 51, 3) := by decide +kernel
theorem dX4_packAnew_10 : decode cX4_packAnew 10 = .ok (.ifCond .ne 5, 3) := by decide +kernel
theorem dX4_packAnew_13 : decode cX4_packAnew 13 = .ok (.iconst 1, 1) := by decide +kernel
theorem dX4_packAnew_14 : decode cX4_packAnew 14 = .ok (.ireturn, 1) := by decide +kernel
theorem dX4_packAnew_15 : decode cX4_packAnew 15 = .ok (.iconst 0, 1) := by decide +kernel
theorem dX4_packAnew_16 : decode cX4_packAnew 16 = .ok (.istore_n 2, 1) := by decide +kernel
theorem dX4_packAnew_17 : decode cX4_packAnew 17 = .ok (.iload_n 2, 1) := by decide +kernel
theorem dX4_packAnew_18 : decode cX4_packAnew 18 = .ok (.aload_n 0, 1) := by decide +kernel
theorem dX4_packAnew_19 : decode cX4_packAnew 19 = .ok (.getfield 55, 3) := by decide +kernel
theorem dX4_packAnew_22 : decode cX4_packAnew 22 = .ok (.if_icmp .gt 21, 3) := by decide +kernel
theorem dX4_packAnew_25 : decode cX4_packAnew 25 = .ok (.aload_n 0, 1) := by decide +kernel
theorem dX4_packAnew_26 : decode cX4_packAnew 26 = .ok (.getfield 25, 3) := by decide +kernel
theorem dX4_packAnew_29 : decode cX4_packAnew 29 = .ok (.invokevirtual 58, 3) := by decide +kernel
theorem dX4_packAnew_32 : decode cX4_packAnew 32 = .ok (.ifCond .ne 5, 3) := by decide +kernel
theorem dX4_packAnew_35 : decode cX4_packAnew 35 = .ok (.iconst 0, 1) := by decide +kernel
theorem dX4_packAnew_36 : decode cX4_packAnew 36 = .ok (.ireturn, 1) := by decide +kernel
theorem dX4_packAnew_37 : decode cX4_packAnew 37 = .ok (.iinc 2 1, 3) := by decide +kernel
theorem dX4_packAnew_40 : decode cX4_packAnew 40 = .ok (.goto (-23), 3) := by decide +kernel
theorem dX4_packAnew_43 : decode cX4_packAnew 43 = .ok (.aload_n 0, 1) := by decide +kernel
theorem dX4_packAnew_44 : decode cX4_packAnew 44 = .ok (.iload_n 1, 1) := by decide +kernel
theorem dX4_packAnew_45 : decode cX4_packAnew 45 = .ok (.invokevirtual 64, 3) := by decide +kernel
theorem dX4_packAnew_48 : decode cX4_packAnew 48 = .ok (.iconst 1, 1) := by decide +kernel
theorem dX4_packAnew_49 : decode cX4_packAnew 49 = .ok (.ireturn, 1) := by decide +kernel
theorem dX4_collect_0 : decode cX4_collect 0 = .ok (.aload_n 0, 1) := by decide +kernel
theorem dX4_collect_1 : decode cX4_collect 1 = .ok (.iconst 0, 1) := by decide +kernel
theorem dX4_collect_2 : decode cX4_collect 2 = .ok (.putfield 55, 3) := by decide +kernel
theorem dX4_collect_5 : decode cX4_collect 5 = .ok (.iconst 0, 1) := by decide +kernel
theorem dX4_collect_6 : decode cX4_collect 6 = .ok (.istore_n 2, 1) := by decide +kernel
theorem dX4_collect_7 : decode cX4_collect 7 = .ok (.iload_n 2, 1) := by decide +kernel
theorem dX4_collect_8 : decode cX4_collect 8 = .ok (.aload_n 0, 1) := by decide +kernel
theorem dX4_collect_9 : decode cX4_collect 9 = .ok (.getfield 21, 3) := by decide +kernel
theorem dX4_collect_12 : decode cX4_collect 12 = .ok (.getfield 67, 3) := by decide +kernel
theorem dX4_collect_15 : decode cX4_collect 15 = .ok (.if_icmp .ge 26, 3) := by decide +kernel
theorem dX4_collect_18 : decode cX4_collect 18 = .ok (.aload_n 0, 1) := by decide +kernel
theorem dX4_collect_19 : decode cX4_collect 19 = .ok (.getfield 21, 3) := by decide +kernel
theorem dX4_collect_22 : decode cX4_collect 22 = .ok (.iload_n 2, 1) := by decide +kernel
theorem dX4_collect_23 : decode cX4_collect 23 = .ok (.iload_n 1, 1) := by decide +kernel
theorem dX4_collect_24 : decode cX4_collect 24 = .ok (.invokevirtual 70, 3) := by decide +kernel
theorem dX4_collect_27 : decode cX4_collect 27 = .ok (.ifCond .eq 8, 3) := by decide +kernel
theorem dX4_collect_30 : decode cX4_collect 30 = .ok (.aload_n 0, 1) := by decide +kernel
theorem dX4_collect_31 : decode cX4_collect 31 = .ok (.iload_n 2, 1) := by decide +kernel
theorem dX4_collect_32 : decode cX4_collect 32 = .ok (.invokevirtual 74, 3) := by decide +kernel
theorem dX4_collect_35 : decode cX4_collect 35 = .ok (.iinc 2 1, 3) := by decide +kernel
theorem dX4_collect_38 : decode cX4_collect 38 = .ok (.goto (-31), 3) := by decide +kernel
theorem dX4_collect_41 : decode cX4_collect 41 = .ok (.return_, 1) := by decide +kernel
theorem dX4_insertByPlace_0 : decode cX4_insertByPlace 0 = .ok (.aload_n 0, 1) := by decide +kernel
theorem dX4_insertByPlace_1 : decode cX4_insertByPlace 1 = .ok (.getfield 55, 3) := by decide +kernel
theorem dX4_insertByPlace_4 : decode cX4_insertByPlace 4 = .ok (.istore_n 2, 1) := by decide +kernel
theorem dX4_insertByPlace_5 : decode cX4_insertByPlace 5 = .ok (.aload_n 0, 1) := by decide +kernel
theorem dX4_insertByPlace_6 : decode cX4_insertByPlace 6 = .ok (.getfield 55, 3) := by decide +kernel
theorem dX4_insertByPlace_9 : decode cX4_insertByPlace 9 = .ok (.istore_n 3, 1) := by decide +kernel
theorem dX4_insertByPlace_10 : decode cX4_insertByPlace 10 = .ok (.iload_n 3, 1) := by decide +kernel
theorem dX4_insertByPlace_11 : decode cX4_insertByPlace 11 = .ok (.ifCond .le 61, 3) := by decide +kernel
theorem dX4_insertByPlace_14 : decode cX4_insertByPlace 14 = .ok (.aload_n 0, 1) := by decide +kernel
theorem dX4_insertByPlace_15 : decode cX4_insertByPlace 15 = .ok (.getfield 21, 3) := by decide +kernel
theorem dX4_insertByPlace_18 : decode cX4_insertByPlace 18 = .ok (.getfield 77, 3) := by decide +kernel
theorem dX4_insertByPlace_21 : decode cX4_insertByPlace 21 = .ok (.aload_n 0, 1) := by decide +kernel
theorem dX4_insertByPlace_22 : decode cX4_insertByPlace 22 = .ok (.getfield 9, 3) := by decide +kernel
theorem dX4_insertByPlace_25 : decode cX4_insertByPlace 25 = .ok (.iload_n 3, 1) := by decide +kernel
theorem dX4_insertByPlace_26 : decode cX4_insertByPlace 26 = .ok (.iconst 1, 1) := by decide +kernel
theorem dX4_insertByPlace_27 : decode cX4_insertByPlace 27 = .ok (.isub, 1) := by decide +kernel
theorem dX4_insertByPlace_28 : decode cX4_insertByPlace 28 = .ok (.iaload, 1) := by decide +kernel
theorem dX4_insertByPlace_29 : decode cX4_insertByPlace 29 = .ok (.aaload, 1) := by decide +kernel
theorem dX4_insertByPlace_30 : decode cX4_insertByPlace 30 = .ok (.getfield 81, 3) := by decide +kernel
theorem dX4_insertByPlace_33 : decode cX4_insertByPlace 33 = .ok (.aload_n 0, 1) := by decide +kernel
theorem dX4_insertByPlace_34 : decode cX4_insertByPlace 34 = .ok (.getfield 21, 3) := by decide +kernel
theorem dX4_insertByPlace_37 : decode cX4_insertByPlace 37 = .ok (.getfield 77, 3) := by decide +kernel
theorem dX4_insertByPlace_40 : decode cX4_insertByPlace 40 = .ok (.iload_n 1, 1) := by decide +kernel
theorem dX4_insertByPlace_41 : decode cX4_insertByPlace 41 = .ok (.aaload, 1) := by decide +kernel
theorem dX4_insertByPlace_42 : decode cX4_insertByPlace 42 = .ok (.getfield 81, 3) := by decide +kernel
theorem dX4_insertByPlace_45 : decode cX4_insertByPlace 45 = .ok (.if_icmp .le 27, 3) := by decide +kernel
theorem dX4_insertByPlace_48 : decode cX4_insertByPlace 48 = .ok (.aload_n 0, 1) := by decide +kernel
theorem dX4_insertByPlace_49 : decode cX4_insertByPlace 49 = .ok (.getfield 9, 3) := by decide +kernel
theorem dX4_insertByPlace_52 : decode cX4_insertByPlace 52 = .ok (.iload_n 3, 1) := by decide +kernel
theorem dX4_insertByPlace_53 : decode cX4_insertByPlace 53 = .ok (.aload_n 0, 1) := by decide +kernel
theorem dX4_insertByPlace_54 : decode cX4_insertByPlace 54 = .ok (.getfield 9, 3) := by decide +kernel
theorem dX4_insertByPlace_57 : decode cX4_insertByPlace 57 = .ok (.iload_n 3, 1) := by decide +kernel
theorem dX4_insertByPlace_58 : decode cX4_insertByPlace 58 = .ok (.iconst 1, 1) := by decide +kernel
theorem dX4_insertByPlace_59 : decode cX4_insertByPlace 59 = .ok (.isub, 1) := by decide +kernel
theorem dX4_insertByPlace_60 : decode cX4_insertByPlace 60 = .ok (.iaload, 1) := by decide +kernel
theorem dX4_insertByPlace_61 : decode cX4_insertByPlace 61 = .ok (.iastore, 1) := by decide +kernel
theorem dX4_insertByPlace_62 : decode cX4_insertByPlace 62 = .ok (.iload_n 3, 1) := by decide +kernel
theorem dX4_insertByPlace_63 : decode cX4_insertByPlace 63 = .ok (.iconst 1, 1) := by decide +kernel
theorem dX4_insertByPlace_64 : decode cX4_insertByPlace 64 = .ok (.isub, 1) := by decide +kernel
theorem dX4_insertByPlace_65 : decode cX4_insertByPlace 65 = .ok (.istore_n 2, 1) := by decide +kernel
theorem dX4_insertByPlace_66 : decode cX4_insertByPlace 66 = .ok (.iinc 3 (-1), 3) := by decide +kernel
theorem dX4_insertByPlace_69 : decode cX4_insertByPlace 69 = .ok (.goto (-59), 3) := by decide +kernel
theorem dX4_insertByPlace_72 : decode cX4_insertByPlace 72 = .ok (.aload_n 0, 1) := by decide +kernel
theorem dX4_insertByPlace_73 : decode cX4_insertByPlace 73 = .ok (.getfield 9, 3) := by decide +kernel
theorem dX4_insertByPlace_76 : decode cX4_insertByPlace 76 = .ok (.iload_n 2, 1) := by decide +kernel
theorem dX4_insertByPlace_77 : decode cX4_insertByPlace 77 = .ok (.iload_n 1, 1) := by decide +kernel
theorem dX4_insertByPlace_78 : decode cX4_insertByPlace 78 = .ok (.iastore, 1) := by decide +kernel
theorem dX4_insertByPlace_79 : decode cX4_insertByPlace 79 = .ok (.aload_n 0, 1) := by decide +kernel
theorem dX4_insertByPlace_80 : decode cX4_insertByPlace 80 = .ok (.dup, 1) := by decide +kernel
theorem dX4_insertByPlace_81 : decode cX4_insertByPlace 81 = .ok (.getfield 55, 3) := by decide +kernel
theorem dX4_insertByPlace_84 : decode cX4_insertByPlace 84 = .ok (.iconst 1, 1) := by decide +kernel
theorem dX4_insertByPlace_85 : decode cX4_insertByPlace 85 = .ok (.iadd, 1) := by decide +kernel
theorem dX4_insertByPlace_86 : decode cX4_insertByPlace 86 = .ok (.putfield 55, 3) := by decide +kernel
theorem dX4_insertByPlace_89 : decode cX4_insertByPlace 89 = .ok (.return_, 1) := by decide +kernel
theorem dX4_plan_0 : decode cX4_plan 0 = .ok (.aload_n 0, 1) := by decide +kernel
theorem dX4_plan_1 : decode cX4_plan 1 = .ok (.getfield 21, 3) := by decide +kernel
theorem dX4_plan_4 : decode cX4_plan 4 = .ok (.getfield 86, 3) := by decide +kernel
theorem dX4_plan_7 : decode cX4_plan 7 = .ok (.iconst 1, 1) := by decide +kernel
theorem dX4_plan_8 : decode cX4_plan 8 = .ok (.isub, 1) := by decide +kernel
theorem dX4_plan_9 : decode cX4_plan 9 = .ok (.istore_n 2, 1) := by decide +kernel
theorem dX4_plan_10 : decode cX4_plan 10 = .ok (.aload_n 0, 1) := by decide +kernel
theorem dX4_plan_11 : decode cX4_plan 11 = .ok (.getfield 21, 3) := by decide +kernel
theorem dX4_plan_14 : decode cX4_plan 14 = .ok (.iload_n 1, 1) := by decide +kernel
theorem dX4_plan_15 : decode cX4_plan 15 = .ok (.invokevirtual 89, 3) := by decide +kernel
theorem dX4_plan_18 : decode cX4_plan 18 = .ok (.istore_n 3, 1) := by decide +kernel
theorem dX4_plan_19 : decode cX4_plan 19 = .ok (.iconst 0, 1) := by decide +kernel
theorem dX4_plan_20 : decode cX4_plan 20 = .ok (.istore 4, 2) := by decide +kernel
theorem dX4_plan_22 : decode cX4_plan 22 = .ok (.iload 4, 2) := by decide +kernel
theorem dX4_plan_24 : decode cX4_plan 24 = .ok (.aload_n 0, 1) := by decide +kernel
theorem dX4_plan_25 : decode cX4_plan 25 = .ok (.getfield 55, 3) := by decide +kernel
theorem dX4_plan_28 : decode cX4_plan 28 = .ok (.if_icmp .ge 69, 3) := by decide +kernel
theorem dX4_plan_31 : decode cX4_plan 31 = .ok (.aload_n 0, 1) := by decide +kernel
theorem dX4_plan_32 : decode cX4_plan 32 = .ok (.getfield 21, 3) := by decide +kernel
theorem dX4_plan_35 : decode cX4_plan 35 = .ok (.getfield 77, 3) := by decide +kernel
theorem dX4_plan_38 : decode cX4_plan 38 = .ok (.aload_n 0, 1) := by decide +kernel
theorem dX4_plan_39 : decode cX4_plan 39 = .ok (.getfield 9, 3) := by decide +kernel
theorem dX4_plan_42 : decode cX4_plan 42 = .ok (.iload 4, 2) := by decide +kernel
theorem dX4_plan_44 : decode cX4_plan 44 = .ok (.iaload, 1) := by decide +kernel
theorem dX4_plan_45 : decode cX4_plan 45 = .ok (.aaload, 1) := by decide +kernel
theorem dX4_plan_46 : decode cX4_plan 46 = .ok (.getfield 93, 3) := by decide +kernel
theorem dX4_plan_49 : decode cX4_plan 49 = .ok (.istore 5, 2) := by decide +kernel
theorem dX4_plan_51 : decode cX4_plan 51 = .ok (.iload_n 3, 1) := by decide +kernel
theorem dX4_plan_52 : decode cX4_plan 52 = .ok (.iload 5, 2) := by decide +kernel
theorem dX4_plan_54 : decode cX4_plan 54 = .ok (.iadd, 1) := by decide +kernel
theorem dX4_plan_55 : decode cX4_plan 55 = .ok (.aload_n 0, 1) := by decide +kernel
theorem dX4_plan_56 : decode cX4_plan 56 = .ok (.getfield 21, 3) := by decide +kernel
theorem dX4_plan_59 : decode cX4_plan 59 = .ok (.getfield 96, 3) := by decide +kernel
theorem dX4_plan_62 : decode cX4_plan 62 = .ok (.if_icmp .le 8, 3) := by decide +kernel
theorem dX4_plan_65 : decode cX4_plan 65 = .ok (.iinc 2 1, 3) := by decide +kernel
theorem dX4_plan_68 : decode cX4_plan 68 = .ok (.iconst 0, 1) := by decide +kernel
theorem dX4_plan_69 : decode cX4_plan 69 = .ok (.istore_n 3, 1) := by decide +kernel
theorem dX4_plan_70 : decode cX4_plan 70 = .ok (.aload_n 0, 1) := by decide +kernel
theorem dX4_plan_71 : decode cX4_plan 71 = .ok (.getfield 15, 3) := by decide +kernel
theorem dX4_plan_74 : decode cX4_plan 74 = .ok (.iload 4, 2) := by decide +kernel
theorem dX4_plan_76 : decode cX4_plan 76 = .ok (.iload_n 2, 1) := by decide +kernel
theorem dX4_plan_77 : decode cX4_plan 77 = .ok (.iastore, 1) := by decide +kernel
theorem dX4_plan_78 : decode cX4_plan 78 = .ok (.aload_n 0, 1) := by decide +kernel
theorem dX4_plan_79 : decode cX4_plan 79 = .ok (.getfield 18, 3) := by decide +kernel
theorem dX4_plan_82 : decode cX4_plan 82 = .ok (.iload 4, 2) := by decide +kernel
theorem dX4_plan_84 : decode cX4_plan 84 = .ok (.iload_n 3, 1) := by decide +kernel
theorem dX4_plan_85 : decode cX4_plan 85 = .ok (.iastore, 1) := by decide +kernel
theorem dX4_plan_86 : decode cX4_plan 86 = .ok (.iload_n 3, 1) := by decide +kernel
theorem dX4_plan_87 : decode cX4_plan 87 = .ok (.iload 5, 2) := by decide +kernel
theorem dX4_plan_89 : decode cX4_plan 89 = .ok (.iadd, 1) := by decide +kernel
theorem dX4_plan_90 : decode cX4_plan 90 = .ok (.istore_n 3, 1) := by decide +kernel
theorem dX4_plan_91 : decode cX4_plan 91 = .ok (.iinc 4 1, 3) := by decide +kernel
theorem dX4_plan_94 : decode cX4_plan 94 = .ok (.goto (-72), 3) := by decide +kernel
theorem dX4_plan_97 : decode cX4_plan 97 = .ok (.iload_n 2, 1) := by decide +kernel
theorem dX4_plan_98 : decode cX4_plan 98 = .ok (.bipush 40, 2) := by decide +kernel
theorem dX4_plan_100 : decode cX4_plan 100 = .ok (.if_icmp .ge 7, 3) := by decide +kernel
theorem dX4_plan_103 : decode cX4_plan 103 = .ok (.iconst 1, 1) := by decide +kernel
theorem dX4_plan_104 : decode cX4_plan 104 = .ok (.goto 4, 3) := by decide +kernel
theorem dX4_plan_107 : decode cX4_plan 107 = .ok (.iconst 0, 1) := by decide +kernel
theorem dX4_plan_108 : decode cX4_plan 108 = .ok (.ireturn, 1) := by decide +kernel
theorem dX4_carryOut_0 : decode cX4_carryOut 0 = .ok (.iconst 0, 1) := by decide +kernel
theorem dX4_carryOut_1 : decode cX4_carryOut 1 = .ok (.istore_n 2, 1) := by decide +kernel
theorem dX4_carryOut_2 : decode cX4_carryOut 2 = .ok (.iload_n 2, 1) := by decide +kernel
theorem dX4_carryOut_3 : decode cX4_carryOut 3 = .ok (.aload_n 0, 1) := by decide +kernel
theorem dX4_carryOut_4 : decode cX4_carryOut 4 = .ok (.getfield 55, 3) := by decide +kernel
theorem dX4_carryOut_7 : decode cX4_carryOut 7 = .ok (.if_icmp .ge 34, 3) := by decide +kernel
theorem dX4_carryOut_10 : decode cX4_carryOut 10 = .ok (.aload_n 0, 1) := by decide +kernel
theorem dX4_carryOut_11 : decode cX4_carryOut 11 = .ok (.getfield 21, 3) := by decide +kernel
theorem dX4_carryOut_14 : decode cX4_carryOut 14 = .ok (.aload_n 0, 1) := by decide +kernel
theorem dX4_carryOut_15 : decode cX4_carryOut 15 = .ok (.getfield 9, 3) := by decide +kernel
theorem dX4_carryOut_18 : decode cX4_carryOut 18 = .ok (.iload_n 2, 1) := by decide +kernel
theorem dX4_carryOut_19 : decode cX4_carryOut 19 = .ok (.iaload, 1) := by decide +kernel
theorem dX4_carryOut_20 : decode cX4_carryOut 20 = .ok (.aload_n 0, 1) := by decide +kernel
theorem dX4_carryOut_21 : decode cX4_carryOut 21 = .ok (.getfield 15, 3) := by decide +kernel
theorem dX4_carryOut_24 : decode cX4_carryOut 24 = .ok (.iload_n 2, 1) := by decide +kernel
theorem dX4_carryOut_25 : decode cX4_carryOut 25 = .ok (.iaload, 1) := by decide +kernel
theorem dX4_carryOut_26 : decode cX4_carryOut 26 = .ok (.aload_n 0, 1) := by decide +kernel
theorem dX4_carryOut_27 : decode cX4_carryOut 27 = .ok (.getfield 18, 3) := by decide +kernel
theorem dX4_carryOut_30 : decode cX4_carryOut 30 = .ok (.iload_n 2, 1) := by decide +kernel
theorem dX4_carryOut_31 : decode cX4_carryOut 31 = .ok (.iaload, 1) := by decide +kernel
theorem dX4_carryOut_32 : decode cX4_carryOut 32 = .ok (.invokevirtual 99, 3) := by decide +kernel
theorem dX4_carryOut_35 : decode cX4_carryOut 35 = .ok (.iinc 2 1, 3) := by decide +kernel
theorem dX4_carryOut_38 : decode cX4_carryOut 38 = .ok (.goto (-36), 3) := by decide +kernel
theorem dX4_carryOut_41 : decode cX4_carryOut 41 = .ok (.aload_n 0, 1) := by decide +kernel
theorem dX4_carryOut_42 : decode cX4_carryOut 42 = .ok (.getfield 21, 3) := by decide +kernel
theorem dX4_carryOut_45 : decode cX4_carryOut 45 = .ok (.getfield 29, 3) := by decide +kernel
theorem dX4_carryOut_48 : decode cX4_carryOut 48 = .ok (.iload_n 1, 1) := by decide +kernel
theorem dX4_carryOut_49 : decode cX4_carryOut 49 = .ok (.aaload, 1) := by decide +kernel
theorem dX4_carryOut_50 : decode cX4_carryOut 50 = .ok (.astore_n 2, 1) := by decide +kernel
theorem dX4_carryOut_51 : decode cX4_carryOut 51 = .ok (.aload_n 2, 1) := by decide +kernel
theorem dX4_carryOut_52 : decode cX4_carryOut 52 = .ok (.iconst 1, 1) := by decide +kernel
theorem dX4_carryOut_53 : decode cX4_carryOut 53 = .ok (.putfield 34, 3) := by decide +kernel
theorem dX4_carryOut_56 : decode cX4_carryOut 56 = .ok (.aload_n 2, 1) := by decide +kernel
theorem dX4_carryOut_57 : decode cX4_carryOut 57 = .ok (.iconst 0, 1) := by decide +kernel
theorem dX4_carryOut_58 : decode cX4_carryOut 58 = .ok (.putfield 44, 3) := by decide +kernel
theorem dX4_carryOut_61 : decode cX4_carryOut 61 = .ok (.aload_n 2, 1) := by decide +kernel
theorem dX4_carryOut_62 : decode cX4_carryOut 62 = .ok (.iconst 0, 1) := by decide +kernel
theorem dX4_carryOut_63 : decode cX4_carryOut 63 = .ok (.putfield 40, 3) := by decide +kernel
theorem dX4_carryOut_66 : decode cX4_carryOut 66 = .ok (.aload_n 0, 1) := by decide +kernel
theorem dX4_carryOut_67 : decode cX4_carryOut 67 = .ok (.getfield 21, 3) := by decide +kernel
theorem dX4_carryOut_70 : decode cX4_carryOut 70 = .ok (.dup, 1) := by decide +kernel
theorem dX4_carryOut_71 : decode cX4_carryOut 71 = .ok (.getfield 103, 3) := by decide +kernel
theorem dX4_carryOut_74 : decode cX4_carryOut 74 = .ok (.iconst 1, 1) := by decide +kernel
theorem dX4_carryOut_75 : decode cX4_carryOut 75 = .ok (.iadd, 1) := by decide +kernel
theorem dX4_carryOut_76 : decode cX4_carryOut 76 = .ok (.putfield 103, 3) := by decide +kernel
theorem dX4_carryOut_79 : decode cX4_carryOut 79 = .ok (.return_, 1) := by decide +kernel
theorem dX5_init_0 : decode cX5_init 0 = .ok (.aload_n 0, 1) := by decide +kernel
theorem dX5_init_1 : decode cX5_init 1 = .ok (.invokespecial 1, 3) := by decide +kernel
theorem dX5_init_4 : decode cX5_init 4 = .ok (.return_, 1) := by decide +kernel
theorem dX6_init_0 : decode cX6_init 0 = .ok (.aload_n 0, 1) := by decide +kernel
theorem dX6_init_1 : decode cX6_init 1 = .ok (.invokespecial 3, 3) := by decide +kernel
theorem dX6_init_4 : decode cX6_init 4 = .ok (.aload_n 0, 1) := by decide +kernel
theorem dX6_init_5 : decode cX6_init 5 = .ok (.bipush 6, 2) := by decide +kernel
theorem dX6_init_7 : decode cX6_init 7 = .ok (.newarray .int, 2) := by decide +kernel
theorem dX6_init_9 : decode cX6_init 9 = .ok (.putfield 9, 3) := by decide +kernel
theorem dX6_init_12 : decode cX6_init 12 = .ok (.aload_n 0, 1) := by decide +kernel
theorem dX6_init_13 : decode cX6_init 13 = .ok (.bipush 40, 2) := by decide +kernel
theorem dX6_init_15 : decode cX6_init 15 = .ok (.newarray .int, 2) := by decide +kernel
theorem dX6_init_17 : decode cX6_init 17 = .ok (.putfield 15, 3) := by decide +kernel
theorem dX6_init_20 : decode cX6_init 20 = .ok (.return_, 1) := by decide +kernel
theorem dX6_greatest_0 : decode cX6_greatest 0 = .ok (.iload_n 0, 1) := by decide +kernel
theorem dX6_greatest_1 : decode cX6_greatest 1 = .ok (.iconst 5, 1) := by decide +kernel
theorem dX6_greatest_2 : decode cX6_greatest 2 = .ok (.if_icmp .ne 8, 3) := by decide +kernel
theorem dX6_greatest_5 : decode cX6_greatest 5 = .ok (.bipush 15, 2) := by decide +kernel
theorem dX6_greatest_7 : decode cX6_greatest 7 = .ok (.goto 5, 3) := by decide +kernel
theorem dX6_greatest_10 : decode cX6_greatest 10 = .ok (.bipush 100, 2) := by decide +kernel
theorem dX6_greatest_12 : decode cX6_greatest 12 = .ok (.ireturn, 1) := by decide +kernel
theorem dX6_judge_0 : decode cX6_judge 0 = .ok (.iconst 0, 1) := by decide +kernel
theorem dX6_judge_1 : decode cX6_judge 1 = .ok (.istore_n 3, 1) := by decide +kernel
theorem dX6_judge_2 : decode cX6_judge 2 = .ok (.iload_n 3, 1) := by decide +kernel
theorem dX6_judge_3 : decode cX6_judge 3 = .ok (.iload_n 2, 1) := by decide +kernel
theorem dX6_judge_4 : decode cX6_judge 4 = .ok (.if_icmp .ge 61, 3) := by decide +kernel
theorem dX6_judge_7 : decode cX6_judge 7 = .ok (.aload_n 1, 1) := by decide +kernel
theorem dX6_judge_8 : decode cX6_judge 8 = .ok (.iload_n 3, 1) := by decide +kernel
theorem dX6_judge_9 : decode cX6_judge 9 = .ok (.aaload, 1) := by decide +kernel
theorem dX6_judge_10 : decode cX6_judge 10 = .ok (.getfield 18, 3) := by decide +kernel
theorem dX6_judge_13 : decode cX6_judge 13 = .ok (.ifCond .ne 26, 3) := by decide +kernel
theorem dX6_judge_16 : decode cX6_judge 16 = .ok (.aload_n 0, 1) := by decide +kernel
theorem dX6_judge_17 : decode cX6_judge 17 = .ok (.getfield 9, 3) := by decide +kernel
theorem dX6_judge_20 : decode cX6_judge 20 = .ok (.iconst 5, 1) := by decide +kernel
theorem dX6_judge_21 : decode cX6_judge 21 = .ok (.iaload, 1) := by decide +kernel
theorem dX6_judge_22 : decode cX6_judge 22 = .ok (.aload_n 1, 1) := by decide +kernel
theorem dX6_judge_23 : decode cX6_judge 23 = .ok (.iload_n 3, 1) := by decide +kernel
theorem dX6_judge_24 : decode cX6_judge 24 = .ok (.aaload, 1) := by decide +kernel
theorem dX6_judge_25 : decode cX6_judge 25 = .ok (.getfield 24, 3) := by decide +kernel
theorem dX6_judge_28 : decode cX6_judge 28 = .ok (.ishr, 1) := by decide +kernel
theorem dX6_judge_29 : decode cX6_judge 29 = .ok (.iconst 1, 1) := by decide +kernel
theorem dX6_judge_30 : decode cX6_judge 30 = .ok (.iand, 1) := by decide +kernel
theorem dX6_judge_31 : decode cX6_judge 31 = .ok (.iconst 1, 1) := by decide +kernel
theorem dX6_judge_32 : decode cX6_judge 32 = .ok (.if_icmp .ne 7, 3) := by decide +kernel
theorem dX6_judge_35 : decode cX6_judge 35 = .ok (.iconst 1, 1) := by decide +kernel
theorem dX6_judge_36 : decode cX6_judge 36 = .ok (.goto 4, 3) := by decide +kernel
theorem dX6_judge_39 : decode cX6_judge 39 = .ok (.iconst 0, 1) := by decide +kernel
theorem dX6_judge_40 : decode cX6_judge 40 = .ok (.istore 4, 2) := by decide +kernel
theorem dX6_judge_42 : decode cX6_judge 42 = .ok (.aload_n 0, 1) := by decide +kernel
theorem dX6_judge_43 : decode cX6_judge 43 = .ok (.getfield 15, 3) := by decide +kernel
theorem dX6_judge_46 : decode cX6_judge 46 = .ok (.iload_n 3, 1) := by decide +kernel
theorem dX6_judge_47 : decode cX6_judge 47 = .ok (.iload 4, 2) := by decide +kernel
theorem dX6_judge_49 : decode cX6_judge 49 = .ok (.ifCond .eq 8, 3) := by decide +kernel
theorem dX6_judge_52 : decode cX6_judge 52 = .ok (.bipush 32, 2) := by decide +kernel
theorem dX6_judge_54 : decode cX6_judge 54 = .ok (.goto 4, 3) := by decide +kernel
theorem dX6_judge_57 : decode cX6_judge 57 = .ok (.iconst 0, 1) := by decide +kernel
theorem dX6_judge_58 : decode cX6_judge 58 = .ok (.iastore, 1) := by decide +kernel
theorem dX6_judge_59 : decode cX6_judge 59 = .ok (.iinc 3 1, 3) := by decide +kernel
theorem dX6_judge_62 : decode cX6_judge 62 = .ok (.goto (-60), 3) := by decide +kernel
theorem dX6_judge_65 : decode cX6_judge 65 = .ok (.iconst 0, 1) := by decide +kernel
theorem dX6_judge_66 : decode cX6_judge 66 = .ok (.istore_n 3, 1) := by decide +kernel
theorem dX6_judge_67 : decode cX6_judge 67 = .ok (.iload_n 3, 1) := by decide +kernel
theorem dX6_judge_68 : decode cX6_judge 68 = .ok (.iconst 4, 1) := by decide +kernel
theorem dX6_judge_69 : decode cX6_judge 69 = .ok (.if_icmp .gt 16, 3) := by decide +kernel
theorem dX6_judge_72 : decode cX6_judge 72 = .ok (.aload_n 0, 1) := by decide +kernel
theorem dX6_judge_73 : decode cX6_judge 73 = .ok (.iload_n 3, 1) := by decide +kernel
theorem dX6_judge_74 : decode cX6_judge 74 = .ok (.aload_n 1, 1) := by decide +kernel
theorem dX6_judge_75 : decode cX6_judge 75 = .ok (.iload_n 2, 1) := by decide +kernel
theorem dX6_judge_76 : decode cX6_judge 76 = .ok (.invokevirtual 28, 3) := by decide +kernel
theorem dX6_judge_79 : decode cX6_judge 79 = .ok (.iinc 3 1, 3) := by decide +kernel
theorem dX6_judge_82 : decode cX6_judge 82 = .ok (.goto (-15), 3) := by decide +kernel
theorem dX6_judge_85 : decode cX6_judge 85 = .ok (.return_, 1) := by decide +kernel
theorem dX6_judgeBy_0 : decode cX6_judgeBy 0 = .ok (.iconst 0, 1) := by decide +kernel
theorem dX6_judgeBy_1 : decode cX6_judgeBy 1 = .ok (.istore 4, 2) := by decide +kernel
theorem dX6_judgeBy_3 : decode cX6_judgeBy 3 = .ok (.lconst 0, 1) := by decide +kernel
theorem dX6_judgeBy_4 : decode cX6_judgeBy 4 = .ok (.lstore 5, 2) := by decide +kernel
theorem dX6_judgeBy_6 : decode cX6_judgeBy 6 = .ok (.iload_n 3, 1) := by decide +kernel
theorem dX6_judgeBy_7 : decode cX6_judgeBy 7 = .ok (.iconst 1, 1) := by decide +kernel
theorem dX6_judgeBy_8 : decode cX6_judgeBy 8 = .ok (.isub, 1) := by decide +kernel
theorem dX6_judgeBy_9 : decode cX6_judgeBy 9 = .ok (.istore 7, 2) := by decide +kernel
theorem dX6_judgeBy_11 : decode cX6_judgeBy 11 = .ok (.iload 7, 2) := by decide +kernel
theorem dX6_judgeBy_13 : decode cX6_judgeBy 13 = .ok (.ifCond .lt 89, 3) := by decide +kernel
theorem dX6_judgeBy_16 : decode cX6_judgeBy 16 = .ok (.iload 4, 2) := by decide +kernel
theorem dX6_judgeBy_18 : decode cX6_judgeBy 18 = .ok (.aload_n 0, 1) := by decide +kernel
theorem dX6_judgeBy_19 : decode cX6_judgeBy 19 = .ok (.getfield 9, 3) := by decide +kernel
theorem dX6_judgeBy_22 : decode cX6_judgeBy 22 = .ok (.iload_n 1, 1) := by decide +kernel
theorem dX6_judgeBy_23 : decode cX6_judgeBy 23 = .ok (.iaload, 1) := by decide +kernel
theorem dX6_judgeBy_24 : decode cX6_judgeBy 24 = .ok (.if_icmp .ge 78, 3) := by decide +kernel
theorem dX6_judgeBy_27 : decode cX6_judgeBy 27 = .ok (.aload_n 2, 1) := by decide +kernel
theorem dX6_judgeBy_28 : decode cX6_judgeBy 28 = .ok (.iload 7, 2) := by decide +kernel
theorem dX6_judgeBy_30 : decode cX6_judgeBy 30 = .ok (.aaload, 1) := by decide +kernel
theorem dX6_judgeBy_31 : decode cX6_judgeBy 31 = .ok (.getfield 18, 3) := by decide +kernel
theorem dX6_judgeBy_34 : decode cX6_judgeBy 34 = .ok (.ifCond .ne 62, 3) := by decide +kernel
theorem dX6_judgeBy_37 : decode cX6_judgeBy 37 = .ok (.iload_n 1, 1) := by decide +kernel
theorem dX6_judgeBy_38 : decode cX6_judgeBy 38 = .ok (.ifCond .ne 9, 3) := by decide +kernel
theorem dX6_judgeBy_41 : decode cX6_judgeBy 41 = .ok (.iload 7, 2) := by decide +kernel
theorem dX6_judgeBy_43 : decode cX6_judgeBy 43 = .ok (.i2l, 1) := by decide +kernel
theorem dX6_judgeBy_44 : decode cX6_judgeBy 44 = .ok (.goto 17, 3) := by decide +kernel
theorem dX6_judgeBy_47 : decode cX6_judgeBy 47 = .ok (.iload_n 1, 1) := by decide +kernel
theorem dX6_judgeBy_48 : decode cX6_judgeBy 48 = .ok (.aload_n 2, 1) := by decide +kernel
theorem dX6_judgeBy_49 : decode cX6_judgeBy 49 = .ok (.iload 7, 2) := by decide +kernel
theorem dX6_judgeBy_51 : decode cX6_judgeBy 51 = .ok (.aaload, 1) := by decide +kernel
theorem dX6_judgeBy_52 : decode cX6_judgeBy 52 = .ok (.getfield 32, 3) := by decide +kernel
theorem dX6_judgeBy_55 : decode cX6_judgeBy 55 = .ok (.invokestatic 36, 3) := by decide +kernel
theorem dX6_judgeBy_58 : decode cX6_judgeBy 58 = .ok (.invokestatic 42, 3) := by decide +kernel
theorem dX6_judgeBy_61 : decode cX6_judgeBy 61 = .ok (.lstore 8, 2) := by decide +kernel
theorem dX6_judgeBy_63 : decode cX6_judgeBy 63 = .ok (.iload 4, 2) := by decide +kernel
theorem dX6_judgeBy_65 : decode cX6_judgeBy 65 = .ok (.ifCond .eq 11, 3) := by decide +kernel
theorem dX6_judgeBy_68 : decode cX6_judgeBy 68 = .ok (.lload 8, 2) := by decide +kernel
theorem dX6_judgeBy_70 : decode cX6_judgeBy 70 = .ok (.lload 5, 2) := by decide +kernel
theorem dX6_judgeBy_72 : decode cX6_judgeBy 72 = .ok (.lcmp, 1) := by decide +kernel
theorem dX6_judgeBy_73 : decode cX6_judgeBy 73 = .ok (.ifCond .eq 23, 3) := by decide +kernel
theorem dX6_judgeBy_76 : decode cX6_judgeBy 76 = .ok (.aload_n 0, 1) := by decide +kernel
theorem dX6_judgeBy_77 : decode cX6_judgeBy 77 = .ok (.getfield 15, 3) := by decide +kernel
theorem dX6_judgeBy_80 : decode cX6_judgeBy 80 = .ok (.iload 7, 2) := by decide +kernel
theorem dX6_judgeBy_82 : decode cX6_judgeBy 82 = .ok (.dup2, 1) := by decide +kernel
theorem dX6_judgeBy_83 : decode cX6_judgeBy 83 = .ok (.iaload, 1) := by decide +kernel
theorem dX6_judgeBy_84 : decode cX6_judgeBy 84 = .ok (.iconst 1, 1) := by decide +kernel
theorem dX6_judgeBy_85 : decode cX6_judgeBy 85 = .ok (.iload_n 1, 1) := by decide +kernel
theorem dX6_judgeBy_86 : decode cX6_judgeBy 86 = .ok (.ishl, 1) := by decide +kernel
theorem dX6_judgeBy_87 : decode cX6_judgeBy 87 = .ok (.ior, 1) := by decide +kernel
theorem dX6_judgeBy_88 : decode cX6_judgeBy 88 = .ok (.iastore, 1) := by decide +kernel
theorem dX6_judgeBy_89 : decode cX6_judgeBy 89 = .ok (.iinc 4 1, 3) := by decide +kernel
theorem dX6_judgeBy_92 : decode cX6_judgeBy 92 = .ok (.lload 8, 2) := by decide +kernel
theorem dX6_judgeBy_94 : decode cX6_judgeBy 94 = .ok (.lstore 5, 2) := by decide +kernel
theorem dX6_judgeBy_96 : decode cX6_judgeBy 96 = .ok (.iinc 7 (-1), 3) := by decide +kernel
theorem dX6_judgeBy_99 : decode cX6_judgeBy 99 = .ok (.goto (-88), 3) := by decide +kernel
theorem dX6_judgeBy_102 : decode cX6_judgeBy 102 = .ok (.return_, 1) := by decide +kernel
theorem dX6_periodOf_0 : decode cX6_periodOf 0 = .ok (.iload_n 0, 1) := by decide +kernel
theorem dX6_periodOf_1 : decode cX6_periodOf 1 = .ok (.tableswitch 42 2 4 #[27, 32, 37], 27) := by decide +kernel
theorem dX6_periodOf_28 : decode cX6_periodOf 28 = .ok (.lload_n 1, 1) := by decide +kernel
theorem dX6_periodOf_29 : decode cX6_periodOf 29 = .ok (.invokestatic 46, 3) := by decide +kernel
theorem dX6_periodOf_32 : decode cX6_periodOf 32 = .ok (.lreturn, 1) := by decide +kernel
theorem dX6_periodOf_33 : decode cX6_periodOf 33 = .ok (.lload_n 1, 1) := by decide +kernel
theorem dX6_periodOf_34 : decode cX6_periodOf 34 = .ok (.invokestatic 49, 3) := by decide +kernel
theorem dX6_periodOf_37 : decode cX6_periodOf 37 = .ok (.lreturn, 1) := by decide +kernel
theorem dX6_periodOf_38 : decode cX6_periodOf 38 = .ok (.lload_n 1, 1) := by decide +kernel
theorem dX6_periodOf_39 : decode cX6_periodOf 39 = .ok (.invokestatic 52, 3) := by decide +kernel
theorem dX6_periodOf_42 : decode cX6_periodOf 42 = .ok (.lreturn, 1) := by decide +kernel
theorem dX6_periodOf_43 : decode cX6_periodOf 43 = .ok (.lload_n 1, 1) := by decide +kernel
theorem dX6_periodOf_44 : decode cX6_periodOf 44 = .ok (.lreturn, 1) := by decide +kernel
theorem dX7_init_0 : decode cX7_init 0 = .ok (.aload_n 0, 1) := by decide +kernel
theorem dX7_init_1 : decode cX7_init 1 = .ok (.invokespecial 3, 3) := by decide +kernel
theorem dX7_init_4 : decode cX7_init 4 = .ok (.aload_n 0, 1) := by decide +kernel
theorem dX7_init_5 : decode cX7_init 5 = .ok (.bipush 8, 2) := by decide +kernel
theorem dX7_init_7 : decode cX7_init 7 = .ok (.newarray .int, 2) := by decide +kernel
theorem dX7_init_9 : decode cX7_init 9 = .ok (.putfield 9, 3) := by decide +kernel
theorem dX7_init_12 : decode cX7_init 12 = .ok (.aload_n 0, 1) := by decide +kernel
theorem dX7_init_13 : decode cX7_init 13 = .ok (.iconst 4, 1) := by decide +kernel
theorem dX7_init_14 : decode cX7_init 14 = .ok (.newarray .int, 2) := by decide +kernel
theorem dX7_init_16 : decode cX7_init 16 = .ok (.putfield 15, 3) := by decide +kernel
theorem dX7_init_19 : decode cX7_init 19 = .ok (.return_, 1) := by decide +kernel
theorem dX7_arrive_0 : decode cX7_arrive 0 = .ok (.aload_n 0, 1) := by decide +kernel
theorem dX7_arrive_1 : decode cX7_arrive 1 = .ok (.iconst 1, 1) := by decide +kernel
theorem dX7_arrive_2 : decode cX7_arrive 2 = .ok (.putfield 18, 3) := by decide +kernel
theorem dX7_arrive_5 : decode cX7_arrive 5 = .ok (.aload_n 0, 1) := by decide +kernel
theorem dX7_arrive_6 : decode cX7_arrive 6 = .ok (.iconst 0, 1) := by decide +kernel
theorem dX7_arrive_7 : decode cX7_arrive 7 = .ok (.putfield 22, 3) := by decide +kernel
theorem dX7_arrive_10 : decode cX7_arrive 10 = .ok (.aload_n 0, 1) := by decide +kernel
theorem dX7_arrive_11 : decode cX7_arrive 11 = .ok (.iconst 0, 1) := by decide +kernel
theorem dX7_arrive_12 : decode cX7_arrive 12 = .ok (.putfield 26, 3) := by decide +kernel
theorem dX7_arrive_15 : decode cX7_arrive 15 = .ok (.aload_n 0, 1) := by decide +kernel
theorem dX7_arrive_16 : decode cX7_arrive 16 = .ok (.iload_n 1, 1) := by decide +kernel
theorem dX7_arrive_17 : decode cX7_arrive 17 = .ok (.putfield 29, 3) := by decide +kernel
theorem dX7_arrive_20 : decode cX7_arrive 20 = .ok (.aload_n 0, 1) := by decide +kernel
theorem dX7_arrive_21 : decode cX7_arrive 21 = .ok (.lload_n 2, 1) := by decide +kernel
theorem dX7_arrive_22 : decode cX7_arrive 22 = .ok (.invokevirtual 32, 3) := by decide +kernel
theorem dX7_arrive_25 : decode cX7_arrive 25 = .ok (.return_, 1) := by decide +kernel
theorem dX7_renew_0 : decode cX7_renew 0 = .ok (.aload_n 0, 1) := by decide +kernel
theorem dX7_renew_1 : decode cX7_renew 1 = .ok (.lload_n 1, 1) := by decide +kernel
theorem dX7_renew_2 : decode cX7_renew 2 = .ok (.aload_n 0, 1) := by decide +kernel
theorem dX7_renew_3 : decode cX7_renew 3 = .ok (.getfield 29, 3) := by decide +kernel
theorem dX7_renew_6 : decode cX7_renew 6 = .ok (.i2l, 1) := by decide +kernel
theorem dX7_renew_7 : decode cX7_renew 7 = .ok (.ladd, 1) := by decide +kernel
theorem dX7_renew_8 : decode cX7_renew 8 = .ok (.putfield 36, 3) := by decide +kernel
theorem dX7_renew_11 : decode cX7_renew 11 = .ok (.return_, 1) := by decide +kernel
theorem dX7_isDead_0 : decode cX7_isDead 0 = .ok (.lload_n 1, 1) := by decide +kernel
theorem dX7_isDead_1 : decode cX7_isDead 1 = .ok (.aload_n 0, 1) := by decide +kernel
theorem dX7_isDead_2 : decode cX7_isDead 2 = .ok (.getfield 36, 3) := by decide +kernel
theorem dX7_isDead_5 : decode cX7_isDead 5 = .ok (.lcmp, 1) := by decide +kernel
theorem dX7_isDead_6 : decode cX7_isDead 6 = .ok (.ifCond .le 7, 3) := by decide +kernel
theorem dX7_isDead_9 : decode cX7_isDead 9 = .ok (.iconst 1, 1) := by decide +kernel
theorem dX7_isDead_10 : decode cX7_isDead 10 = .ok (.goto 4, 3) := by decide +kernel
theorem dX7_isDead_13 : decode cX7_isDead 13 = .ok (.iconst 0, 1) := by decide +kernel
theorem dX7_isDead_14 : decode cX7_isDead 14 = .ok (.ireturn, 1) := by decide +kernel
theorem dX7_uses_0 : decode cX7_uses 0 = .ok (.iconst 0, 1) := by decide +kernel
theorem dX7_uses_1 : decode cX7_uses 1 = .ok (.istore_n 2, 1) := by decide +kernel
theorem dX7_uses_2 : decode cX7_uses 2 = .ok (.iload_n 2, 1) := by decide +kernel
theorem dX7_uses_3 : decode cX7_uses 3 = .ok (.aload_n 0, 1) := by decide +kernel
theorem dX7_uses_4 : decode cX7_uses 4 = .ok (.getfield 22, 3) := by decide +kernel
theorem dX7_uses_7 : decode cX7_uses 7 = .ok (.if_icmp .ge 21, 3) := by decide +kernel
theorem dX7_uses_10 : decode cX7_uses 10 = .ok (.aload_n 0, 1) := by decide +kernel
theorem dX7_uses_11 : decode cX7_uses 11 = .ok (.getfield 9, 3) := by decide +kernel
theorem dX7_uses_14 : decode cX7_uses 14 = .ok (.iload_n 2, 1) := by decide +kernel
theorem dX7_uses_15 : decode cX7_uses 15 = .ok (.iaload, 1) := by decide +kernel
theorem dX7_uses_16 : decode cX7_uses 16 = .ok (.iload_n 1, 1) := by decide +kernel
theorem dX7_uses_17 : decode cX7_uses 17 = .ok (.if_icmp .ne 5, 3) := by decide +kernel
theorem dX7_uses_20 : decode cX7_uses 20 = .ok (.iconst 1, 1) := by decide +kernel
theorem dX7_uses_21 : decode cX7_uses 21 = .ok (.ireturn, 1) := by decide +kernel
theorem dX7_uses_22 : decode cX7_uses 22 = .ok (.iinc 2 1, 3) := by decide +kernel
theorem dX7_uses_25 : decode cX7_uses 25 = .ok (.goto (-23), 3) := by decide +kernel
theorem dX7_uses_28 : decode cX7_uses 28 = .ok (.iconst 0, 1) := by decide +kernel
theorem dX7_uses_29 : decode cX7_uses 29 = .ok (.ireturn, 1) := by decide +kernel
theorem dX7_canUse_0 : decode cX7_canUse 0 = .ok (.aload_n 0, 1) := by decide +kernel
theorem dX7_canUse_1 : decode cX7_canUse 1 = .ok (.getfield 22, 3) := by decide +kernel
theorem dX7_canUse_4 : decode cX7_canUse 4 = .ok (.bipush 8, 2) := by decide +kernel
theorem dX7_canUse_6 : decode cX7_canUse 6 = .ok (.if_icmp .lt 11, 3) := by decide +kernel
theorem dX7_canUse_9 : decode cX7_canUse 9 = .ok (.aload_n 0, 1) := by decide +kernel
theorem dX7_canUse_10 : decode cX7_canUse 10 = .ok (.iload_n 1, 1) := by decide +kernel
theorem dX7_canUse_11 : decode cX7_canUse 11 = .ok (.invokevirtual 40, 3) := by decide +kernel
theorem dX7_canUse_14 : decode cX7_canUse 14 = .ok (.ifCond .eq 7, 3) := by decide +kernel
theorem dX7_canUse_17 : decode cX7_canUse 17 = .ok (.iconst 1, 1) := by decide +kernel
theorem dX7_canUse_18 : decode cX7_canUse 18 = .ok (.goto 4, 3) := by decide +kernel
theorem dX7_canUse_21 : decode cX7_canUse 21 = .ok (.iconst 0, 1) := by decide +kernel
theorem dX7_canUse_22 : decode cX7_canUse 22 = .ok (.ireturn, 1) := by decide +kernel
theorem dX7_use_0 : decode cX7_use 0 = .ok (.aload_n 0, 1) := by decide +kernel
theorem dX7_use_1 : decode cX7_use 1 = .ok (.getfield 22, 3) := by decide +kernel
theorem dX7_use_4 : decode cX7_use 4 = .ok (.bipush 8, 2) := by decide +kernel
theorem dX7_use_6 : decode cX7_use 6 = .ok (.if_icmp .ge 31, 3) := by decide +kernel
theorem dX7_use_9 : decode cX7_use 9 = .ok (.aload_n 0, 1) := by decide +kernel
theorem dX7_use_10 : decode cX7_use 10 = .ok (.iload_n 1, 1) := by decide +kernel
theorem dX7_use_11 : decode cX7_use 11 = .ok (.invokevirtual 40, 3) := by decide +kernel
theorem dX7_use_14 : decode cX7_use 14 = .ok (.ifCond .ne 23, 3) := by decide +kernel
theorem dX7_use_17 : decode cX7_use 17 = .ok (.aload_n 0, 1) := by decide +kernel
theorem dX7_use_18 : decode cX7_use 18 = .ok (.getfield 9, 3) := by decide +kernel
theorem dX7_use_21 : decode cX7_use 21 = .ok (.aload_n 0, 1) := by decide +kernel
theorem dX7_use_22 : decode cX7_use 22 = .ok (.getfield 22, 3) := by decide +kernel
theorem dX7_use_25 : decode cX7_use 25 = .ok (.iload_n 1, 1) := by decide +kernel
theorem dX7_use_26 : decode cX7_use 26 = .ok (.iastore, 1) := by decide +kernel
theorem dX7_use_27 : decode cX7_use 27 = .ok (.aload_n 0, 1) := by decide +kernel
theorem dX7_use_28 : decode cX7_use 28 = .ok (.dup, 1) := by decide +kernel
theorem dX7_use_29 : decode cX7_use 29 = .ok (.getfield 22, 3) := by decide +kernel
theorem dX7_use_32 : decode cX7_use 32 = .ok (.iconst 1, 1) := by decide +kernel
theorem dX7_use_33 : decode cX7_use 33 = .ok (.iadd, 1) := by decide +kernel
theorem dX7_use_34 : decode cX7_use 34 = .ok (.putfield 22, 3) := by decide +kernel
theorem dX7_use_37 : decode cX7_use 37 = .ok (.return_, 1) := by decide +kernel
theorem dX7_addChild_0 : decode cX7_addChild 0 = .ok (.aload_n 0, 1) := by decide +kernel
theorem dX7_addChild_1 : decode cX7_addChild 1 = .ok (.getfield 26, 3) := by decide +kernel
theorem dX7_addChild_4 : decode cX7_addChild 4 = .ok (.iconst 4, 1) := by decide +kernel
theorem dX7_addChild_5 : decode cX7_addChild 5 = .ok (.if_icmp .lt 5, 3) := by decide +kernel
theorem dX7_addChild_8 : decode cX7_addChild 8 = .ok (.iconst 0, 1) := by decide +kernel
theorem dX7_addChild_9 : decode cX7_addChild 9 = .ok (.ireturn, 1) := by decide +kernel
theorem dX7_addChild_10 : decode cX7_addChild 10 = .ok (.aload_n 0, 1) := by decide +kernel
theorem dX7_addChild_11 : decode cX7_addChild 11 = .ok (.getfield 15, 3) := by decide +kernel
theorem dX7_addChild_14 : decode cX7_addChild 14 = .ok (.aload_n 0, 1) := by decide +kernel
theorem dX7_addChild_15 : decode cX7_addChild 15 = .ok (.getfield 26, 3) := by decide +kernel
theorem dX7_addChild_18 : decode cX7_addChild 18 = .ok (.iload_n 1, 1) := by decide +kernel
theorem dX7_addChild_19 : decode cX7_addChild 19 = .ok (.iastore, 1) := by decide +kernel
theorem dX7_addChild_20 : decode cX7_addChild 20 = .ok (.aload_n 0, 1) := by decide +kernel
theorem dX7_addChild_21 : decode cX7_addChild 21 = .ok (.dup, 1) := by decide +kernel
theorem dX7_addChild_22 : decode cX7_addChild 22 = .ok (.getfield 26, 3) := by decide +kernel
theorem dX7_addChild_25 : decode cX7_addChild 25 = .ok (.iconst 1, 1) := by decide +kernel
theorem dX7_addChild_26 : decode cX7_addChild 26 = .ok (.iadd, 1) := by decide +kernel
theorem dX7_addChild_27 : decode cX7_addChild 27 = .ok (.putfield 26, 3) := by decide +kernel
theorem dX7_addChild_30 : decode cX7_addChild 30 = .ok (.iconst 1, 1) := by decide +kernel
theorem dX7_addChild_31 : decode cX7_addChild 31 = .ok (.ireturn, 1) := by decide +kernel
theorem dX8_init_0 : decode cX8_init 0 = .ok (.aload_n 0, 1) := by decide +kernel
theorem dX8_init_1 : decode cX8_init 1 = .ok (.invokespecial 1, 3) := by decide +kernel
theorem dX8_init_4 : decode cX8_init 4 = .ok (.aload_n 0, 1) := by decide +kernel
theorem dX8_init_5 : decode cX8_init 5 = .ok (.lload_n 1, 1) := by decide +kernel
theorem dX8_init_6 : decode cX8_init 6 = .ok (.putfield 7, 3) := by decide +kernel
theorem dX8_init_9 : decode cX8_init 9 = .ok (.aload_n 0, 1) := by decide +kernel
theorem dX8_init_10 : decode cX8_init 10 = .ok (.iload_n 3, 1) := by decide +kernel
theorem dX8_init_11 : decode cX8_init 11 = .ok (.putfield 13, 3) := by decide +kernel
theorem dX8_init_14 : decode cX8_init 14 = .ok (.aload_n 0, 1) := by decide +kernel
theorem dX8_init_15 : decode cX8_init 15 = .ok (.aload 4, 2) := by decide +kernel
theorem dX8_init_17 : decode cX8_init 17 = .ok (.putfield 17, 3) := by decide +kernel
theorem dX8_init_20 : decode cX8_init 20 = .ok (.return_, 1) := by decide +kernel
end
