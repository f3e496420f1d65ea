section
-- ===== PART A: goes FIRST, ahead of the names: the tables' words, and 'selects' of the private methods out of them =====
/-- a private method of a class that the tables say can be made, by its rows of tables_1 -/
def lw_okq (q : MethodName × Nat) : Prop := (q.1.cls ≠ "java/lang/invoke/MethodHandle" ∧ q.1.cls ≠ "java/lang/invoke/VarHandle") ∧ Cond.instantiable q.1.cls q.2 ∈ tables_1 ∧ Cond.privateMethod q.1 ∈ tables_1 ∧ Cond.instanceMethod q.1 ∈ tables_1
theorem lw_p0 : lw_okq (⟨"SafeSweeps", "renewed", "(I)LSafeSweeps$Saver;"⟩, 10) := ⟨⟨by decide +kernel, by decide +kernel⟩, List.mem_of_getElem? (i := 18) (by decide +kernel), List.mem_of_getElem? (i := 320) (by decide +kernel), List.mem_of_getElem? (i := 321) (by decide +kernel)⟩
theorem lw_p1 : lw_okq (⟨"SafeSweeps", "saverHere", "(I)LSafeSweeps$Saver;"⟩, 10) := ⟨⟨by decide +kernel, by decide +kernel⟩, List.mem_of_getElem? (i := 18) (by decide +kernel), List.mem_of_getElem? (i := 324) (by decide +kernel), List.mem_of_getElem? (i := 325) (by decide +kernel)⟩
theorem lw_p2 : lw_okq (⟨"SafeSweeps", "saveNew", "(LSafeSweeps$Saver;JI)I"⟩, 10) := ⟨⟨by decide +kernel, by decide +kernel⟩, List.mem_of_getElem? (i := 18) (by decide +kernel), List.mem_of_getElem? (i := 357) (by decide +kernel), List.mem_of_getElem? (i := 358) (by decide +kernel)⟩
theorem lw_p3 : lw_okq (⟨"SafeSweeps", "losePower", "()I"⟩, 10) := ⟨⟨by decide +kernel, by decide +kernel⟩, List.mem_of_getElem? (i := 18) (by decide +kernel), List.mem_of_getElem? (i := 466) (by decide +kernel), List.mem_of_getElem? (i := 467) (by decide +kernel)⟩
theorem lw_p4 : lw_okq (⟨"SafeSweeps", "saveFound", "(LSafeSweeps$Saver;I)I"⟩, 10) := ⟨⟨by decide +kernel, by decide +kernel⟩, List.mem_of_getElem? (i := 18) (by decide +kernel), List.mem_of_getElem? (i := 475) (by decide +kernel), List.mem_of_getElem? (i := 476) (by decide +kernel)⟩
theorem lw_p5 : lw_okq (⟨"SafeSweeps", "takeFor", "(LSafeSweeps$Saver;I)I"⟩, 10) := ⟨⟨by decide +kernel, by decide +kernel⟩, List.mem_of_getElem? (i := 18) (by decide +kernel), List.mem_of_getElem? (i := 483) (by decide +kernel), List.mem_of_getElem? (i := 484) (by decide +kernel)⟩
theorem lw_p6 : lw_okq (⟨"SafeSweeps", "snapshotsThere", "()I"⟩, 10) := ⟨⟨by decide +kernel, by decide +kernel⟩, List.mem_of_getElem? (i := 18) (by decide +kernel), List.mem_of_getElem? (i := 528) (by decide +kernel), List.mem_of_getElem? (i := 529) (by decide +kernel)⟩
theorem lw_p7 : lw_okq (⟨"SafeSweeps", "snapshotIsThere", "(I)Z"⟩, 10) := ⟨⟨by decide +kernel, by decide +kernel⟩, List.mem_of_getElem? (i := 18) (by decide +kernel), List.mem_of_getElem? (i := 565) (by decide +kernel), List.mem_of_getElem? (i := 566) (by decide +kernel)⟩
theorem lw_p8 : lw_okq (⟨"SafeSweeps", "removeSnapshot", "(I)Z"⟩, 10) := ⟨⟨by decide +kernel, by decide +kernel⟩, List.mem_of_getElem? (i := 18) (by decide +kernel), List.mem_of_getElem? (i := 569) (by decide +kernel), List.mem_of_getElem? (i := 570) (by decide +kernel)⟩
theorem lw_p9 : lw_okq (⟨"SafeSweeps", "snapshotIsUnkept", "(I)Z"⟩, 10) := ⟨⟨by decide +kernel, by decide +kernel⟩, List.mem_of_getElem? (i := 18) (by decide +kernel), List.mem_of_getElem? (i := 646) (by decide +kernel), List.mem_of_getElem? (i := 647) (by decide +kernel)⟩
theorem lw_p10 : lw_okq (⟨"SafeSweeps", "lineUpOrDismiss", "(LSafeSweeps$Saver;)V"⟩, 10) := ⟨⟨by decide +kernel, by decide +kernel⟩, List.mem_of_getElem? (i := 18) (by decide +kernel), List.mem_of_getElem? (i := 663) (by decide +kernel), List.mem_of_getElem? (i := 664) (by decide +kernel)⟩
theorem lw_p11 : lw_okq (⟨"SafeSweeps", "saversHere", "()I"⟩, 10) := ⟨⟨by decide +kernel, by decide +kernel⟩, List.mem_of_getElem? (i := 18) (by decide +kernel), List.mem_of_getElem? (i := 762) (by decide +kernel), List.mem_of_getElem? (i := 763) (by decide +kernel)⟩
theorem lw_p12 : lw_okq (⟨"SafeSweeps", "saversThatUse", "(I)I"⟩, 10) := ⟨⟨by decide +kernel, by decide +kernel⟩, List.mem_of_getElem? (i := 18) (by decide +kernel), List.mem_of_getElem? (i := 770) (by decide +kernel), List.mem_of_getElem? (i := 771) (by decide +kernel)⟩
theorem lw_p13 : lw_okq (⟨"SafeSweeps", "brokenSnapshots", "(LSafeSweeps$Mirror;)I"⟩, 10) := ⟨⟨by decide +kernel, by decide +kernel⟩, List.mem_of_getElem? (i := 18) (by decide +kernel), List.mem_of_getElem? (i := 829) (by decide +kernel), List.mem_of_getElem? (i := 830) (by decide +kernel)⟩
theorem lw_p14 : lw_okq (⟨"SafeSweeps", "reachedButFreed", "()I"⟩, 10) := ⟨⟨by decide +kernel, by decide +kernel⟩, List.mem_of_getElem? (i := 18) (by decide +kernel), List.mem_of_getElem? (i := 850) (by decide +kernel), List.mem_of_getElem? (i := 851) (by decide +kernel)⟩
theorem lw_p15 : lw_okq (⟨"SafeSweepsModel", "counted", "(I)I"⟩, 54) := ⟨⟨by decide +kernel, by decide +kernel⟩, List.mem_of_getElem? (i := 885) (by decide +kernel), List.mem_of_getElem? (i := 1073) (by decide +kernel), List.mem_of_getElem? (i := 1074) (by decide +kernel)⟩
def lw_privs_1 : List (MethodName × Nat) := [(⟨"SafeSweeps", "renewed", "(I)LSafeSweeps$Saver;"⟩, 10), (⟨"SafeSweeps", "saverHere", "(I)LSafeSweeps$Saver;"⟩, 10), (⟨"SafeSweeps", "saveNew", "(LSafeSweeps$Saver;JI)I"⟩, 10), (⟨"SafeSweeps", "losePower", "()I"⟩, 10), (⟨"SafeSweeps", "saveFound", "(LSafeSweeps$Saver;I)I"⟩, 10), (⟨"SafeSweeps", "takeFor", "(LSafeSweeps$Saver;I)I"⟩, 10), (⟨"SafeSweeps", "snapshotsThere", "()I"⟩, 10), (⟨"SafeSweeps", "snapshotIsThere", "(I)Z"⟩, 10), (⟨"SafeSweeps", "removeSnapshot", "(I)Z"⟩, 10), (⟨"SafeSweeps", "snapshotIsUnkept", "(I)Z"⟩, 10), (⟨"SafeSweeps", "lineUpOrDismiss", "(LSafeSweeps$Saver;)V"⟩, 10), (⟨"SafeSweeps", "saversHere", "()I"⟩, 10), (⟨"SafeSweeps", "saversThatUse", "(I)I"⟩, 10), (⟨"SafeSweeps", "brokenSnapshots", "(LSafeSweeps$Mirror;)I"⟩, 10), (⟨"SafeSweeps", "reachedButFreed", "()I"⟩, 10), (⟨"SafeSweepsModel", "counted", "(I)I"⟩, 54)]
theorem lw_r1 : ∀ q ∈ lw_privs_1, lw_okq q := List.forall_mem_cons.mpr ⟨lw_p0, List.forall_mem_cons.mpr ⟨lw_p1, List.forall_mem_cons.mpr ⟨lw_p2, List.forall_mem_cons.mpr ⟨lw_p3, List.forall_mem_cons.mpr ⟨lw_p4, List.forall_mem_cons.mpr ⟨lw_p5, List.forall_mem_cons.mpr ⟨lw_p6, List.forall_mem_cons.mpr ⟨lw_p7, List.forall_mem_cons.mpr ⟨lw_p8, List.forall_mem_cons.mpr ⟨lw_p9, List.forall_mem_cons.mpr ⟨lw_p10, List.forall_mem_cons.mpr ⟨lw_p11, List.forall_mem_cons.mpr ⟨lw_p12, List.forall_mem_cons.mpr ⟨lw_p13, List.forall_mem_cons.mpr ⟨lw_p14, List.forall_mem_cons.mpr ⟨lw_p15, fun _ h => absurd h List.not_mem_nil⟩⟩⟩⟩⟩⟩⟩⟩⟩⟩⟩⟩⟩⟩⟩⟩
theorem lw_p16 : lw_okq (⟨"SafeSweepsModel", "snapshotsThere", "()I"⟩, 54) := ⟨⟨by decide +kernel, by decide +kernel⟩, List.mem_of_getElem? (i := 885) (by decide +kernel), List.mem_of_getElem? (i := 1077) (by decide +kernel), List.mem_of_getElem? (i := 1078) (by decide +kernel)⟩
theorem lw_p17 : lw_okq (⟨"SafeSweepsModel", "savers", "()I"⟩, 54) := ⟨⟨by decide +kernel, by decide +kernel⟩, List.mem_of_getElem? (i := 885) (by decide +kernel), List.mem_of_getElem? (i := 1081) (by decide +kernel), List.mem_of_getElem? (i := 1082) (by decide +kernel)⟩
theorem lw_p18 : lw_okq (⟨"SafeSweepsModel", "isSaver", "(I)Z"⟩, 54) := ⟨⟨by decide +kernel, by decide +kernel⟩, List.mem_of_getElem? (i := 885) (by decide +kernel), List.mem_of_getElem? (i := 1099) (by decide +kernel), List.mem_of_getElem? (i := 1100) (by decide +kernel)⟩
theorem lw_p19 : lw_okq (⟨"SafeSweepsModel", "meet", "(I)Z"⟩, 54) := ⟨⟨by decide +kernel, by decide +kernel⟩, List.mem_of_getElem? (i := 885) (by decide +kernel), List.mem_of_getElem? (i := 1104) (by decide +kernel), List.mem_of_getElem? (i := 1105) (by decide +kernel)⟩
theorem lw_p20 : lw_okq (⟨"SafeSweepsModel", "isDead", "(I)Z"⟩, 54) := ⟨⟨by decide +kernel, by decide +kernel⟩, List.mem_of_getElem? (i := 885) (by decide +kernel), List.mem_of_getElem? (i := 1108) (by decide +kernel), List.mem_of_getElem? (i := 1109) (by decide +kernel)⟩
theorem lw_p21 : lw_okq (⟨"SafeSweepsModel", "isBlock", "(I)Z"⟩, 54) := ⟨⟨by decide +kernel, by decide +kernel⟩, List.mem_of_getElem? (i := 885) (by decide +kernel), List.mem_of_getElem? (i := 1112) (by decide +kernel), List.mem_of_getElem? (i := 1113) (by decide +kernel)⟩
theorem lw_p22 : lw_okq (⟨"SafeSweepsModel", "uses", "(II)Z"⟩, 54) := ⟨⟨by decide +kernel, by decide +kernel⟩, List.mem_of_getElem? (i := 885) (by decide +kernel), List.mem_of_getElem? (i := 1116) (by decide +kernel), List.mem_of_getElem? (i := 1117) (by decide +kernel)⟩
theorem lw_p23 : lw_okq (⟨"SafeSweepsModel", "find", "(IJI)I"⟩, 54) := ⟨⟨by decide +kernel, by decide +kernel⟩, List.mem_of_getElem? (i := 885) (by decide +kernel), List.mem_of_getElem? (i := 1124) (by decide +kernel), List.mem_of_getElem? (i := 1125) (by decide +kernel)⟩
theorem lw_p24 : lw_okq (⟨"SafeSweepsModel", "taken", "(II)Z"⟩, 54) := ⟨⟨by decide +kernel, by decide +kernel⟩, List.mem_of_getElem? (i := 885) (by decide +kernel), List.mem_of_getElem? (i := 1128) (by decide +kernel), List.mem_of_getElem? (i := 1129) (by decide +kernel)⟩
theorem lw_p25 : lw_okq (⟨"SafeSweepsModel", "reachFrom", "(I)V"⟩, 54) := ⟨⟨by decide +kernel, by decide +kernel⟩, List.mem_of_getElem? (i := 885) (by decide +kernel), List.mem_of_getElem? (i := 1132) (by decide +kernel), List.mem_of_getElem? (i := 1133) (by decide +kernel)⟩
theorem lw_p26 : lw_okq (⟨"SafeSweepsModel", "write", "()Z"⟩, 54) := ⟨⟨by decide +kernel, by decide +kernel⟩, List.mem_of_getElem? (i := 885) (by decide +kernel), List.mem_of_getElem? (i := 1136) (by decide +kernel), List.mem_of_getElem? (i := 1137) (by decide +kernel)⟩
theorem lw_p27 : lw_okq (⟨"SafeSweepsModel", "use", "(II)V"⟩, 54) := ⟨⟨by decide +kernel, by decide +kernel⟩, List.mem_of_getElem? (i := 885) (by decide +kernel), List.mem_of_getElem? (i := 1140) (by decide +kernel), List.mem_of_getElem? (i := 1141) (by decide +kernel)⟩
theorem lw_p28 : lw_okq (⟨"SafeSweepsModel", "fitsLatest", "(I)Z"⟩, 54) := ⟨⟨by decide +kernel, by decide +kernel⟩, List.mem_of_getElem? (i := 885) (by decide +kernel), List.mem_of_getElem? (i := 1144) (by decide +kernel), List.mem_of_getElem? (i := 1145) (by decide +kernel)⟩
theorem lw_p29 : lw_okq (⟨"SafeSweepsModel", "made", "(IJI)I"⟩, 54) := ⟨⟨by decide +kernel, by decide +kernel⟩, List.mem_of_getElem? (i := 885) (by decide +kernel), List.mem_of_getElem? (i := 1148) (by decide +kernel), List.mem_of_getElem? (i := 1149) (by decide +kernel)⟩
theorem lw_p30 : lw_okq (⟨"SafeSweepsModel", "tell", "(II)V"⟩, 54) := ⟨⟨by decide +kernel, by decide +kernel⟩, List.mem_of_getElem? (i := 885) (by decide +kernel), List.mem_of_getElem? (i := 1152) (by decide +kernel), List.mem_of_getElem? (i := 1153) (by decide +kernel)⟩
theorem lw_p31 : lw_okq (⟨"SafeSweepsModel", "isSnapshot", "(I)Z"⟩, 54) := ⟨⟨by decide +kernel, by decide +kernel⟩, List.mem_of_getElem? (i := 885) (by decide +kernel), List.mem_of_getElem? (i := 1172) (by decide +kernel), List.mem_of_getElem? (i := 1173) (by decide +kernel)⟩
def lw_privs_2 : List (MethodName × Nat) := [(⟨"SafeSweepsModel", "snapshotsThere", "()I"⟩, 54), (⟨"SafeSweepsModel", "savers", "()I"⟩, 54), (⟨"SafeSweepsModel", "isSaver", "(I)Z"⟩, 54), (⟨"SafeSweepsModel", "meet", "(I)Z"⟩, 54), (⟨"SafeSweepsModel", "isDead", "(I)Z"⟩, 54), (⟨"SafeSweepsModel", "isBlock", "(I)Z"⟩, 54), (⟨"SafeSweepsModel", "uses", "(II)Z"⟩, 54), (⟨"SafeSweepsModel", "find", "(IJI)I"⟩, 54), (⟨"SafeSweepsModel", "taken", "(II)Z"⟩, 54), (⟨"SafeSweepsModel", "reachFrom", "(I)V"⟩, 54), (⟨"SafeSweepsModel", "write", "()Z"⟩, 54), (⟨"SafeSweepsModel", "use", "(II)V"⟩, 54), (⟨"SafeSweepsModel", "fitsLatest", "(I)Z"⟩, 54), (⟨"SafeSweepsModel", "made", "(IJI)I"⟩, 54), (⟨"SafeSweepsModel", "tell", "(II)V"⟩, 54), (⟨"SafeSweepsModel", "isSnapshot", "(I)Z"⟩, 54)]
theorem lw_r2 : ∀ q ∈ lw_privs_2, lw_okq q := List.forall_mem_cons.mpr ⟨lw_p16, List.forall_mem_cons.mpr ⟨lw_p17, List.forall_mem_cons.mpr ⟨lw_p18, List.forall_mem_cons.mpr ⟨lw_p19, List.forall_mem_cons.mpr ⟨lw_p20, List.forall_mem_cons.mpr ⟨lw_p21, List.forall_mem_cons.mpr ⟨lw_p22, List.forall_mem_cons.mpr ⟨lw_p23, List.forall_mem_cons.mpr ⟨lw_p24, List.forall_mem_cons.mpr ⟨lw_p25, List.forall_mem_cons.mpr ⟨lw_p26, List.forall_mem_cons.mpr ⟨lw_p27, List.forall_mem_cons.mpr ⟨lw_p28, List.forall_mem_cons.mpr ⟨lw_p29, List.forall_mem_cons.mpr ⟨lw_p30, List.forall_mem_cons.mpr ⟨lw_p31, fun _ h => absurd h List.not_mem_nil⟩⟩⟩⟩⟩⟩⟩⟩⟩⟩⟩⟩⟩⟩⟩⟩
theorem lw_p32 : lw_okq (⟨"SafeSweepsModel", "goes", "(I)Z"⟩, 54) := ⟨⟨by decide +kernel, by decide +kernel⟩, List.mem_of_getElem? (i := 885) (by decide +kernel), List.mem_of_getElem? (i := 1176) (by decide +kernel), List.mem_of_getElem? (i := 1177) (by decide +kernel)⟩
theorem lw_p33 : lw_okq (⟨"SafeSweepsModel", "keptBy", "(I)I"⟩, 54) := ⟨⟨by decide +kernel, by decide +kernel⟩, List.mem_of_getElem? (i := 885) (by decide +kernel), List.mem_of_getElem? (i := 1191) (by decide +kernel), List.mem_of_getElem? (i := 1192) (by decide +kernel)⟩
theorem lw_p34 : lw_okq (⟨"SafeSweepsModel", "behind", "(I)I"⟩, 54) := ⟨⟨by decide +kernel, by decide +kernel⟩, List.mem_of_getElem? (i := 885) (by decide +kernel), List.mem_of_getElem? (i := 1195) (by decide +kernel), List.mem_of_getElem? (i := 1196) (by decide +kernel)⟩
theorem lw_p35 : lw_okq (⟨"SafeSweepsModel", "spanKeeps", "(II)Z"⟩, 54) := ⟨⟨by decide +kernel, by decide +kernel⟩, List.mem_of_getElem? (i := 885) (by decide +kernel), List.mem_of_getElem? (i := 1199) (by decide +kernel), List.mem_of_getElem? (i := 1200) (by decide +kernel)⟩
theorem lw_p36 : lw_okq (⟨"SafeSweepsModel", "spanOf", "(JI)J"⟩, 54) := ⟨⟨by decide +kernel, by decide +kernel⟩, List.mem_of_getElem? (i := 885) (by decide +kernel), List.mem_of_getElem? (i := 1203) (by decide +kernel), List.mem_of_getElem? (i := 1204) (by decide +kernel)⟩
theorem lw_p37 : lw_okq (⟨"SafeSweepsModel", "push", "(I)V"⟩, 54) := ⟨⟨by decide +kernel, by decide +kernel⟩, List.mem_of_getElem? (i := 885) (by decide +kernel), List.mem_of_getElem? (i := 1233) (by decide +kernel), List.mem_of_getElem? (i := 1234) (by decide +kernel)⟩
theorem lw_p38 : lw_okq (⟨"SafeSweepsModel", "settle", "()V"⟩, 54) := ⟨⟨by decide +kernel, by decide +kernel⟩, List.mem_of_getElem? (i := 885) (by decide +kernel), List.mem_of_getElem? (i := 1237) (by decide +kernel), List.mem_of_getElem? (i := 1238) (by decide +kernel)⟩
theorem lw_p39 : lw_okq (⟨"SafeSweepsModel", "mark", "()V"⟩, 54) := ⟨⟨by decide +kernel, by decide +kernel⟩, List.mem_of_getElem? (i := 885) (by decide +kernel), List.mem_of_getElem? (i := 1245) (by decide +kernel), List.mem_of_getElem? (i := 1246) (by decide +kernel)⟩
theorem lw_p40 : lw_okq (⟨"SafeSweepsModel", "clear", "()Z"⟩, 54) := ⟨⟨by decide +kernel, by decide +kernel⟩, List.mem_of_getElem? (i := 885) (by decide +kernel), List.mem_of_getElem? (i := 1249) (by decide +kernel), List.mem_of_getElem? (i := 1250) (by decide +kernel)⟩
theorem lw_p41 : lw_okq (⟨"SafeSweepsModel", "choose", "()Z"⟩, 54) := ⟨⟨by decide +kernel, by decide +kernel⟩, List.mem_of_getElem? (i := 885) (by decide +kernel), List.mem_of_getElem? (i := 1253) (by decide +kernel), List.mem_of_getElem? (i := 1254) (by decide +kernel)⟩
theorem lw_p42 : lw_okq (⟨"SafeSweepsModel", "packStep", "()Z"⟩, 54) := ⟨⟨by decide +kernel, by decide +kernel⟩, List.mem_of_getElem? (i := 885) (by decide +kernel), List.mem_of_getElem? (i := 1257) (by decide +kernel), List.mem_of_getElem? (i := 1258) (by decide +kernel)⟩
theorem lw_p43 : lw_okq (⟨"SafeSweepsModel", "bytesIn", "(I)I"⟩, 54) := ⟨⟨by decide +kernel, by decide +kernel⟩, List.mem_of_getElem? (i := 885) (by decide +kernel), List.mem_of_getElem? (i := 1261) (by decide +kernel), List.mem_of_getElem? (i := 1262) (by decide +kernel)⟩
theorem lw_p44 : lw_okq (⟨"SafeSweepsModel", "blocksIn", "(I)I"⟩, 54) := ⟨⟨by decide +kernel, by decide +kernel⟩, List.mem_of_getElem? (i := 885) (by decide +kernel), List.mem_of_getElem? (i := 1265) (by decide +kernel), List.mem_of_getElem? (i := 1266) (by decide +kernel)⟩
theorem lw_p45 : lw_okq (⟨"SafeSweepsModel", "plan", "(II)I"⟩, 54) := ⟨⟨by decide +kernel, by decide +kernel⟩, List.mem_of_getElem? (i := 885) (by decide +kernel), List.mem_of_getElem? (i := 1269) (by decide +kernel), List.mem_of_getElem? (i := 1270) (by decide +kernel)⟩
theorem lw_p46 : lw_okq (⟨"SafeSweepsModel", "usersOf", "(I)I"⟩, 54) := ⟨⟨by decide +kernel, by decide +kernel⟩, List.mem_of_getElem? (i := 885) (by decide +kernel), List.mem_of_getElem? (i := 1282) (by decide +kernel), List.mem_of_getElem? (i := 1283) (by decide +kernel)⟩
theorem lw_p47 : lw_okq (⟨"SafeSweepsModel", "isMirror", "(I)Z"⟩, 54) := ⟨⟨by decide +kernel, by decide +kernel⟩, List.mem_of_getElem? (i := 885) (by decide +kernel), List.mem_of_getElem? (i := 1317) (by decide +kernel), List.mem_of_getElem? (i := 1318) (by decide +kernel)⟩
def lw_privs_3 : List (MethodName × Nat) := [(⟨"SafeSweepsModel", "goes", "(I)Z"⟩, 54), (⟨"SafeSweepsModel", "keptBy", "(I)I"⟩, 54), (⟨"SafeSweepsModel", "behind", "(I)I"⟩, 54), (⟨"SafeSweepsModel", "spanKeeps", "(II)Z"⟩, 54), (⟨"SafeSweepsModel", "spanOf", "(JI)J"⟩, 54), (⟨"SafeSweepsModel", "push", "(I)V"⟩, 54), (⟨"SafeSweepsModel", "settle", "()V"⟩, 54), (⟨"SafeSweepsModel", "mark", "()V"⟩, 54), (⟨"SafeSweepsModel", "clear", "()Z"⟩, 54), (⟨"SafeSweepsModel", "choose", "()Z"⟩, 54), (⟨"SafeSweepsModel", "packStep", "()Z"⟩, 54), (⟨"SafeSweepsModel", "bytesIn", "(I)I"⟩, 54), (⟨"SafeSweepsModel", "blocksIn", "(I)I"⟩, 54), (⟨"SafeSweepsModel", "plan", "(II)I"⟩, 54), (⟨"SafeSweepsModel", "usersOf", "(I)I"⟩, 54), (⟨"SafeSweepsModel", "isMirror", "(I)Z"⟩, 54)]
theorem lw_r3 : ∀ q ∈ lw_privs_3, lw_okq q := List.forall_mem_cons.mpr ⟨lw_p32, List.forall_mem_cons.mpr ⟨lw_p33, List.forall_mem_cons.mpr ⟨lw_p34, List.forall_mem_cons.mpr ⟨lw_p35, List.forall_mem_cons.mpr ⟨lw_p36, List.forall_mem_cons.mpr ⟨lw_p37, List.forall_mem_cons.mpr ⟨lw_p38, List.forall_mem_cons.mpr ⟨lw_p39, List.forall_mem_cons.mpr ⟨lw_p40, List.forall_mem_cons.mpr ⟨lw_p41, List.forall_mem_cons.mpr ⟨lw_p42, List.forall_mem_cons.mpr ⟨lw_p43, List.forall_mem_cons.mpr ⟨lw_p44, List.forall_mem_cons.mpr ⟨lw_p45, List.forall_mem_cons.mpr ⟨lw_p46, List.forall_mem_cons.mpr ⟨lw_p47, fun _ h => absurd h List.not_mem_nil⟩⟩⟩⟩⟩⟩⟩⟩⟩⟩⟩⟩⟩⟩⟩⟩
theorem lw_p48 : lw_okq (⟨"SafeSweepsModel", "mirrorHas", "(III)Z"⟩, 54) := ⟨⟨by decide +kernel, by decide +kernel⟩, List.mem_of_getElem? (i := 885) (by decide +kernel), List.mem_of_getElem? (i := 1325) (by decide +kernel), List.mem_of_getElem? (i := 1326) (by decide +kernel)⟩
theorem lw_p49 : lw_okq (⟨"SafeSweepsModel", "lacks", "(II)Z"⟩, 54) := ⟨⟨by decide +kernel, by decide +kernel⟩, List.mem_of_getElem? (i := 885) (by decide +kernel), List.mem_of_getElem? (i := 1333) (by decide +kernel), List.mem_of_getElem? (i := 1334) (by decide +kernel)⟩
theorem lw_p50 : lw_okq (⟨"SafeSweepsModel", "wrongPlaces", "()I"⟩, 54) := ⟨⟨by decide +kernel, by decide +kernel⟩, List.mem_of_getElem? (i := 885) (by decide +kernel), List.mem_of_getElem? (i := 1341) (by decide +kernel), List.mem_of_getElem? (i := 1342) (by decide +kernel)⟩
theorem lw_p51 : lw_okq (⟨"SafeSweepsModel", "lostFrom", "(I)I"⟩, 54) := ⟨⟨by decide +kernel, by decide +kernel⟩, List.mem_of_getElem? (i := 885) (by decide +kernel), List.mem_of_getElem? (i := 1345) (by decide +kernel), List.mem_of_getElem? (i := 1346) (by decide +kernel)⟩
def lw_privs_4 : List (MethodName × Nat) := [(⟨"SafeSweepsModel", "mirrorHas", "(III)Z"⟩, 54), (⟨"SafeSweepsModel", "lacks", "(II)Z"⟩, 54), (⟨"SafeSweepsModel", "wrongPlaces", "()I"⟩, 54), (⟨"SafeSweepsModel", "lostFrom", "(I)I"⟩, 54)]
theorem lw_r4 : ∀ q ∈ lw_privs_4, lw_okq q := List.forall_mem_cons.mpr ⟨lw_p48, List.forall_mem_cons.mpr ⟨lw_p49, List.forall_mem_cons.mpr ⟨lw_p50, List.forall_mem_cons.mpr ⟨lw_p51, fun _ h => absurd h List.not_mem_nil⟩⟩⟩⟩
def lw_privs : List (MethodName × Nat) := lw_privs_1 ++ (lw_privs_2 ++ (lw_privs_3 ++ (lw_privs_4)))
def lw_tbl : List Cond := k2_sels lw_privs ++ tables_1
theorem lw_privs_ok : ∀ q ∈ lw_privs, lw_okq q := by
  show ∀ q ∈ lw_privs_1 ++ (lw_privs_2 ++ (lw_privs_3 ++ (lw_privs_4))), lw_okq q
  exact List.forall_mem_append.mpr ⟨lw_r1, List.forall_mem_append.mpr ⟨lw_r2, List.forall_mem_append.mpr ⟨lw_r3, lw_r4⟩⟩⟩
end
section
def RX0 : String := "SafeSweeps$Block"
def TX0 : u_T := fun k => match k with
  | 0 => ("SafeSweeps$Block", "key", "J", true)
  | 1 => ("SafeSweeps$Block", "size", "I", true)
  | 2 => ("SafeSweeps$Block", "children", "[I", true)
  | 3 => ("SafeSweeps$Block", "pack", "I", false)
  | 4 => ("SafeSweeps$Block", "place", "I", false)
  | 5 => ("SafeSweeps$Block", "waiting", "I", false)
  | 6 => ("SafeSweeps$Block", "freed", "Z", false)
  | _ => ("SafeSweeps$Block", "marked", "Z", false)
def tyX0 : Nat → FieldType := fun k => match k with
  | 0 => .long
  | 1 => .int
  | 2 => .array .int
  | 3 => .int
  | 4 => .int
  | 5 => .int
  | 6 => .boolean
  | _ => .boolean
theorem nmX0 : ∀ a, a < 8 → ∀ b, b < 8 → a ≠ b → (TX0 a).2.1 ≠ (TX0 b).2.1 := by decide +kernel
theorem tyX0_ok : ∀ k, k < 8 → parseFieldDescriptor (TX0 k).2.2.1 = some (tyX0 k) := by decide +kernel
abbrev cX0_init : ByteArray := prog_2_method_1_code
def yX0_init : MethodName := ⟨RX0, "<init>", "(JI[I)V"⟩
abbrev cX0_isLike : ByteArray := prog_2_method_2_code
def yX0_isLike : MethodName := ⟨RX0, "isLike", "(JI[II)Z"⟩
def RX1 : String := "SafeSweeps$Calendar"
def TX1 : u_T := fun k => match k with
  | _ => ("", "", "", false)
def tyX1 : Nat → FieldType := fun k => match k with
  | _ => .int
theorem nmX1 : ∀ a, a < 0 → ∀ b, b < 0 → a ≠ b → (TX1 a).2.1 ≠ (TX1 b).2.1 := by decide +kernel
theorem tyX1_ok : ∀ k, k < 0 → parseFieldDescriptor (TX1 k).2.2.1 = some (tyX1 k) := by decide +kernel
abbrev cX1_dayOf : ByteArray := prog_3_method_2_code
def yX1_dayOf : MethodName := ⟨RX1, "dayOf", "(J)J"⟩
abbrev cX1_weekOf : ByteArray := prog_3_method_3_code
def yX1_weekOf : MethodName := ⟨RX1, "weekOf", "(J)J"⟩
abbrev cX1_dayOfWeek : ByteArray := prog_3_method_4_code
def yX1_dayOfWeek : MethodName := ⟨RX1, "dayOfWeek", "(J)I"⟩
abbrev cX1_yearOf : ByteArray := prog_3_method_5_code
def yX1_yearOf : MethodName := ⟨RX1, "yearOf", "(J)J"⟩
abbrev cX1_monthOf : ByteArray := prog_3_method_6_code
def yX1_monthOf : MethodName := ⟨RX1, "monthOf", "(J)I"⟩
abbrev cX1_dayOfMonth : ByteArray := prog_3_method_7_code
def yX1_dayOfMonth : MethodName := ⟨RX1, "dayOfMonth", "(J)I"⟩
abbrev cX1_monthsUpTo : ByteArray := prog_3_method_8_code
def yX1_monthsUpTo : MethodName := ⟨RX1, "monthsUpTo", "(J)J"⟩
abbrev cX1_dayOfEra : ByteArray := prog_3_method_9_code
def yX1_dayOfEra : MethodName := ⟨RX1, "dayOfEra", "(J)J"⟩
abbrev cX1_marchYearOfEra : ByteArray := prog_3_method_10_code
def yX1_marchYearOfEra : MethodName := ⟨RX1, "marchYearOfEra", "(J)J"⟩
abbrev cX1_dayOfMarchYear : ByteArray := prog_3_method_11_code
def yX1_dayOfMarchYear : MethodName := ⟨RX1, "dayOfMarchYear", "(JJ)J"⟩
abbrev cX1_marchMonth : ByteArray := prog_3_method_12_code
def yX1_marchMonth : MethodName := ⟨RX1, "marchMonth", "(J)J"⟩
abbrev cX1_daysBeforeMarchMonth : ByteArray := prog_3_method_13_code
def yX1_daysBeforeMarchMonth : MethodName := ⟨RX1, "daysBeforeMarchMonth", "(J)J"⟩
def RX2 : String := "SafeSweeps$Journal"
def TX2 : u_T := fun k => match k with
  | 0 => ("SafeSweeps$Journal", "events", "[I", true)
  | 1 => ("SafeSweeps$Journal", "numbers", "[I", true)
  | 2 => ("SafeSweeps$Journal", "length", "I", false)
  | 3 => ("SafeSweeps$Journal", "writes", "I", false)
  | 4 => ("SafeSweeps$Journal", "writesLeft", "I", false)
  | _ => ("SafeSweeps$Journal", "down", "Z", false)
def tyX2 : Nat → FieldType := fun k => match k with
  | 0 => .array .int
  | 1 => .array .int
  | 2 => .int
  | 3 => .int
  | 4 => .int
  | _ => .boolean
theorem nmX2 : ∀ a, a < 6 → ∀ b, b < 6 → a ≠ b → (TX2 a).2.1 ≠ (TX2 b).2.1 := by decide +kernel
theorem tyX2_ok : ∀ k, k < 6 → parseFieldDescriptor (TX2 k).2.2.1 = some (tyX2 k) := by decide +kernel
abbrev cX2_init : ByteArray := prog_4_method_1_code
def yX2_init : MethodName := ⟨RX2, "<init>", "()V"⟩
abbrev cX2_write : ByteArray := prog_4_method_2_code
def yX2_write : MethodName := ⟨RX2, "write", "()Z"⟩
abbrev cX2_write_ : ByteArray := prog_4_method_3_code
def yX2_write_ : MethodName := ⟨RX2, "write", "(II)Z"⟩
def RX3 : String := "SafeSweeps$Mirror"
def TX3 : u_T := fun k => match k with
  | 0 => ("SafeSweeps$Mirror", "blocks", "[Z", true)
  | 1 => ("SafeSweeps$Mirror", "snapshots", "[Z", true)
  | _ => ("SafeSweeps$Mirror", "done", "I", false)
def tyX3 : Nat → FieldType := fun k => match k with
  | 0 => .array .boolean
  | 1 => .array .boolean
  | _ => .int
theorem nmX3 : ∀ a, a < 3 → ∀ b, b < 3 → a ≠ b → (TX3 a).2.1 ≠ (TX3 b).2.1 := by decide +kernel
theorem tyX3_ok : ∀ k, k < 3 → parseFieldDescriptor (TX3 k).2.2.1 = some (tyX3 k) := by decide +kernel
abbrev cX3_init : ByteArray := prog_5_method_1_code
def yX3_init : MethodName := ⟨RX3, "<init>", "()V"⟩
abbrev cX3_repeat : ByteArray := prog_5_method_2_code
def yX3_repeat : MethodName := ⟨RX3, "repeat", "(LSafeSweeps$Journal;I)V"⟩
abbrev cX3_forget : ByteArray := prog_5_method_3_code
def yX3_forget : MethodName := ⟨RX3, "forget", "()V"⟩
abbrev cX3_differences : ByteArray := prog_5_method_4_code
def yX3_differences : MethodName := ⟨RX3, "differences", "(LSafeSweeps$Mirror;)I"⟩
abbrev cX3_held : ByteArray := prog_5_method_5_code
def yX3_held : MethodName := ⟨RX3, "held", "([Z)I"⟩
def RX4 : String := "SafeSweeps$Mover"
def TX4 : u_T := fun k => match k with
  | 0 => ("SafeSweeps$Mover", "store", "LSafeSweeps$Store;", true)
  | 1 => ("SafeSweeps$Mover", "journal", "LSafeSweeps$Journal;", true)
  | 2 => ("SafeSweeps$Mover", "moved", "[I", true)
  | 3 => ("SafeSweeps$Mover", "packs", "[I", true)
  | 4 => ("SafeSweeps$Mover", "places", "[I", true)
  | _ => ("SafeSweeps$Mover", "length", "I", false)
def tyX4 : Nat → FieldType := fun k => match k with
  | 0 => .object "SafeSweeps$Store"
  | 1 => .object "SafeSweeps$Journal"
  | 2 => .array .int
  | 3 => .array .int
  | 4 => .array .int
  | _ => .int
theorem nmX4 : ∀ a, a < 6 → ∀ b, b < 6 → a ≠ b → (TX4 a).2.1 ≠ (TX4 b).2.1 := by decide +kernel
theorem tyX4_ok : ∀ k, k < 6 → parseFieldDescriptor (TX4 k).2.2.1 = some (tyX4 k) := by decide +kernel
abbrev cX4_init : ByteArray := prog_6_method_1_code
def yX4_init : MethodName := ⟨RX4, "<init>", "(LSafeSweeps$Store;LSafeSweeps$Journal;)V"⟩
abbrev cX4_isDue : ByteArray := prog_6_method_2_code
def yX4_isDue : MethodName := ⟨RX4, "isDue", "(II)Z"⟩
abbrev cX4_packAnew : ByteArray := prog_6_method_3_code
def yX4_packAnew : MethodName := ⟨RX4, "packAnew", "(I)Z"⟩
abbrev cX4_collect : ByteArray := prog_6_method_4_code
def yX4_collect : MethodName := ⟨RX4, "collect", "(I)V"⟩
abbrev cX4_insertByPlace : ByteArray := prog_6_method_5_code
def yX4_insertByPlace : MethodName := ⟨RX4, "insertByPlace", "(I)V"⟩
abbrev cX4_plan : ByteArray := prog_6_method_6_code
def yX4_plan : MethodName := ⟨RX4, "plan", "(I)Z"⟩
abbrev cX4_carryOut : ByteArray := prog_6_method_7_code
def yX4_carryOut : MethodName := ⟨RX4, "carryOut", "(I)V"⟩
def RX5 : String := "SafeSweeps$Pack"
def TX5 : u_T := fun k => match k with
  | 0 => ("SafeSweeps$Pack", "all", "I", false)
  | 1 => ("SafeSweeps$Pack", "holes", "I", false)
  | _ => ("SafeSweeps$Pack", "gone", "Z", false)
def tyX5 : Nat → FieldType := fun k => match k with
  | 0 => .int
  | 1 => .int
  | _ => .boolean
theorem nmX5 : ∀ a, a < 3 → ∀ b, b < 3 → a ≠ b → (TX5 a).2.1 ≠ (TX5 b).2.1 := by decide +kernel
theorem tyX5_ok : ∀ k, k < 3 → parseFieldDescriptor (TX5 k).2.2.1 = some (tyX5 k) := by decide +kernel
abbrev cX5_init : ByteArray := prog_7_method_1_code
def yX5_init : MethodName := ⟨RX5, "<init>", "()V"⟩
def RX6 : String := "SafeSweeps$Rules"
def TX6 : u_T := fun k => match k with
  | 0 => ("SafeSweeps$Rules", "numbers", "[I", true)
  | _ => ("SafeSweeps$Rules", "kept", "[I", true)
def tyX6 : Nat → FieldType := fun k => match k with
  | 0 => .array .int
  | _ => .array .int
theorem nmX6 : ∀ a, a < 2 → ∀ b, b < 2 → a ≠ b → (TX6 a).2.1 ≠ (TX6 b).2.1 := by decide +kernel
theorem tyX6_ok : ∀ k, k < 2 → parseFieldDescriptor (TX6 k).2.2.1 = some (tyX6 k) := by decide +kernel
abbrev cX6_init : ByteArray := prog_8_method_1_code
def yX6_init : MethodName := ⟨RX6, "<init>", "()V"⟩
abbrev cX6_greatest : ByteArray := prog_8_method_2_code
def yX6_greatest : MethodName := ⟨RX6, "greatest", "(I)I"⟩
abbrev cX6_judge : ByteArray := prog_8_method_3_code
def yX6_judge : MethodName := ⟨RX6, "judge", "([LSafeSweeps$Snapshot;I)V"⟩
abbrev cX6_judgeBy : ByteArray := prog_8_method_4_code
def yX6_judgeBy : MethodName := ⟨RX6, "judgeBy", "(I[LSafeSweeps$Snapshot;I)V"⟩
abbrev cX6_periodOf : ByteArray := prog_8_method_5_code
def yX6_periodOf : MethodName := ⟨RX6, "periodOf", "(IJ)J"⟩
def RX7 : String := "SafeSweeps$Saver"
def TX7 : u_T := fun k => match k with
  | 0 => ("SafeSweeps$Saver", "used", "[I", true)
  | 1 => ("SafeSweeps$Saver", "children", "[I", true)
  | 2 => ("SafeSweeps$Saver", "usedCount", "I", false)
  | 3 => ("SafeSweeps$Saver", "childCount", "I", false)
  | 4 => ("SafeSweeps$Saver", "lease", "I", false)
  | 5 => ("SafeSweeps$Saver", "until", "J", false)
  | _ => ("SafeSweeps$Saver", "here", "Z", false)
def tyX7 : Nat → FieldType := fun k => match k with
  | 0 => .array .int
  | 1 => .array .int
  | 2 => .int
  | 3 => .int
  | 4 => .int
  | 5 => .long
  | _ => .boolean
theorem nmX7 : ∀ a, a < 7 → ∀ b, b < 7 → a ≠ b → (TX7 a).2.1 ≠ (TX7 b).2.1 := by decide +kernel
theorem tyX7_ok : ∀ k, k < 7 → parseFieldDescriptor (TX7 k).2.2.1 = some (tyX7 k) := by decide +kernel
abbrev cX7_init : ByteArray := prog_9_method_1_code
def yX7_init : MethodName := ⟨RX7, "<init>", "()V"⟩
abbrev cX7_arrive : ByteArray := prog_9_method_2_code
def yX7_arrive : MethodName := ⟨RX7, "arrive", "(IJ)V"⟩
abbrev cX7_renew : ByteArray := prog_9_method_3_code
def yX7_renew : MethodName := ⟨RX7, "renew", "(J)V"⟩
abbrev cX7_isDead : ByteArray := prog_9_method_4_code
def yX7_isDead : MethodName := ⟨RX7, "isDead", "(J)Z"⟩
abbrev cX7_uses : ByteArray := prog_9_method_5_code
def yX7_uses : MethodName := ⟨RX7, "uses", "(I)Z"⟩
abbrev cX7_canUse : ByteArray := prog_9_method_6_code
def yX7_canUse : MethodName := ⟨RX7, "canUse", "(I)Z"⟩
abbrev cX7_use : ByteArray := prog_9_method_7_code
def yX7_use : MethodName := ⟨RX7, "use", "(I)V"⟩
abbrev cX7_addChild : ByteArray := prog_9_method_8_code
def yX7_addChild : MethodName := ⟨RX7, "addChild", "(I)Z"⟩
def RX8 : String := "SafeSweeps$Snapshot"
def TX8 : u_T := fun k => match k with
  | 0 => ("SafeSweeps$Snapshot", "time", "J", true)
  | 1 => ("SafeSweeps$Snapshot", "tag", "I", true)
  | 2 => ("SafeSweeps$Snapshot", "roots", "[I", true)
  | _ => ("SafeSweeps$Snapshot", "gone", "Z", false)
def tyX8 : Nat → FieldType := fun k => match k with
  | 0 => .long
  | 1 => .int
  | 2 => .array .int
  | _ => .boolean
theorem nmX8 : ∀ a, a < 4 → ∀ b, b < 4 → a ≠ b → (TX8 a).2.1 ≠ (TX8 b).2.1 := by decide +kernel
theorem tyX8_ok : ∀ k, k < 4 → parseFieldDescriptor (TX8 k).2.2.1 = some (tyX8 k) := by decide +kernel
abbrev cX8_init : ByteArray := prog_10_method_1_code
def yX8_init : MethodName := ⟨RX8, "<init>", "(JI[I)V"⟩
def RX9 : String := "SafeSweeps$Store"
def TX9 : u_T := fun k => match k with
  | 0 => ("SafeSweeps$Store", "capacity", "I", true)
  | 1 => ("SafeSweeps$Store", "journal", "LSafeSweeps$Journal;", true)
  | 2 => ("SafeSweeps$Store", "blocks", "[LSafeSweeps$Block;", true)
  | 3 => ("SafeSweeps$Store", "packs", "[LSafeSweeps$Pack;", true)
  | 4 => ("SafeSweeps$Store", "reached", "[Z", true)
  | 5 => ("SafeSweeps$Store", "blocksMade", "I", false)
  | 6 => ("SafeSweeps$Store", "blocksFreed", "I", false)
  | 7 => ("SafeSweeps$Store", "blocksRevived", "I", false)
  | 8 => ("SafeSweeps$Store", "packsMade", "I", false)
  | _ => ("SafeSweeps$Store", "packsPackedAnew", "I", false)
def tyX9 : Nat → FieldType := fun k => match k with
  | 0 => .int
  | 1 => .object "SafeSweeps$Journal"
  | 2 => .array (.object "SafeSweeps$Block")
  | 3 => .array (.object "SafeSweeps$Pack")
  | 4 => .array .boolean
  | 5 => .int
  | 6 => .int
  | 7 => .int
  | 8 => .int
  | _ => .int
theorem nmX9 : ∀ a, a < 10 → ∀ b, b < 10 → a ≠ b → (TX9 a).2.1 ≠ (TX9 b).2.1 := by decide +kernel
theorem tyX9_ok : ∀ k, k < 10 → parseFieldDescriptor (TX9 k).2.2.1 = some (tyX9 k) := by decide +kernel
abbrev cX9_init : ByteArray := prog_11_method_1_code
def yX9_init : MethodName := ⟨RX9, "<init>", "(ILSafeSweeps$Journal;)V"⟩
abbrev cX9_holds : ByteArray := prog_11_method_2_code
def yX9_holds : MethodName := ⟨RX9, "holds", "(I)Z"⟩
abbrev cX9_blocksWaiting : ByteArray := prog_11_method_3_code
def yX9_blocksWaiting : MethodName := ⟨RX9, "blocksWaiting", "()I"⟩
abbrev cX9_blocksIn : ByteArray := prog_11_method_4_code
def yX9_blocksIn : MethodName := ⟨RX9, "blocksIn", "(I)I"⟩
abbrev cX9_liesIn : ByteArray := prog_11_method_5_code
def yX9_liesIn : MethodName := ⟨RX9, "liesIn", "(II)Z"⟩
abbrev cX9_find : ByteArray := prog_11_method_6_code
def yX9_find : MethodName := ⟨RX9, "find", "(JI[II)I"⟩
abbrev cX9_filledOfLatest : ByteArray := prog_11_method_7_code
def yX9_filledOfLatest : MethodName := ⟨RX9, "filledOfLatest", "(I)I"⟩
abbrev cX9_hasRoomFor : ByteArray := prog_11_method_8_code
def yX9_hasRoomFor : MethodName := ⟨RX9, "hasRoomFor", "(I)Z"⟩
abbrev cX9_add : ByteArray := prog_11_method_9_code
def yX9_add : MethodName := ⟨RX9, "add", "(JI[I)I"⟩
abbrev cX9_lay : ByteArray := prog_11_method_10_code
def yX9_lay : MethodName := ⟨RX9, "lay", "(III)V"⟩
abbrev cX9_free : ByteArray := prog_11_method_11_code
def yX9_free : MethodName := ⟨RX9, "free", "(I)Z"⟩
abbrev cX9_await : ByteArray := prog_11_method_12_code
def yX9_await : MethodName := ⟨RX9, "await", "(II)Z"⟩
abbrev cX9_reachNothing : ByteArray := prog_11_method_13_code
def yX9_reachNothing : MethodName := ⟨RX9, "reachNothing", "()V"⟩
abbrev cX9_reachFrom : ByteArray := prog_11_method_14_code
def yX9_reachFrom : MethodName := ⟨RX9, "reachFrom", "(I)V"⟩
abbrev cX9_reachChildren : ByteArray := prog_11_method_15_code
def yX9_reachChildren : MethodName := ⟨RX9, "reachChildren", "(I)V"⟩
abbrev cX9_reachFromAll : ByteArray := prog_11_method_16_code
def yX9_reachFromAll : MethodName := ⟨RX9, "reachFromAll", "([II)V"⟩
abbrev cX9_reachFromThere : ByteArray := prog_11_method_17_code
def yX9_reachFromThere : MethodName := ⟨RX9, "reachFromThere", "()V"⟩
abbrev cX9_reviveReached : ByteArray := prog_11_method_18_code
def yX9_reviveReached : MethodName := ⟨RX9, "reviveReached", "()I"⟩
abbrev cX9_markReached : ByteArray := prog_11_method_19_code
def yX9_markReached : MethodName := ⟨RX9, "markReached", "()V"⟩
abbrev cX9_reachedOutside : ByteArray := prog_11_method_20_code
def yX9_reachedOutside : MethodName := ⟨RX9, "reachedOutside", "([Z)I"⟩
abbrev cX9_reachedButFreed : ByteArray := prog_11_method_21_code
def yX9_reachedButFreed : MethodName := ⟨RX9, "reachedButFreed", "()I"⟩
abbrev cX9_misplacedBlocks : ByteArray := prog_11_method_22_code
def yX9_misplacedBlocks : MethodName := ⟨RX9, "misplacedBlocks", "()I"⟩
abbrev cX9_liesOverLater : ByteArray := prog_11_method_23_code
def yX9_liesOverLater : MethodName := ⟨RX9, "liesOverLater", "(I)Z"⟩
abbrev cX9_unevenPacks : ByteArray := prog_11_method_24_code
def yX9_unevenPacks : MethodName := ⟨RX9, "unevenPacks", "()I"⟩
def RX10 : String := "SafeSweeps$Sweep"
def TX10 : u_T := fun k => match k with
  | 0 => ("SafeSweeps$Sweep", "store", "LSafeSweeps$Store;", true)
  | 1 => ("SafeSweeps$Sweep", "mover", "LSafeSweeps$Mover;", true)
  | 2 => ("SafeSweeps$Sweep", "row", "[I", true)
  | 3 => ("SafeSweeps$Sweep", "first", "I", false)
  | 4 => ("SafeSweeps$Sweep", "behind", "I", false)
  | 5 => ("SafeSweeps$Sweep", "phase", "I", false)
  | 6 => ("SafeSweeps$Sweep", "number", "I", false)
  | 7 => ("SafeSweeps$Sweep", "end", "I", false)
  | 8 => ("SafeSweeps$Sweep", "next", "I", false)
  | 9 => ("SafeSweeps$Sweep", "packs", "I", false)
  | _ => ("SafeSweeps$Sweep", "percent", "I", false)
def tyX10 : Nat → FieldType := fun k => match k with
  | 0 => .object "SafeSweeps$Store"
  | 1 => .object "SafeSweeps$Mover"
  | 2 => .array .int
  | 3 => .int
  | 4 => .int
  | 5 => .int
  | 6 => .int
  | 7 => .int
  | 8 => .int
  | 9 => .int
  | _ => .int
theorem nmX10 : ∀ a, a < 11 → ∀ b, b < 11 → a ≠ b → (TX10 a).2.1 ≠ (TX10 b).2.1 := by decide +kernel
theorem tyX10_ok : ∀ k, k < 11 → parseFieldDescriptor (TX10 k).2.2.1 = some (tyX10 k) := by decide +kernel
abbrev cX10_init : ByteArray := prog_12_method_1_code
def yX10_init : MethodName := ⟨RX10, "<init>", "(LSafeSweeps$Store;LSafeSweeps$Journal;)V"⟩
abbrev cX10_prepare : ByteArray := prog_12_method_2_code
def yX10_prepare : MethodName := ⟨RX10, "prepare", "()V"⟩
abbrev cX10_lineUp : ByteArray := prog_12_method_3_code
def yX10_lineUp : MethodName := ⟨RX10, "lineUp", "(I)V"⟩
abbrev cX10_lineUpAll : ByteArray := prog_12_method_4_code
def yX10_lineUpAll : MethodName := ⟨RX10, "lineUpAll", "([II)V"⟩
abbrev cX10_spareReached : ByteArray := prog_12_method_5_code
def yX10_spareReached : MethodName := ⟨RX10, "spareReached", "(I)V"⟩
abbrev cX10_advance : ByteArray := prog_12_method_6_code
def yX10_advance : MethodName := ⟨RX10, "advance", "()Z"⟩
abbrev cX10_settle : ByteArray := prog_12_method_7_code
def yX10_settle : MethodName := ⟨RX10, "settle", "()V"⟩
abbrev cX10_markFirst : ByteArray := prog_12_method_8_code
def yX10_markFirst : MethodName := ⟨RX10, "markFirst", "()V"⟩
abbrev cX10_clearNext : ByteArray := prog_12_method_9_code
def yX10_clearNext : MethodName := ⟨RX10, "clearNext", "()Z"⟩
abbrev cX10_chooseNext : ByteArray := prog_12_method_10_code
def yX10_chooseNext : MethodName := ⟨RX10, "chooseNext", "()Z"⟩
abbrev cX10_packNext : ByteArray := prog_12_method_11_code
def yX10_packNext : MethodName := ⟨RX10, "packNext", "()Z"⟩
def RX11 : String := "SafeSweeps"
def TX11 : u_T := fun k => match k with
  | 0 => ("SafeSweeps", "journal", "LSafeSweeps$Journal;", true)
  | 1 => ("SafeSweeps", "store", "LSafeSweeps$Store;", true)
  | 2 => ("SafeSweeps", "sweeper", "LSafeSweeps$Sweep;", true)
  | 3 => ("SafeSweeps", "rules", "LSafeSweeps$Rules;", true)
  | 4 => ("SafeSweeps", "savers", "[LSafeSweeps$Saver;", true)
  | 5 => ("SafeSweeps", "snapshots", "[LSafeSweeps$Snapshot;", true)
  | 6 => ("SafeSweeps", "mirrors", "[LSafeSweeps$Mirror;", true)
  | 7 => ("SafeSweeps", "replayed", "LSafeSweeps$Mirror;", true)
  | 8 => ("SafeSweeps", "snapshotsMade", "I", false)
  | _ => ("SafeSweeps", "now", "J", false)
def tyX11 : Nat → FieldType := fun k => match k with
  | 0 => .object "SafeSweeps$Journal"
  | 1 => .object "SafeSweeps$Store"
  | 2 => .object "SafeSweeps$Sweep"
  | 3 => .object "SafeSweeps$Rules"
  | 4 => .array (.object "SafeSweeps$Saver")
  | 5 => .array (.object "SafeSweeps$Snapshot")
  | 6 => .array (.object "SafeSweeps$Mirror")
  | 7 => .object "SafeSweeps$Mirror"
  | 8 => .int
  | _ => .long
theorem nmX11 : ∀ a, a < 10 → ∀ b, b < 10 → a ≠ b → (TX11 a).2.1 ≠ (TX11 b).2.1 := by decide +kernel
theorem tyX11_ok : ∀ k, k < 10 → parseFieldDescriptor (TX11 k).2.2.1 = some (tyX11 k) := by decide +kernel
abbrev cX11_init : ByteArray := prog_1_method_1_code
def yX11_init : MethodName := ⟨RX11, "<init>", "(I)V"⟩
abbrev cX11_at : ByteArray := prog_1_method_2_code
def yX11_at : MethodName := ⟨RX11, "at", "(J)I"⟩
abbrev cX11_begin : ByteArray := prog_1_method_3_code
def yX11_begin : MethodName := ⟨RX11, "begin", "(I)I"⟩
abbrev cX11_child : ByteArray := prog_1_method_4_code
def yX11_child : MethodName := ⟨RX11, "child", "(II)I"⟩
abbrev cX11_save : ByteArray := prog_1_method_5_code
def yX11_save : MethodName := ⟨RX11, "save", "(IJI)I"⟩
abbrev cX11_saveNew : ByteArray := prog_1_method_6_code
def yX11_saveNew : MethodName := ⟨RX11, "saveNew", "(LSafeSweeps$Saver;JI)I"⟩
abbrev cX11_saveFound : ByteArray := prog_1_method_7_code
def yX11_saveFound : MethodName := ⟨RX11, "saveFound", "(LSafeSweeps$Saver;I)I"⟩
abbrev cX11_take : ByteArray := prog_1_method_8_code
def yX11_take : MethodName := ⟨RX11, "take", "(II)I"⟩
abbrev cX11_takeFor : ByteArray := prog_1_method_9_code
def yX11_takeFor : MethodName := ⟨RX11, "takeFor", "(LSafeSweeps$Saver;I)I"⟩
abbrev cX11_commit : ByteArray := prog_1_method_10_code
def yX11_commit : MethodName := ⟨RX11, "commit", "(II)I"⟩
abbrev cX11_give : ByteArray := prog_1_method_11_code
def yX11_give : MethodName := ⟨RX11, "give", "(I)I"⟩
abbrev cX11_saverHere : ByteArray := prog_1_method_12_code
def yX11_saverHere : MethodName := ⟨RX11, "saverHere", "(I)LSafeSweeps$Saver;"⟩
abbrev cX11_renewed : ByteArray := prog_1_method_13_code
def yX11_renewed : MethodName := ⟨RX11, "renewed", "(I)LSafeSweeps$Saver;"⟩
abbrev cX11_saversHere : ByteArray := prog_1_method_14_code
def yX11_saversHere : MethodName := ⟨RX11, "saversHere", "()I"⟩
abbrev cX11_saversThatUse : ByteArray := prog_1_method_15_code
def yX11_saversThatUse : MethodName := ⟨RX11, "saversThatUse", "(I)I"⟩
abbrev cX11_drop : ByteArray := prog_1_method_16_code
def yX11_drop : MethodName := ⟨RX11, "drop", "(I)I"⟩
abbrev cX11_rule : ByteArray := prog_1_method_17_code
def yX11_rule : MethodName := ⟨RX11, "rule", "(II)I"⟩
abbrev cX11_keeps : ByteArray := prog_1_method_18_code
def yX11_keeps : MethodName := ⟨RX11, "keeps", "(I)I"⟩
abbrev cX11_prune : ByteArray := prog_1_method_19_code
def yX11_prune : MethodName := ⟨RX11, "prune", "(Z)I"⟩
abbrev cX11_snapshotIsThere : ByteArray := prog_1_method_20_code
def yX11_snapshotIsThere : MethodName := ⟨RX11, "snapshotIsThere", "(I)Z"⟩
abbrev cX11_snapshotIsUnkept : ByteArray := prog_1_method_21_code
def yX11_snapshotIsUnkept : MethodName := ⟨RX11, "snapshotIsUnkept", "(I)Z"⟩
abbrev cX11_snapshotsThere : ByteArray := prog_1_method_22_code
def yX11_snapshotsThere : MethodName := ⟨RX11, "snapshotsThere", "()I"⟩
abbrev cX11_removeSnapshot : ByteArray := prog_1_method_23_code
def yX11_removeSnapshot : MethodName := ⟨RX11, "removeSnapshot", "(I)Z"⟩
abbrev cX11_sweep : ByteArray := prog_1_method_24_code
def yX11_sweep : MethodName := ⟨RX11, "sweep", "()I"⟩
abbrev cX11_lineUpOrDismiss : ByteArray := prog_1_method_25_code
def yX11_lineUpOrDismiss : MethodName := ⟨RX11, "lineUpOrDismiss", "(LSafeSweeps$Saver;)V"⟩
abbrev cX11_step : ByteArray := prog_1_method_26_code
def yX11_step : MethodName := ⟨RX11, "step", "(I)I"⟩
abbrev cX11_share : ByteArray := prog_1_method_27_code
def yX11_share : MethodName := ⟨RX11, "share", "(I)I"⟩
abbrev cX11_cut : ByteArray := prog_1_method_28_code
def yX11_cut : MethodName := ⟨RX11, "cut", "(I)I"⟩
abbrev cX11_open : ByteArray := prog_1_method_29_code
def yX11_open : MethodName := ⟨RX11, "open", "()I"⟩
abbrev cX11_losePower : ByteArray := prog_1_method_30_code
def yX11_losePower : MethodName := ⟨RX11, "losePower", "()I"⟩
abbrev cX11_follow : ByteArray := prog_1_method_31_code
def yX11_follow : MethodName := ⟨RX11, "follow", "(II)I"⟩
abbrev cX11_count : ByteArray := prog_1_method_32_code
def yX11_count : MethodName := ⟨RX11, "count", "(I)I"⟩
abbrev cX11_block : ByteArray := prog_1_method_33_code
def yX11_block : MethodName := ⟨RX11, "block", "(II)I"⟩
abbrev cX11_key : ByteArray := prog_1_method_34_code
def yX11_key : MethodName := ⟨RX11, "key", "(I)J"⟩
abbrev cX11_pack : ByteArray := prog_1_method_35_code
def yX11_pack : MethodName := ⟨RX11, "pack", "(II)I"⟩
abbrev cX11_snapshot : ByteArray := prog_1_method_36_code
def yX11_snapshot : MethodName := ⟨RX11, "snapshot", "(II)I"⟩
abbrev cX11_time : ByteArray := prog_1_method_37_code
def yX11_time : MethodName := ⟨RX11, "time", "(I)J"⟩
abbrev cX11_saver : ByteArray := prog_1_method_38_code
def yX11_saver : MethodName := ⟨RX11, "saver", "(II)I"⟩
abbrev cX11_swept : ByteArray := prog_1_method_39_code
def yX11_swept : MethodName := ⟨RX11, "swept", "(I)I"⟩
abbrev cX11_calendar : ByteArray := prog_1_method_40_code
def yX11_calendar : MethodName := ⟨RX11, "calendar", "(JI)I"⟩
abbrev cX11_mirrored : ByteArray := prog_1_method_41_code
def yX11_mirrored : MethodName := ⟨RX11, "mirrored", "(II)I"⟩
abbrev cX11_brokenSnapshots : ByteArray := prog_1_method_42_code
def yX11_brokenSnapshots : MethodName := ⟨RX11, "brokenSnapshots", "(LSafeSweeps$Mirror;)I"⟩
abbrev cX11_has : ByteArray := prog_1_method_43_code
def yX11_has : MethodName := ⟨RX11, "has", "(II)Z"⟩
abbrev cX11_audit : ByteArray := prog_1_method_44_code
def yX11_audit : MethodName := ⟨RX11, "audit", "()I"⟩
abbrev cX11_reachedButFreed : ByteArray := prog_1_method_45_code
def yX11_reachedButFreed : MethodName := ⟨RX11, "reachedButFreed", "()I"⟩
def RX12 : String := "SafeSweepsModel"
def TX12 : u_T := fun k => match k with
  | 0 => ("SafeSweepsModel", "capacity", "I", true)
  | 1 => ("SafeSweepsModel", "now", "J", false)
  | 2 => ("SafeSweepsModel", "down", "Z", false)
  | 3 => ("SafeSweepsModel", "cutAt", "I", false)
  | 4 => ("SafeSweepsModel", "writes", "I", false)
  | 5 => ("SafeSweepsModel", "blocks", "I", false)
  | 6 => ("SafeSweepsModel", "keys", "[J", true)
  | 7 => ("SafeSweepsModel", "sizes", "[I", true)
  | 8 => ("SafeSweepsModel", "childMany", "[I", true)
  | 9 => ("SafeSweepsModel", "childOf", "[I", true)
  | 10 => ("SafeSweepsModel", "there", "[Z", true)
  | 11 => ("SafeSweepsModel", "packOf", "[I", true)
  | 12 => ("SafeSweepsModel", "placeOf", "[I", true)
  | 13 => ("SafeSweepsModel", "waits", "[I", true)
  | 14 => ("SafeSweepsModel", "revived", "I", false)
  | 15 => ("SafeSweepsModel", "freed", "I", false)
  | 16 => ("SafeSweepsModel", "packs", "I", false)
  | 17 => ("SafeSweepsModel", "isGone", "[Z", true)
  | 18 => ("SafeSweepsModel", "all", "[I", true)
  | 19 => ("SafeSweepsModel", "packedAnew", "I", false)
  | 20 => ("SafeSweepsModel", "sharePercent", "I", false)
  | 21 => ("SafeSweepsModel", "snapshots", "I", false)
  | 22 => ("SafeSweepsModel", "isKept", "[Z", true)
  | 23 => ("SafeSweepsModel", "times", "[J", true)
  | 24 => ("SafeSweepsModel", "tags", "[I", true)
  | 25 => ("SafeSweepsModel", "rootMany", "[I", true)
  | 26 => ("SafeSweepsModel", "rootOf", "[I", true)
  | 27 => ("SafeSweepsModel", "history", "I", false)
  | 28 => ("SafeSweepsModel", "didKind", "[I", true)
  | 29 => ("SafeSweepsModel", "didWhat", "[I", true)
  | 30 => ("SafeSweepsModel", "mirrorDid", "[I", true)
  | 31 => ("SafeSweepsModel", "saves", "[Z", true)
  | 32 => ("SafeSweepsModel", "lease", "[I", true)
  | 33 => ("SafeSweepsModel", "until", "[J", true)
  | 34 => ("SafeSweepsModel", "useMany", "[I", true)
  | 35 => ("SafeSweepsModel", "useOf", "[I", true)
  | 36 => ("SafeSweepsModel", "rowMany", "[I", true)
  | 37 => ("SafeSweepsModel", "rowOf", "[I", true)
  | 38 => ("SafeSweepsModel", "rules", "[I", true)
  | 39 => ("SafeSweepsModel", "sweeps", "I", false)
  | 40 => ("SafeSweepsModel", "phase", "I", false)
  | 41 => ("SafeSweepsModel", "isMarked", "[Z", true)
  | 42 => ("SafeSweepsModel", "row", "[I", true)
  | 43 => ("SafeSweepsModel", "rowFrom", "I", false)
  | 44 => ("SafeSweepsModel", "rowTo", "I", false)
  | 45 => ("SafeSweepsModel", "end", "I", false)
  | 46 => ("SafeSweepsModel", "at", "I", false)
  | 47 => ("SafeSweepsModel", "packEnd", "I", false)
  | 48 => ("SafeSweepsModel", "revivedNow", "I", false)
  | 49 => ("SafeSweepsModel", "reach", "[Z", true)
  | 50 => ("SafeSweepsModel", "isToGo", "[Z", true)
  | 51 => ("SafeSweepsModel", "moved", "[I", true)
  | 52 => ("SafeSweepsModel", "toPack", "[I", true)
  | _ => ("SafeSweepsModel", "toPlace", "[I", true)
def tyX12 : Nat → FieldType := fun k => match k with
  | 0 => .int
  | 1 => .long
  | 2 => .boolean
  | 3 => .int
  | 4 => .int
  | 5 => .int
  | 6 => .array .long
  | 7 => .array .int
  | 8 => .array .int
  | 9 => .array .int
  | 10 => .array .boolean
  | 11 => .array .int
  | 12 => .array .int
  | 13 => .array .int
  | 14 => .int
  | 15 => .int
  | 16 => .int
  | 17 => .array .boolean
  | 18 => .array .int
  | 19 => .int
  | 20 => .int
  | 21 => .int
  | 22 => .array .boolean
  | 23 => .array .long
  | 24 => .array .int
  | 25 => .array .int
  | 26 => .array .int
  | 27 => .int
  | 28 => .array .int
  | 29 => .array .int
  | 30 => .array .int
  | 31 => .array .boolean
  | 32 => .array .int
  | 33 => .array .long
  | 34 => .array .int
  | 35 => .array .int
  | 36 => .array .int
  | 37 => .array .int
  | 38 => .array .int
  | 39 => .int
  | 40 => .int
  | 41 => .array .boolean
  | 42 => .array .int
  | 43 => .int
  | 44 => .int
  | 45 => .int
  | 46 => .int
  | 47 => .int
  | 48 => .int
  | 49 => .array .boolean
  | 50 => .array .boolean
  | 51 => .array .int
  | 52 => .array .int
  | _ => .array .int
theorem nmX12 : ∀ a, a < 54 → ∀ b, b < 54 → a ≠ b → (TX12 a).2.1 ≠ (TX12 b).2.1 := by decide +kernel
theorem tyX12_ok : ∀ k, k < 54 → parseFieldDescriptor (TX12 k).2.2.1 = some (tyX12 k) := by decide +kernel
abbrev cX12_init : ByteArray := prog_14_method_1_code
def yX12_init : MethodName := ⟨RX12, "<init>", "(I)V"⟩
abbrev cX12_in : ByteArray := prog_14_method_2_code
def yX12_in : MethodName := ⟨RX12, "in", "(JJJ)Z"⟩
abbrev cX12_write : ByteArray := prog_14_method_3_code
def yX12_write : MethodName := ⟨RX12, "write", "()Z"⟩
abbrev cX12_tell : ByteArray := prog_14_method_4_code
def yX12_tell : MethodName := ⟨RX12, "tell", "(II)V"⟩
abbrev cX12_cut : ByteArray := prog_14_method_5_code
def yX12_cut : MethodName := ⟨RX12, "cut", "(I)I"⟩
abbrev cX12_open : ByteArray := prog_14_method_6_code
def yX12_open : MethodName := ⟨RX12, "open", "()I"⟩
abbrev cX12_at : ByteArray := prog_14_method_7_code
def yX12_at : MethodName := ⟨RX12, "at", "(J)I"⟩
abbrev cX12_isSaver : ByteArray := prog_14_method_8_code
def yX12_isSaver : MethodName := ⟨RX12, "isSaver", "(I)Z"⟩
abbrev cX12_isDead : ByteArray := prog_14_method_9_code
def yX12_isDead : MethodName := ⟨RX12, "isDead", "(I)Z"⟩
abbrev cX12_isBlock : ByteArray := prog_14_method_10_code
def yX12_isBlock : MethodName := ⟨RX12, "isBlock", "(I)Z"⟩
abbrev cX12_uses : ByteArray := prog_14_method_11_code
def yX12_uses : MethodName := ⟨RX12, "uses", "(II)Z"⟩
abbrev cX12_meet : ByteArray := prog_14_method_12_code
def yX12_meet : MethodName := ⟨RX12, "meet", "(I)Z"⟩
abbrev cX12_begin : ByteArray := prog_14_method_13_code
def yX12_begin : MethodName := ⟨RX12, "begin", "(I)I"⟩
abbrev cX12_child : ByteArray := prog_14_method_14_code
def yX12_child : MethodName := ⟨RX12, "child", "(II)I"⟩
abbrev cX12_find : ByteArray := prog_14_method_15_code
def yX12_find : MethodName := ⟨RX12, "find", "(IJI)I"⟩
abbrev cX12_fitsLatest : ByteArray := prog_14_method_16_code
def yX12_fitsLatest : MethodName := ⟨RX12, "fitsLatest", "(I)Z"⟩
abbrev cX12_use : ByteArray := prog_14_method_17_code
def yX12_use : MethodName := ⟨RX12, "use", "(II)V"⟩
abbrev cX12_save : ByteArray := prog_14_method_18_code
def yX12_save : MethodName := ⟨RX12, "save", "(IJI)I"⟩
abbrev cX12_made : ByteArray := prog_14_method_19_code
def yX12_made : MethodName := ⟨RX12, "made", "(IJI)I"⟩
abbrev cX12_reachFrom : ByteArray := prog_14_method_20_code
def yX12_reachFrom : MethodName := ⟨RX12, "reachFrom", "(I)V"⟩
abbrev cX12_taken : ByteArray := prog_14_method_21_code
def yX12_taken : MethodName := ⟨RX12, "taken", "(II)Z"⟩
abbrev cX12_take : ByteArray := prog_14_method_22_code
def yX12_take : MethodName := ⟨RX12, "take", "(II)I"⟩
abbrev cX12_commit : ByteArray := prog_14_method_23_code
def yX12_commit : MethodName := ⟨RX12, "commit", "(II)I"⟩
abbrev cX12_give : ByteArray := prog_14_method_24_code
def yX12_give : MethodName := ⟨RX12, "give", "(I)I"⟩
abbrev cX12_snapshotsThere : ByteArray := prog_14_method_25_code
def yX12_snapshotsThere : MethodName := ⟨RX12, "snapshotsThere", "()I"⟩
abbrev cX12_isSnapshot : ByteArray := prog_14_method_26_code
def yX12_isSnapshot : MethodName := ⟨RX12, "isSnapshot", "(I)Z"⟩
abbrev cX12_goes : ByteArray := prog_14_method_27_code
def yX12_goes : MethodName := ⟨RX12, "goes", "(I)Z"⟩
abbrev cX12_drop : ByteArray := prog_14_method_28_code
def yX12_drop : MethodName := ⟨RX12, "drop", "(I)I"⟩
abbrev cX12_rule : ByteArray := prog_14_method_29_code
def yX12_rule : MethodName := ⟨RX12, "rule", "(II)I"⟩
abbrev cX12_behind : ByteArray := prog_14_method_30_code
def yX12_behind : MethodName := ⟨RX12, "behind", "(I)I"⟩
abbrev cX12_spanOf : ByteArray := prog_14_method_31_code
def yX12_spanOf : MethodName := ⟨RX12, "spanOf", "(JI)J"⟩
abbrev cX12_spanKeeps : ByteArray := prog_14_method_32_code
def yX12_spanKeeps : MethodName := ⟨RX12, "spanKeeps", "(II)Z"⟩
abbrev cX12_keptBy : ByteArray := prog_14_method_33_code
def yX12_keptBy : MethodName := ⟨RX12, "keptBy", "(I)I"⟩
abbrev cX12_keeps : ByteArray := prog_14_method_34_code
def yX12_keeps : MethodName := ⟨RX12, "keeps", "(I)I"⟩
abbrev cX12_prune : ByteArray := prog_14_method_35_code
def yX12_prune : MethodName := ⟨RX12, "prune", "(Z)I"⟩
abbrev cX12_push : ByteArray := prog_14_method_36_code
def yX12_push : MethodName := ⟨RX12, "push", "(I)V"⟩
abbrev cX12_settle : ByteArray := prog_14_method_37_code
def yX12_settle : MethodName := ⟨RX12, "settle", "()V"⟩
abbrev cX12_sweep : ByteArray := prog_14_method_38_code
def yX12_sweep : MethodName := ⟨RX12, "sweep", "()I"⟩
abbrev cX12_mark : ByteArray := prog_14_method_39_code
def yX12_mark : MethodName := ⟨RX12, "mark", "()V"⟩
abbrev cX12_clear : ByteArray := prog_14_method_40_code
def yX12_clear : MethodName := ⟨RX12, "clear", "()Z"⟩
abbrev cX12_choose : ByteArray := prog_14_method_41_code
def yX12_choose : MethodName := ⟨RX12, "choose", "()Z"⟩
abbrev cX12_bytesIn : ByteArray := prog_14_method_42_code
def yX12_bytesIn : MethodName := ⟨RX12, "bytesIn", "(I)I"⟩
abbrev cX12_blocksIn : ByteArray := prog_14_method_43_code
def yX12_blocksIn : MethodName := ⟨RX12, "blocksIn", "(I)I"⟩
abbrev cX12_packStep : ByteArray := prog_14_method_44_code
def yX12_packStep : MethodName := ⟨RX12, "packStep", "()Z"⟩
abbrev cX12_plan : ByteArray := prog_14_method_45_code
def yX12_plan : MethodName := ⟨RX12, "plan", "(II)I"⟩
abbrev cX12_step : ByteArray := prog_14_method_46_code
def yX12_step : MethodName := ⟨RX12, "step", "(I)I"⟩
abbrev cX12_share : ByteArray := prog_14_method_47_code
def yX12_share : MethodName := ⟨RX12, "share", "(I)I"⟩
abbrev cX12_savers : ByteArray := prog_14_method_48_code
def yX12_savers : MethodName := ⟨RX12, "savers", "()I"⟩
abbrev cX12_counted : ByteArray := prog_14_method_49_code
def yX12_counted : MethodName := ⟨RX12, "counted", "(I)I"⟩
abbrev cX12_count : ByteArray := prog_14_method_50_code
def yX12_count : MethodName := ⟨RX12, "count", "(I)I"⟩
abbrev cX12_usersOf : ByteArray := prog_14_method_51_code
def yX12_usersOf : MethodName := ⟨RX12, "usersOf", "(I)I"⟩
abbrev cX12_block : ByteArray := prog_14_method_52_code
def yX12_block : MethodName := ⟨RX12, "block", "(II)I"⟩
abbrev cX12_key : ByteArray := prog_14_method_53_code
def yX12_key : MethodName := ⟨RX12, "key", "(I)J"⟩
abbrev cX12_pack : ByteArray := prog_14_method_54_code
def yX12_pack : MethodName := ⟨RX12, "pack", "(II)I"⟩
abbrev cX12_snapshot : ByteArray := prog_14_method_55_code
def yX12_snapshot : MethodName := ⟨RX12, "snapshot", "(II)I"⟩
abbrev cX12_time : ByteArray := prog_14_method_56_code
def yX12_time : MethodName := ⟨RX12, "time", "(I)J"⟩
abbrev cX12_saver : ByteArray := prog_14_method_57_code
def yX12_saver : MethodName := ⟨RX12, "saver", "(II)I"⟩
abbrev cX12_swept : ByteArray := prog_14_method_58_code
def yX12_swept : MethodName := ⟨RX12, "swept", "(I)I"⟩
abbrev cX12_floor : ByteArray := prog_14_method_59_code
def yX12_floor : MethodName := ⟨RX12, "floor", "(JJ)J"⟩
abbrev cX12_daysOf : ByteArray := prog_14_method_60_code
def yX12_daysOf : MethodName := ⟨RX12, "daysOf", "(II)I"⟩
abbrev cX12_calendar : ByteArray := prog_14_method_61_code
def yX12_calendar : MethodName := ⟨RX12, "calendar", "(JI)I"⟩
abbrev cX12_isMirror : ByteArray := prog_14_method_62_code
def yX12_isMirror : MethodName := ⟨RX12, "isMirror", "(I)Z"⟩
abbrev cX12_follow : ByteArray := prog_14_method_63_code
def yX12_follow : MethodName := ⟨RX12, "follow", "(II)I"⟩
abbrev cX12_mirrorHas : ByteArray := prog_14_method_64_code
def yX12_mirrorHas : MethodName := ⟨RX12, "mirrorHas", "(III)Z"⟩
abbrev cX12_has : ByteArray := prog_14_method_65_code
def yX12_has : MethodName := ⟨RX12, "has", "(II)Z"⟩
abbrev cX12_lacks : ByteArray := prog_14_method_66_code
def yX12_lacks : MethodName := ⟨RX12, "lacks", "(II)Z"⟩
abbrev cX12_mirrored : ByteArray := prog_14_method_67_code
def yX12_mirrored : MethodName := ⟨RX12, "mirrored", "(II)I"⟩
abbrev cX12_lostFrom : ByteArray := prog_14_method_68_code
def yX12_lostFrom : MethodName := ⟨RX12, "lostFrom", "(I)I"⟩
abbrev cX12_wrongPlaces : ByteArray := prog_14_method_69_code
def yX12_wrongPlaces : MethodName := ⟨RX12, "wrongPlaces", "()I"⟩
abbrev cX12_audit : ByteArray := prog_14_method_70_code
def yX12_audit : MethodName := ⟨RX12, "audit", "()I"⟩
def RJ9 : String := "java/lang/Math"
abbrev cJ9_floorDiv_f86c9 : ByteArray := prog_16_method_49_code
def yJ9_floorDiv_f86c9 : MethodName := ⟨RJ9, "floorDiv", "(JJ)J"⟩
abbrev cJ9_floorMod_f86c9 : ByteArray := prog_16_method_52_code
def yJ9_floorMod_f86c9 : MethodName := ⟨RJ9, "floorMod", "(JJ)J"⟩
abbrev cJ9_max_7cf53 : ByteArray := prog_16_method_65_code
def yJ9_max_7cf53 : MethodName := ⟨RJ9, "max", "(II)I"⟩
abbrev cJ9_min_7cf53 : ByteArray := prog_16_method_69_code
def yJ9_min_7cf53 : MethodName := ⟨RJ9, "min", "(II)I"⟩
def RJ7 : String := "java/util/Arrays"
abbrev cJ7_copyOf_59c91 : ByteArray := prog_18_method_123_code
def yJ7_copyOf_59c91 : MethodName := ⟨RJ7, "copyOf", "([II)[I"⟩
def RL : String := "SafeSweepsLaw"
abbrev cL_cell : ByteArray := method_2_code
def yL_cell : MethodName := ⟨RL, "cell", "([II)I"⟩
abbrev cL_law : ByteArray := code
def yL_law : MethodName := ⟨RL, "law", "([I)Z"⟩
abbrev vwCl : List vw_C := [(RX0, TX0, 8), (RX2, TX2, 6), (RX3, TX3, 3), (RX4, TX4, 6), (RX5, TX5, 3), (RX6, TX6, 2), (RX7, TX7, 7), (RX8, TX8, 4), (RX9, TX9, 10), (RX10, TX10, 11), (RX11, TX11, 10), (RX12, TX12, 54)]
end
section
/-! KEYED WORLDS: a world is a map from keys to cells; ad says where each key lies. -/
abbrev KK : Type := Nat × Nat
abbrev PV : Type := Int32 ⊕ Int64 ⊕ Option KK
abbrev pi_ (x : Int32) : PV := .inl x
abbrev pl_ (x : Int64) : PV := .inr (.inl x)
abbrev pr_ (k : KK) : PV := .inr (.inr (some k))
abbrev pn_ : PV := .inr (.inr none)
def kw_v (ad : KK → Nat) (v : PV) : Value := match v with
  | .inl x => .int x
  | .inr (.inl x) => .long x
  | .inr (.inr none) => .null
  | .inr (.inr (some k)) => .ref (ad k)
abbrev PX : Type := (Nat → Int32) ⊕ (Nat → Int64) ⊕ (Nat → Option KK)
abbrev PC : Type := (FieldType × Nat × PX) ⊕ (Nat × List PV)
abbrev PH : Type := KK → Option PC
def kw_x (ad : KK → Nat) (x : PX) : (Nat → Int32) ⊕ (Nat → Int64) ⊕ (Nat → UInt32) ⊕ (Nat → UInt64) ⊕ (Nat → Option Nat) := match x with
  | .inl f => .inl f
  | .inr (.inl f) => .inr (.inl f)
  | .inr (.inr f) => .inr (.inr (.inr (.inr (fun j => (f j).map ad))))
def kw_at (D : va_G) (U : State) (H : Heap) (ad : KK → Nat) (k : KK) (c : PC) : Prop := match c with
  | .inl a => ∃ cA : ClassId, va_at D vwCl (ad k, .inl (cA, a.2.1, kw_x ad a.2.2)) H ∧ ArrOfT U cA a.1 ∧ va_RA U cA a.1
  | .inr o => va_at D vwCl (ad k, .inr (o.1, o.2.map (kw_v ad))) H
def kw_H (D : va_G) (U : State) (H : Heap) (ad : KK → Nat) (h : PH) : Prop :=
  va_K D vwCl [] U ∧ (∀ k c, h k = some c → kw_at D U H ad k c) ∧ ∀ k k', h k ≠ none → h k' ≠ none → ad k = ad k' → k = k'
def kw_up (h : PH) (k : KK) (c : PC) : PH := fun k' => if k' = k then some c else h k'
theorem kw_up_s (h : PH) (k : KK) (c : PC) : kw_up h k c k = some c := by simp [kw_up]
theorem kw_up_n (h : PH) {k k' : KK} (c : PC) (hn : k' ≠ k) : kw_up h k c k' = h k' := by simp [kw_up, hn]
theorem kw_at.kept {D : va_G} {U : State} {H H1 : Heap} {ad : KK → Nat} {k : KK} {c : PC} (h : kw_at D U H ad k c) (hq : H1[ad k]? = H[ad k]?) : kw_at D U H1 ad k c := by
  cases c with
  | inl a =>
    obtain ⟨cA, h1, h2⟩ := h
    exact ⟨cA, va_at.kept (q := (ad k, .inl (cA, a.2.1, kw_x ad a.2.2))) h1 hq, h2⟩
  | inr o => exact va_at.kept (q := (ad k, .inr (o.1, o.2.map (kw_v ad)))) h hq
theorem kw_at.lt {D : va_G} {U : State} {H : Heap} {ad : KK → Nat} {k : KK} {c : PC} (h : kw_at D U H ad k c) : ad k < H.size := by
  cases c with
  | inl a =>
    obtain ⟨cA, h1, h2⟩ := h
    exact va_at.lt (q := (ad k, .inl (cA, a.2.1, kw_x ad a.2.2))) h1
  | inr o => exact va_at.lt (q := (ad k, .inr (o.1, o.2.map (kw_v ad)))) h
theorem kw_at.moved {D : va_G} {u U : State} {H : Heap} {ad : KK → Nat} {k : KK} {c : PC} (hvm : u.vm.Alike U.vm) (h : kw_at D u H ad k c) : kw_at D U H ad k c := by
  cases c with
  | inl a =>
    obtain ⟨cA, h1, h2, h3⟩ := h
    exact ⟨cA, h1, arrOfT_moved hvm h2, h3.moved hvm⟩
  | inr o => exact h
theorem kw_H.moved {D : va_G} {u U : State} {H : Heap} {ad : KK → Nat} {h : PH} (hvm : u.vm.Alike U.vm) (x : kw_H D u H ad h) : kw_H D U H ad h :=
  ⟨x.1.moved hvm, fun k c hk => (x.2.1 k c hk).moved hvm, x.2.2⟩
/-- one cell is written anew -/
theorem kw_H.set {D : va_G} {U : State} {H H1 : Heap} {ad : KK → Nat} {h : PH} (x : kw_H D U H ad h) {k : KK} {c0 c : PC} (hk : h k = some c0) (hc : kw_at D U H1 ad k c) (oq : ∀ q : Nat, q ≠ ad k → H1[q]? = H[q]?) : kw_H D U H1 ad (kw_up h k c) := by
  have al : ∀ k', kw_up h k c k' ≠ none → h k' ≠ none := by
    intro k' h1
    by_cases e : k' = k
    · subst e; rw [hk]; exact fun q => by cases q
    · rw [kw_up_n _ _ e] at h1; exact h1
  refine ⟨x.1, fun k' c' h' => ?_, fun a b ha hb => x.2.2 a b (al a ha) (al b hb)⟩
  by_cases e : k' = k
  · subst e
    rw [kw_up_s] at h'
    cases h'
    exact hc
  · rw [kw_up_n _ _ e] at h'
    exact (x.2.1 k' c' h').kept (oq _ (fun q => e (x.2.2 k' k (by rw [h']; exact fun q => by cases q) (by rw [hk]; exact fun q => by cases q) q)))
/-! locals: by their places -/
def kw_L (ad : KK → Nat) (ls : Array Slot) (lv : List (Option PV)) : Prop := ls.size = lv.length ∧ lv_wf ls ∧ ∀ (i : Nat) (v : PV), lv[i]? = some (some v) → ls[i]? = some (.val (kw_v ad v))
def kw_cat (v : PV) : Nat := match v with
  | .inr (.inl _) => 2
  | _ => 1
theorem kw_cat_v (ad : KK → Nat) (v : PV) : (kw_v ad v).category = kw_cat v := by
  rcases v with x | x | x | x <;> rfl
def kw_keep (a : Option PV) : Option PV := match a with
  | some (.inr (.inl _)) => none
  | x => x
def kw_set1 : List (Option PV) → Nat → PV → List (Option PV)
  | [], _, _ => []
  | _ :: t, 0, v => some v :: t
  | a :: t, 1, v => kw_keep a :: kw_set1 t 0 v
  | a :: t, i + 2, v => a :: kw_set1 t (i + 1) v
def kw_set2 : List (Option PV) → Nat → PV → List (Option PV)
  | [], _, _ => []
  | [_], 0, v => [some v]
  | _ :: _ :: t, 0, v => some v :: none :: t
  | a :: t, 1, v => kw_keep a :: kw_set2 t 0 v
  | a :: t, i + 2, v => a :: kw_set2 t (i + 1) v
def kw_lst (ad : KK → Nat) (lv : List (Option PV)) : List (Nat × Value) := (List.range lv.length).filterMap (fun i => match lv[i]? with
  | some (some v) => some (i, kw_v ad v)
  | _ => none)
theorem kw_lst_mem (ad : KK → Nat) (lv : List (Option PV)) (i : Nat) (w : Value) : (i, w) ∈ kw_lst ad lv ↔ ∃ v, lv[i]? = some (some v) ∧ w = kw_v ad v := by
  unfold kw_lst
  rw [List.mem_filterMap]
  constructor
  · rintro ⟨j, hj, h⟩
    split at h
    next v hv =>
      cases h
      exact ⟨v, hv, rfl⟩
    next => cases h
  · rintro ⟨v, hv, rfl⟩
    refine ⟨i, List.mem_range.mpr (List.getElem?_eq_some_iff.mp hv).1, ?_⟩
    rw [hv]
theorem kw_L.has {ad : KK → Nat} {ls : Array Slot} {lv : List (Option PV)} (h : kw_L ad ls lv) : lv_has ls lv.length (kw_lst ad lv) := by
  refine ⟨h.1, h.2.1, fun q hq => ?_⟩
  obtain ⟨i, w⟩ := q
  obtain ⟨v, h1, rfl⟩ := (kw_lst_mem ad lv i w).mp hq
  exact h.2.2 i v h1
theorem kw_keep_some {a : Option PV} {w : PV} (h : kw_keep a = some w) : a = some w ∧ kw_cat w = 1 := by
  rcases a with _ | x | x | x
  · cases h
  · cases h; exact ⟨rfl, rfl⟩
  · cases h
  · cases h; exact ⟨rfl, rfl⟩
theorem kw_set1_get : ∀ (lv : List (Option PV)) (i : Nat) (v : PV) (j : Nat) (w : PV), (kw_set1 lv i v)[j]? = some (some w) → (j = i ∧ w = v) ∨ (j ≠ i ∧ lv[j]? = some (some w) ∧ ¬ (j + 1 = i ∧ kw_cat w = 2))
  | [], i, v, j, w, h => by simp [kw_set1] at h
  | a :: t, 0, v, 0, w, h => by simp [kw_set1] at h; exact Or.inl ⟨rfl, h.symm⟩
  | a :: t, 0, v, j + 1, w, h => by
    simp only [kw_set1, List.getElem?_cons_succ] at h
    exact Or.inr ⟨by omega, by simpa using h, by omega⟩
  | a :: t, 1, v, 0, w, h => by
    simp only [kw_set1, List.getElem?_cons_zero, Option.some.injEq] at h
    obtain ⟨h1, h2⟩ := kw_keep_some h
    exact Or.inr ⟨by omega, by simp [h1], by omega⟩
  | a :: t, 1, v, j + 1, w, h => by
    simp only [kw_set1, List.getElem?_cons_succ] at h
    rcases kw_set1_get t 0 v j w h with ⟨h1, h2⟩ | ⟨h1, h2, h3⟩
    · exact Or.inl ⟨by omega, h2⟩
    · exact Or.inr ⟨by omega, by simpa using h2, by omega⟩
  | a :: t, i + 2, v, 0, w, h => by
    simp only [kw_set1, List.getElem?_cons_zero, Option.some.injEq] at h
    exact Or.inr ⟨by omega, by simp [h], by omega⟩
  | a :: t, i + 2, v, j + 1, w, h => by
    simp only [kw_set1, List.getElem?_cons_succ] at h
    rcases kw_set1_get t (i + 1) v j w h with ⟨h1, h2⟩ | ⟨h1, h2, h3⟩
    · exact Or.inl ⟨by omega, h2⟩
    · exact Or.inr ⟨by omega, by simpa using h2, fun q => h3 ⟨by omega, q.2⟩⟩
theorem kw_set2_get : ∀ (lv : List (Option PV)) (i : Nat) (v : PV) (j : Nat) (w : PV), (kw_set2 lv i v)[j]? = some (some w) → (j = i ∧ w = v) ∨ (j ≠ i ∧ j ≠ i + 1 ∧ lv[j]? = some (some w) ∧ ¬ (j + 1 = i ∧ kw_cat w = 2))
  | [], i, v, j, w, h => by simp [kw_set2] at h
  | [a], 0, v, 0, w, h => by simp [kw_set2] at h; exact Or.inl ⟨rfl, h.symm⟩
  | [a], 0, v, j + 1, w, h => by simp [kw_set2] at h
  | a :: b :: t, 0, v, 0, w, h => by simp [kw_set2] at h; exact Or.inl ⟨rfl, h.symm⟩
  | a :: b :: t, 0, v, 1, w, h => by simp [kw_set2] at h
  | a :: b :: t, 0, v, j + 2, w, h => by
    simp only [kw_set2, List.getElem?_cons_succ] at h
    exact Or.inr ⟨by omega, by omega, by simpa using h, by omega⟩
  | a :: t, 1, v, 0, w, h => by
    simp only [kw_set2, List.getElem?_cons_zero, Option.some.injEq] at h
    obtain ⟨h1, h2⟩ := kw_keep_some h
    exact Or.inr ⟨by omega, by omega, by simp [h1], by omega⟩
  | a :: t, 1, v, j + 1, w, h => by
    simp only [kw_set2, List.getElem?_cons_succ] at h
    rcases kw_set2_get t 0 v j w h with ⟨h1, h2⟩ | ⟨h1, h2, h3, h4⟩
    · exact Or.inl ⟨by omega, h2⟩
    · exact Or.inr ⟨by omega, by omega, by simpa using h3, by omega⟩
  | a :: t, i + 2, v, 0, w, h => by
    simp only [kw_set2, List.getElem?_cons_zero, Option.some.injEq] at h
    exact Or.inr ⟨by omega, by omega, by simp [h], by omega⟩
  | a :: t, i + 2, v, j + 1, w, h => by
    simp only [kw_set2, List.getElem?_cons_succ] at h
    rcases kw_set2_get t (i + 1) v j w h with ⟨h1, h2⟩ | ⟨h1, h2, h3, h4⟩
    · exact Or.inl ⟨by omega, h2⟩
    · exact Or.inr ⟨by omega, by omega, by simpa using h3, fun q => h4 ⟨by omega, q.2⟩⟩
theorem kw_set1_len : ∀ (lv : List (Option PV)) (i : Nat) (v : PV), (kw_set1 lv i v).length = lv.length
  | [], i, v => rfl
  | a :: t, 0, v => rfl
  | a :: t, 1, v => by simp [kw_set1, kw_set1_len t 0 v]
  | a :: t, i + 2, v => by simp [kw_set1, kw_set1_len t (i + 1) v]
theorem kw_set2_len : ∀ (lv : List (Option PV)) (i : Nat) (v : PV), (kw_set2 lv i v).length = lv.length
  | [], i, v => rfl
  | [a], 0, v => rfl
  | a :: b :: t, 0, v => rfl
  | a :: t, 1, v => by simp [kw_set2, kw_set2_len t 0 v]
  | a :: t, i + 2, v => by simp [kw_set2, kw_set2_len t (i + 1) v]
theorem kw_L.of1 {ad : KK → Nat} {ls : Array Slot} {lv : List (Option PV)} {i : Nat} {v : PV} (h : lv_has ls lv.length ((i, kw_v ad v) :: (kw_lst ad lv).filter (fun q => !(q.1 == i) && !(q.1 + 1 == i && q.2.category == 2)))) : kw_L ad ls (kw_set1 lv i v) := by
  refine ⟨by rw [kw_set1_len]; exact h.1, h.2.1, fun j w hj => ?_⟩
  rcases kw_set1_get lv i v j w hj with ⟨h1, h2⟩ | ⟨h1, h2, h3⟩
  · subst h1; subst h2
    exact h.2.2 (j, kw_v ad w) List.mem_cons_self
  · refine h.2.2 (j, kw_v ad w) (List.mem_cons_of_mem _ (List.mem_filter.mpr ⟨(kw_lst_mem ad lv j _).mpr ⟨w, h2, rfl⟩, ?_⟩))
    simp only [kw_cat_v, Bool.and_eq_true, Bool.not_eq_true', beq_eq_false_iff_ne, ne_eq, h1, not_false_eq_true, true_and]
    cases hq : (j + 1 == i && kw_cat w == 2)
    · rfl
    · simp only [Bool.and_eq_true, beq_iff_eq] at hq
      exact absurd hq h3
theorem kw_L.of2 {ad : KK → Nat} {ls : Array Slot} {lv : List (Option PV)} {i : Nat} {v : PV} (h : lv_has ls lv.length ((i, kw_v ad v) :: (kw_lst ad lv).filter (fun q => !(q.1 == i) && (!(q.1 == i + 1) && !(q.1 + 1 == i && q.2.category == 2))))) : kw_L ad ls (kw_set2 lv i v) := by
  refine ⟨by rw [kw_set2_len]; exact h.1, h.2.1, fun j w hj => ?_⟩
  rcases kw_set2_get lv i v j w hj with ⟨h1, h2⟩ | ⟨h1, h2, h3, h4⟩
  · subst h1; subst h2
    exact h.2.2 (j, kw_v ad w) List.mem_cons_self
  · refine h.2.2 (j, kw_v ad w) (List.mem_cons_of_mem _ (List.mem_filter.mpr ⟨(kw_lst_mem ad lv j _).mpr ⟨w, h3, rfl⟩, ?_⟩))
    simp only [kw_cat_v, Bool.and_eq_true, Bool.not_eq_true', beq_eq_false_iff_ne, ne_eq, h1, h2, not_false_eq_true, true_and]
    cases hq : (j + 1 == i && kw_cat w == 2)
    · rfl
    · simp only [Bool.and_eq_true, beq_iff_eq] at hq
      exact absurd hq h4
/-- fewer known locals -/
def kw_le : List (Option PV) → List (Option PV) → Prop
  | [], [] => True
  | _ :: t, none :: t' => kw_le t t'
  | a :: t, some b :: t' => a = some b ∧ kw_le t t'
  | _, _ => False
theorem kw_le_len : ∀ (a b : List (Option PV)), kw_le a b → a.length = b.length
  | [], [], _ => rfl
  | _ :: t, none :: t', h => by simp [kw_le_len t t' h]
  | _ :: t, some b :: t', h => by simp [kw_le_len t t' h.2]
theorem kw_le_get : ∀ (a b : List (Option PV)), kw_le a b → ∀ (i : Nat) (v : PV), b[i]? = some (some v) → a[i]? = some (some v)
  | [], [], _, i, v, h => by simp at h
  | _ :: t, none :: t', q, 0, v, h => by simp at h
  | _ :: t, none :: t', q, i + 1, v, h => by
    simp only [List.getElem?_cons_succ] at h ⊢
    exact kw_le_get t t' q i v h
  | a :: t, some b :: t', q, 0, v, h => by
    simp only [List.getElem?_cons_zero] at h ⊢
    rw [q.1]; exact h
  | a :: t, some b :: t', q, i + 1, v, h => by
    simp only [List.getElem?_cons_succ] at h ⊢
    exact kw_le_get t t' q.2 i v h
theorem kw_L.le {ad : KK → Nat} {ls : Array Slot} {lv lv' : List (Option PV)} (h : kw_L ad ls lv) (q : kw_le lv lv') : kw_L ad ls lv' := ⟨h.1.trans (kw_le_len lv lv' q), h.2.1, fun i v hv => h.2.2 i v (kw_le_get lv lv' q i v hv)⟩
def kw_ent : List PV → List (Option PV)
  | [] => []
  | v :: t => if kw_cat v = 2 then some v :: none :: kw_ent t else some v :: kw_ent t
end
section
def kw_tbl : List Cond := lw_tbl.filter goodWord
def kw_nests : List (String × Nat × MethodName × String) := [("SafeSweeps", 9, ⟨"SafeSweeps$Journal", "<init>", "()V"⟩, "SafeSweeps"), ("SafeSweeps", 45, ⟨"SafeSweeps$Rules", "<init>", "()V"⟩, "SafeSweeps"), ("SafeSweeps", 56, ⟨"SafeSweeps$Saver", "<init>", "()V"⟩, "SafeSweeps"), ("SafeSweeps", 69, ⟨"SafeSweeps$Mirror", "<init>", "()V"⟩, "SafeSweeps"), ("SafeSweeps$Store", 81, ⟨"SafeSweeps$Pack", "<init>", "()V"⟩, "SafeSweeps")]
def kw_overs : List String := ["SafeSweeps$Block", "SafeSweeps$Pack", "SafeSweeps$Saver", "SafeSweeps$Snapshot", "SafeSweeps$Mirror"]
def kw_N (s : State) : Prop := (∀ q ∈ kw_nests, va_Nw (.methodLinkNest q.1 q.2.1 q.2.2.1 q.2.2.2) s) ∧ ∀ C ∈ kw_overs, va_AO C s
theorem kw_N.warm {s U : State} (hW : s.WarmedH U.vm) (h : kw_N s) : kw_N U := ⟨fun q hq => va_Nw.warmM hW (h.1 q hq), fun C hC => (h.2 C hC).moved hW.alike⟩
/-! THE JUDGEMENT: from the frame at pc, with the locals lv, the stack st, over the world h (keys at ad), the method comes to its end, with K of its answer, of the keys' places and of the world then. -/
def kw_Env (cc : ByteArray) (nL : Nat) (own : String) (ret : Option FieldType) (nm : String) (p : Program) (s : State) (m : MethodId) (args : Array Value) (meth : Method) (c : Code) : Prop :=
  p.tables.exec = Jvm.exec ∧ c.code = cc ∧ c.maxLocals = nL ∧ s.vm.findClass own = some m.cls ∧ (∀ w ∈ kw_tbl, w.before args s = true) ∧ meth.sig.returnType = ret ∧ meth.locks = false ∧ meth.name = nm ∧ kw_N s
def kw_Qc (D : va_G) (K : Option PV → (KK → Nat) → PH → Prop) (A : Nat → Prop) : Array Value → State → Outcome → State → Prop := fun _ st oc t =>
  (∃ (r : Option PV) (ad : KK → Nat) (h : PH), oc = .returned (r.map (kw_v ad)) ∧ K r ad h ∧ kw_H D t t.heap ad h ∧ ∀ k, h k ≠ none → A (ad k)) ∧ va_F A st t
def kw_G (l : Launch) (D : va_G) (cc : ByteArray) (own : String) (ret : Option FieldType) (nm : String) (R : Room) (A : Nat → Prop) (K : Option PV → (KK → Nat) → PH → Prop) (ad : KK → Nat) (h : PH) (cells slots : Nat) (pc : Nat) (lv : List (Option PV)) (st : List PV) : Prop :=
  ∀ (p : Program) (e : Env) (s : State) (m : MethodId) (args : Array Value) (below : List Frame) (meth : Method) (c : Code) (H : Heap) (locs : List Loc) (ls : Array Slot),
    kw_Env cc lv.length own ret nm p s m args meth c → kw_H D s H ad h → (∀ k, h k ≠ none → A (ad k)) → va_S A s.heap H locs → (∀ q, s.heap.size ≤ q → A q) → kw_L ad ls lv →
    W p l e R s m args below meth c H locs cells slots (MQ below (kw_Qc D K A) args s R.cells R.slots A) (F0 m pc ls (st.map (kw_v ad)))
section KwRows
variable {l : Launch} {D : va_G} {cc : ByteArray} {own : String} {ret : Option FieldType} {nm : String} {R : Room} {A : Nat → Prop} {K : Option PV → (KK → Nat) → PH → Prop} {ad : KK → Nat} {h : PH} {cells slots pc : Nat} {lv : List (Option PV)} {st : List PV}
/-- another text of the same world -/
theorem kw_heq {h' : PH} (e : h = h') (k : kw_G l D cc own ret nm R A K ad h' cells slots pc lv st) : kw_G l D cc own ret nm R A K ad h cells slots pc lv st := e ▸ k
theorem kw_steq {st' : List PV} (e : st = st') (k : kw_G l D cc own ret nm R A K ad h cells slots pc lv st') : kw_G l D cc own ret nm R A K ad h cells slots pc lv st := e ▸ k
theorem kw_top {v v' : PV} (e : v = v') (k : kw_G l D cc own ret nm R A K ad h cells slots pc lv (v' :: st)) : kw_G l D cc own ret nm R A K ad h cells slots pc lv (v :: st) := e ▸ k
theorem kw_top2 {u v v' : PV} (e : v = v') (k : kw_G l D cc own ret nm R A K ad h cells slots pc lv (u :: v' :: st)) : kw_G l D cc own ret nm R A K ad h cells slots pc lv (u :: v :: st) := e ▸ k
theorem kw_lveq {lv' : List (Option PV)} (e : lv = lv') (k : kw_G l D cc own ret nm R A K ad h cells slots pc lv' st) : kw_G l D cc own ret nm R A K ad h cells slots pc lv st := e ▸ k
theorem kw_lvle {lv' : List (Option PV)} (e : kw_le lv lv') (k : kw_G l D cc own ret nm R A K ad h cells slots pc lv' st) : kw_G l D cc own ret nm R A K ad h cells slots pc lv st := by
  intro p e1 s m args below meth c H locs ls E hH hA hS hB hl
  rw [kw_le_len _ _ e] at E
  exact k p e1 s m args below meth c H locs ls E hH hA hS hB (hl.le e)
theorem kw_wid {c2 s2 : Nat} (h1 : cells ≤ c2) (h2 : slots ≤ s2) (k : kw_G l D cc own ret nm R A K ad h c2 s2 pc lv st) : kw_G l D cc own ret nm R A K ad h cells slots pc lv st := by
  intro p e s m args below meth c H locs ls E hH hA hS hB hl
  exact W.widen h1 h2 (k p e s m args below meth c H locs ls E hH hA hS hB hl)
theorem kw_iconst {n : Int} {v : Int32} (hd : decode cc pc = .ok (.iconst n, 1)) (hv : Int32.ofInt n = v)
    (k : kw_G l D cc own ret nm R A K ad h cells slots (pc + 1) lv (pi_ v :: st)) : kw_G l D cc own ret nm R A K ad h cells slots pc lv st := by
  intro p e s m args below meth c H locs ls E hH hA hS hB hl
  exact lv_iconst E.1 E.2.1 hd hv (k p e s m args below meth c H locs ls E hH hA hS hB hl)
theorem kw_bipush {n : Int} {v : Int32} (hd : decode cc pc = .ok (.bipush n, 2)) (hv : (Int8.ofInt n).toInt32 = v)
    (k : kw_G l D cc own ret nm R A K ad h cells slots (pc + 2) lv (pi_ v :: st)) : kw_G l D cc own ret nm R A K ad h cells slots pc lv st := by
  intro p e s m args below meth c H locs ls E hH hA hS hB hl
  exact lv_bipush E.1 E.2.1 hd hv (k p e s m args below meth c H locs ls E hH hA hS hB hl)
theorem kw_sipush {n : Int} {v : Int32} (hd : decode cc pc = .ok (.sipush n, 3)) (hv : (Int16.ofInt n).toInt32 = v)
    (k : kw_G l D cc own ret nm R A K ad h cells slots (pc + 3) lv (pi_ v :: st)) : kw_G l D cc own ret nm R A K ad h cells slots pc lv st := by
  intro p e s m args below meth c H locs ls E hH hA hS hB hl
  exact lv_sipush E.1 E.2.1 hd hv (k p e s m args below meth c H locs ls E hH hA hS hB hl)
theorem kw_lconst {n : Fin 2} {v : Int64} (hd : decode cc pc = .ok (.lconst n, 1)) (hv : Int64.ofNat (n : Nat) = v)
    (k : kw_G l D cc own ret nm R A K ad h cells slots (pc + 1) lv (pl_ v :: st)) : kw_G l D cc own ret nm R A K ad h cells slots pc lv st := by
  intro p e s m args below meth c H locs ls E hH hA hS hB hl
  exact lv_lconst E.1 E.2.1 hd hv (k p e s m args below meth c H locs ls E hH hA hS hB hl)
theorem kw_ldc {i : Nat} {v : Int32} (hd : decode cc pc = .ok (.ldc i, 2)) (hc : Jvm.Cond.constant own i v ∈ kw_tbl)
    (k : kw_G l D cc own ret nm R A K ad h cells slots (pc + 2) lv (pi_ v :: st)) : kw_G l D cc own ret nm R A K ad h cells slots pc lv st := by
  intro p e s m args below meth c H locs ls E hH hA hS hB hl
  exact lv_ldc E.1 E.2.1 E.2.2.2.1 (E.2.2.2.2.1 _ hc) hd (k p e s m args below meth c H locs ls E hH hA hS hB hl)
theorem kw_ldc2 {i : Nat} {v : Int64} (hd : decode cc pc = .ok (.ldc2_w i, 3)) (hc : Jvm.Cond.constantLong own i v ∈ kw_tbl)
    (k : kw_G l D cc own ret nm R A K ad h cells slots (pc + 3) lv (pl_ v :: st)) : kw_G l D cc own ret nm R A K ad h cells slots pc lv st := by
  intro p e s m args below meth c H locs ls E hH hA hS hB hl
  exact lv_ldc2 E.1 E.2.1 E.2.2.2.1 (E.2.2.2.2.1 _ hc) hd (k p e s m args below meth c H locs ls E hH hA hS hB hl)
theorem kw_null  (hd : decode cc pc = .ok (.aconst_null, 1))
    (k : kw_G l D cc own ret nm R A K ad h cells slots (pc + 1) lv (pn_ :: st)) : kw_G l D cc own ret nm R A K ad h cells slots pc lv st := by
  intro p e s m args below meth c H locs ls E hH hA hS hB hl
  exact lv_null E.1 E.2.1 hd (k p e s m args below meth c H locs ls E hH hA hS hB hl)
theorem kw_iload_n {i : Fin 4} {x : Int32} (hd : decode cc pc = .ok (.iload_n i, 1)) (hv : lv[(i : Nat)]? = some (some (pi_ x)))
    (k : kw_G l D cc own ret nm R A K ad h cells slots (pc + 1) lv (pi_ x :: st)) : kw_G l D cc own ret nm R A K ad h cells slots pc lv st := by
  intro p e s m args below meth c H locs ls E hH hA hS hB hl
  exact lv_iload_n E.1 E.2.1 hd rfl (hl.2.2 _ _ hv) (k p e s m args below meth c H locs ls E hH hA hS hB hl)
theorem kw_iload {i : Nat} {x : Int32} (hd : decode cc pc = .ok (.iload i, 2)) (hv : lv[i]? = some (some (pi_ x)))
    (k : kw_G l D cc own ret nm R A K ad h cells slots (pc + 2) lv (pi_ x :: st)) : kw_G l D cc own ret nm R A K ad h cells slots pc lv st := by
  intro p e s m args below meth c H locs ls E hH hA hS hB hl
  exact lv_iload E.1 E.2.1 hd (hl.2.2 _ _ hv) (k p e s m args below meth c H locs ls E hH hA hS hB hl)
theorem kw_lload_n {i : Fin 4} {x : Int64} (hd : decode cc pc = .ok (.lload_n i, 1)) (hv : lv[(i : Nat)]? = some (some (pl_ x)))
    (k : kw_G l D cc own ret nm R A K ad h cells slots (pc + 1) lv (pl_ x :: st)) : kw_G l D cc own ret nm R A K ad h cells slots pc lv st := by
  intro p e s m args below meth c H locs ls E hH hA hS hB hl
  exact lv_lload_n E.1 E.2.1 hd rfl (hl.2.2 _ _ hv) (k p e s m args below meth c H locs ls E hH hA hS hB hl)
theorem kw_lload {i : Nat} {x : Int64} (hd : decode cc pc = .ok (.lload i, 2)) (hv : lv[i]? = some (some (pl_ x)))
    (k : kw_G l D cc own ret nm R A K ad h cells slots (pc + 2) lv (pl_ x :: st)) : kw_G l D cc own ret nm R A K ad h cells slots pc lv st := by
  intro p e s m args below meth c H locs ls E hH hA hS hB hl
  exact lv_lload E.1 E.2.1 hd (hl.2.2 _ _ hv) (k p e s m args below meth c H locs ls E hH hA hS hB hl)
theorem kw_aload_n {i : Fin 4} {x : Option KK} (hd : decode cc pc = .ok (.aload_n i, 1)) (hv : lv[(i : Nat)]? = some (some (.inr (.inr x))))
    (k : kw_G l D cc own ret nm R A K ad h cells slots (pc + 1) lv (.inr (.inr x) :: st)) : kw_G l D cc own ret nm R A K ad h cells slots pc lv st := by
  intro p e s m args below meth c H locs ls E hH hA hS hB hl
  have h1 := hl.2.2 _ _ hv
  have k1 := k p e s m args below meth c H locs ls E hH hA hS hB hl
  cases x with
  | none => exact lv_aload_nN E.1 E.2.1 hd rfl h1 k1
  | some x => exact lv_aload_n E.1 E.2.1 hd rfl h1 k1
theorem kw_aload {i : Nat} {x : Option KK} (hd : decode cc pc = .ok (.aload i, 2)) (hv : lv[i]? = some (some (.inr (.inr x))))
    (k : kw_G l D cc own ret nm R A K ad h cells slots (pc + 2) lv (.inr (.inr x) :: st)) : kw_G l D cc own ret nm R A K ad h cells slots pc lv st := by
  intro p e s m args below meth c H locs ls E hH hA hS hB hl
  have h1 := hl.2.2 _ _ hv
  have k1 := k p e s m args below meth c H locs ls E hH hA hS hB hl
  cases x with
  | none => exact lv_aloadN E.1 E.2.1 hd h1 k1
  | some x => exact lv_aload E.1 E.2.1 hd h1 k1
theorem kw_istore_n {i : Fin 4} {x : Int32} (hd : decode cc pc = .ok (.istore_n i, 1)) (hn : (i : Nat) < lv.length)
    (k : kw_G l D cc own ret nm R A K ad h cells slots (pc + 1) (kw_set1 lv (i : Nat) (pi_ x)) st) : kw_G l D cc own ret nm R A K ad h cells slots pc lv (pi_ x :: st) := by
  intro p e s m args below meth c H locs ls E hH hA hS hB hl
  exact lv_istore_n E.1 E.2.1 hd rfl hl.has hn rfl (fun ls' hl' => k p e s m args below meth c H locs ls' (by rw [kw_set1_len]; exact E) hH hA hS hB (kw_L.of1 hl'))
theorem kw_istore {i : Nat} {x : Int32} (hd : decode cc pc = .ok (.istore i, 2)) (hn : i < lv.length)
    (k : kw_G l D cc own ret nm R A K ad h cells slots (pc + 2) (kw_set1 lv i (pi_ x)) st) : kw_G l D cc own ret nm R A K ad h cells slots pc lv (pi_ x :: st) := by
  intro p e s m args below meth c H locs ls E hH hA hS hB hl
  exact lv_istore E.1 E.2.1 hd hl.has hn rfl (fun ls' hl' => k p e s m args below meth c H locs ls' (by rw [kw_set1_len]; exact E) hH hA hS hB (kw_L.of1 hl'))
theorem kw_lstore_n {i : Fin 4} {x : Int64} (hd : decode cc pc = .ok (.lstore_n i, 1)) (hn : (i : Nat) + 1 < lv.length)
    (k : kw_G l D cc own ret nm R A K ad h cells slots (pc + 1) (kw_set2 lv (i : Nat) (pl_ x)) st) : kw_G l D cc own ret nm R A K ad h cells slots pc lv (pl_ x :: st) := by
  intro p e s m args below meth c H locs ls E hH hA hS hB hl
  exact lv_lstore_n E.1 E.2.1 hd rfl hl.has hn rfl (fun ls' hl' => k p e s m args below meth c H locs ls' (by rw [kw_set2_len]; exact E) hH hA hS hB (kw_L.of2 hl'))
theorem kw_lstore {i : Nat} {x : Int64} (hd : decode cc pc = .ok (.lstore i, 2)) (hn : i + 1 < lv.length)
    (k : kw_G l D cc own ret nm R A K ad h cells slots (pc + 2) (kw_set2 lv i (pl_ x)) st) : kw_G l D cc own ret nm R A K ad h cells slots pc lv (pl_ x :: st) := by
  intro p e s m args below meth c H locs ls E hH hA hS hB hl
  exact lv_lstore E.1 E.2.1 hd hl.has hn rfl (fun ls' hl' => k p e s m args below meth c H locs ls' (by rw [kw_set2_len]; exact E) hH hA hS hB (kw_L.of2 hl'))
theorem kw_astore_n {i : Fin 4} {x : Option KK} (hd : decode cc pc = .ok (.astore_n i, 1)) (hn : (i : Nat) < lv.length)
    (k : kw_G l D cc own ret nm R A K ad h cells slots (pc + 1) (kw_set1 lv (i : Nat) (.inr (.inr x))) st) : kw_G l D cc own ret nm R A K ad h cells slots pc lv (.inr (.inr x) :: st) := by
  intro p e s m args below meth c H locs ls E hH hA hS hB hl
  cases x with
  | none => exact lv_astore_nN E.1 E.2.1 hd rfl hl.has hn rfl (fun ls' hl' => k p e s m args below meth c H locs ls' (by rw [kw_set1_len]; exact E) hH hA hS hB (kw_L.of1 hl'))
  | some x => exact lv_astore_n E.1 E.2.1 hd rfl hl.has hn rfl (fun ls' hl' => k p e s m args below meth c H locs ls' (by rw [kw_set1_len]; exact E) hH hA hS hB (kw_L.of1 hl'))
theorem kw_astore {i : Nat} {x : Option KK} (hd : decode cc pc = .ok (.astore i, 2)) (hn : i < lv.length)
    (k : kw_G l D cc own ret nm R A K ad h cells slots (pc + 2) (kw_set1 lv i (.inr (.inr x))) st) : kw_G l D cc own ret nm R A K ad h cells slots pc lv (.inr (.inr x) :: st) := by
  intro p e s m args below meth c H locs ls E hH hA hS hB hl
  cases x with
  | none => exact lv_astoreN E.1 E.2.1 hd hl.has hn rfl (fun ls' hl' => k p e s m args below meth c H locs ls' (by rw [kw_set1_len]; exact E) hH hA hS hB (kw_L.of1 hl'))
  | some x => exact lv_astore E.1 E.2.1 hd hl.has hn rfl (fun ls' hl' => k p e s m args below meth c H locs ls' (by rw [kw_set1_len]; exact E) hH hA hS hB (kw_L.of1 hl'))
theorem kw_iinc {i : Nat} {n : Int} {x v : Int32} (hd : decode cc pc = .ok (.iinc i n, 3)) (hx : lv[i]? = some (some (pi_ x))) (hv : x + Int32.ofInt n = v)
    (k : kw_G l D cc own ret nm R A K ad h cells slots (pc + 3) (kw_set1 lv i (pi_ v)) st) : kw_G l D cc own ret nm R A K ad h cells slots pc lv st := by
  intro p e s m args below meth c H locs ls E hH hA hS hB hl
  obtain ⟨j, hj⟩ := List.getElem?_of_mem ((kw_lst_mem ad lv i _).mpr ⟨_, hx, rfl⟩)
  exact lv_iinc E.1 E.2.1 hd hl.has hj hv (List.getElem?_eq_some_iff.mp hx).1 rfl (fun ls' hl' => k p e s m args below meth c H locs ls' (by rw [kw_set1_len]; exact E) hH hA hS hB (kw_L.of1 hl'))
theorem kw_iadd {x y : Int32} (hd : decode cc pc = .ok (.iadd, 1))
    (k : kw_G l D cc own ret nm R A K ad h cells slots (pc + 1) lv (pi_ (x + y) :: st)) : kw_G l D cc own ret nm R A K ad h cells slots pc lv (pi_ y :: pi_ x :: st) := by
  intro p e s m args below meth c H locs ls E hH hA hS hB hl
  exact lv_iadd E.1 E.2.1 hd (k p e s m args below meth c H locs ls E hH hA hS hB hl)
theorem kw_isub {x y : Int32} (hd : decode cc pc = .ok (.isub, 1))
    (k : kw_G l D cc own ret nm R A K ad h cells slots (pc + 1) lv (pi_ (x - y) :: st)) : kw_G l D cc own ret nm R A K ad h cells slots pc lv (pi_ y :: pi_ x :: st) := by
  intro p e s m args below meth c H locs ls E hH hA hS hB hl
  exact lv_isub E.1 E.2.1 hd (k p e s m args below meth c H locs ls E hH hA hS hB hl)
theorem kw_imul {x y : Int32} (hd : decode cc pc = .ok (.imul, 1))
    (k : kw_G l D cc own ret nm R A K ad h cells slots (pc + 1) lv (pi_ (x * y) :: st)) : kw_G l D cc own ret nm R A K ad h cells slots pc lv (pi_ y :: pi_ x :: st) := by
  intro p e s m args below meth c H locs ls E hH hA hS hB hl
  exact lv_imul E.1 E.2.1 hd (k p e s m args below meth c H locs ls E hH hA hS hB hl)
theorem kw_iand {x y : Int32} (hd : decode cc pc = .ok (.iand, 1))
    (k : kw_G l D cc own ret nm R A K ad h cells slots (pc + 1) lv (pi_ (x &&& y) :: st)) : kw_G l D cc own ret nm R A K ad h cells slots pc lv (pi_ y :: pi_ x :: st) := by
  intro p e s m args below meth c H locs ls E hH hA hS hB hl
  exact lv_iand E.1 E.2.1 hd (k p e s m args below meth c H locs ls E hH hA hS hB hl)
theorem kw_ior {x y : Int32} (hd : decode cc pc = .ok (.ior, 1))
    (k : kw_G l D cc own ret nm R A K ad h cells slots (pc + 1) lv (pi_ (x ||| y) :: st)) : kw_G l D cc own ret nm R A K ad h cells slots pc lv (pi_ y :: pi_ x :: st) := by
  intro p e s m args below meth c H locs ls E hH hA hS hB hl
  exact lv_ior E.1 E.2.1 hd (k p e s m args below meth c H locs ls E hH hA hS hB hl)
theorem kw_ishl {x y : Int32} (hd : decode cc pc = .ok (.ishl, 1))
    (k : kw_G l D cc own ret nm R A K ad h cells slots (pc + 1) lv (pi_ (x <<< (y &&& 31)) :: st)) : kw_G l D cc own ret nm R A K ad h cells slots pc lv (pi_ y :: pi_ x :: st) := by
  intro p e s m args below meth c H locs ls E hH hA hS hB hl
  exact lv_ishl E.1 E.2.1 hd (k p e s m args below meth c H locs ls E hH hA hS hB hl)
theorem kw_ishr {x y : Int32} (hd : decode cc pc = .ok (.ishr, 1))
    (k : kw_G l D cc own ret nm R A K ad h cells slots (pc + 1) lv (pi_ (x >>> (y &&& 31)) :: st)) : kw_G l D cc own ret nm R A K ad h cells slots pc lv (pi_ y :: pi_ x :: st) := by
  intro p e s m args below meth c H locs ls E hH hA hS hB hl
  exact lv_ishr E.1 E.2.1 hd (k p e s m args below meth c H locs ls E hH hA hS hB hl)
theorem kw_idiv {x y : Int32} (hd : decode cc pc = .ok (.idiv, 1)) (hne : ¬ y = 0)
    (k : kw_G l D cc own ret nm R A K ad h cells slots (pc + 1) lv (pi_ (x / y) :: st)) : kw_G l D cc own ret nm R A K ad h cells slots pc lv (pi_ y :: pi_ x :: st) := by
  intro p e s m args below meth c H locs ls E hH hA hS hB hl
  exact lv_idiv E.1 E.2.1 hd hne (k p e s m args below meth c H locs ls E hH hA hS hB hl)
theorem kw_irem {x y : Int32} (hd : decode cc pc = .ok (.irem, 1)) (hne : ¬ y = 0)
    (k : kw_G l D cc own ret nm R A K ad h cells slots (pc + 1) lv (pi_ (x - x / y * y) :: st)) : kw_G l D cc own ret nm R A K ad h cells slots pc lv (pi_ y :: pi_ x :: st) := by
  intro p e s m args below meth c H locs ls E hH hA hS hB hl
  exact lv_irem E.1 E.2.1 hd hne (k p e s m args below meth c H locs ls E hH hA hS hB hl)
theorem kw_ladd {x y : Int64} (hd : decode cc pc = .ok (.ladd, 1))
    (k : kw_G l D cc own ret nm R A K ad h cells slots (pc + 1) lv (pl_ (x + y) :: st)) : kw_G l D cc own ret nm R A K ad h cells slots pc lv (pl_ y :: pl_ x :: st) := by
  intro p e s m args below meth c H locs ls E hH hA hS hB hl
  exact lv_ladd E.1 E.2.1 hd (k p e s m args below meth c H locs ls E hH hA hS hB hl)
theorem kw_lsub {x y : Int64} (hd : decode cc pc = .ok (.lsub, 1))
    (k : kw_G l D cc own ret nm R A K ad h cells slots (pc + 1) lv (pl_ (x - y) :: st)) : kw_G l D cc own ret nm R A K ad h cells slots pc lv (pl_ y :: pl_ x :: st) := by
  intro p e s m args below meth c H locs ls E hH hA hS hB hl
  exact lv_lsub E.1 E.2.1 hd (k p e s m args below meth c H locs ls E hH hA hS hB hl)
theorem kw_lmul {x y : Int64} (hd : decode cc pc = .ok (.lmul, 1))
    (k : kw_G l D cc own ret nm R A K ad h cells slots (pc + 1) lv (pl_ (x * y) :: st)) : kw_G l D cc own ret nm R A K ad h cells slots pc lv (pl_ y :: pl_ x :: st) := by
  intro p e s m args below meth c H locs ls E hH hA hS hB hl
  exact lv_lmul E.1 E.2.1 hd (k p e s m args below meth c H locs ls E hH hA hS hB hl)
theorem kw_land {x y : Int64} (hd : decode cc pc = .ok (.land, 1))
    (k : kw_G l D cc own ret nm R A K ad h cells slots (pc + 1) lv (pl_ (x &&& y) :: st)) : kw_G l D cc own ret nm R A K ad h cells slots pc lv (pl_ y :: pl_ x :: st) := by
  intro p e s m args below meth c H locs ls E hH hA hS hB hl
  exact lv_land E.1 E.2.1 hd (k p e s m args below meth c H locs ls E hH hA hS hB hl)
theorem kw_lor {x y : Int64} (hd : decode cc pc = .ok (.lor, 1))
    (k : kw_G l D cc own ret nm R A K ad h cells slots (pc + 1) lv (pl_ (x ||| y) :: st)) : kw_G l D cc own ret nm R A K ad h cells slots pc lv (pl_ y :: pl_ x :: st) := by
  intro p e s m args below meth c H locs ls E hH hA hS hB hl
  exact lv_lor E.1 E.2.1 hd (k p e s m args below meth c H locs ls E hH hA hS hB hl)
theorem kw_lxor {x y : Int64} (hd : decode cc pc = .ok (.lxor, 1))
    (k : kw_G l D cc own ret nm R A K ad h cells slots (pc + 1) lv (pl_ (x ^^^ y) :: st)) : kw_G l D cc own ret nm R A K ad h cells slots pc lv (pl_ y :: pl_ x :: st) := by
  intro p e s m args below meth c H locs ls E hH hA hS hB hl
  exact lv_lxor E.1 E.2.1 hd (k p e s m args below meth c H locs ls E hH hA hS hB hl)
theorem kw_ldiv {x y : Int64} (hd : decode cc pc = .ok (.ldiv, 1)) (hne : ¬ y = 0)
    (k : kw_G l D cc own ret nm R A K ad h cells slots (pc + 1) lv (pl_ (x / y) :: st)) : kw_G l D cc own ret nm R A K ad h cells slots pc lv (pl_ y :: pl_ x :: st) := by
  intro p e s m args below meth c H locs ls E hH hA hS hB hl
  exact lv_ldiv E.1 E.2.1 hd hne (k p e s m args below meth c H locs ls E hH hA hS hB hl)
theorem kw_lrem {x y : Int64} (hd : decode cc pc = .ok (.lrem, 1)) (hne : ¬ y = 0)
    (k : kw_G l D cc own ret nm R A K ad h cells slots (pc + 1) lv (pl_ (x - x / y * y) :: st)) : kw_G l D cc own ret nm R A K ad h cells slots pc lv (pl_ y :: pl_ x :: st) := by
  intro p e s m args below meth c H locs ls E hH hA hS hB hl
  exact lv_lrem E.1 E.2.1 hd hne (k p e s m args below meth c H locs ls E hH hA hS hB hl)
theorem kw_lshl {x : Int64} {y : Int32} (hd : decode cc pc = .ok (.lshl, 1))
    (k : kw_G l D cc own ret nm R A K ad h cells slots (pc + 1) lv (pl_ (x <<< (y.toInt64 &&& 63)) :: st)) : kw_G l D cc own ret nm R A K ad h cells slots pc lv (pi_ y :: pl_ x :: st) := by
  intro p e s m args below meth c H locs ls E hH hA hS hB hl
  exact lv_lshl E.1 E.2.1 hd rfl (k p e s m args below meth c H locs ls E hH hA hS hB hl)
theorem kw_i2l {x : Int32} (hd : decode cc pc = .ok (.i2l, 1))
    (k : kw_G l D cc own ret nm R A K ad h cells slots (pc + 1) lv (pl_ x.toInt64 :: st)) : kw_G l D cc own ret nm R A K ad h cells slots pc lv (pi_ x :: st) := by
  intro p e s m args below meth c H locs ls E hH hA hS hB hl
  exact lv_i2l E.1 E.2.1 hd rfl (k p e s m args below meth c H locs ls E hH hA hS hB hl)
theorem kw_l2i {x : Int64} (hd : decode cc pc = .ok (.l2i, 1))
    (k : kw_G l D cc own ret nm R A K ad h cells slots (pc + 1) lv (pi_ x.toInt32 :: st)) : kw_G l D cc own ret nm R A K ad h cells slots pc lv (pl_ x :: st) := by
  intro p e s m args below meth c H locs ls E hH hA hS hB hl
  exact lv_l2i E.1 E.2.1 hd rfl (k p e s m args below meth c H locs ls E hH hA hS hB hl)
theorem kw_lcmp {x y : Int64} (hd : decode cc pc = .ok (.lcmp, 1))
    (k : kw_G l D cc own ret nm R A K ad h cells slots (pc + 1) lv (pi_ (lg_cmp x y) :: st)) : kw_G l D cc own ret nm R A K ad h cells slots pc lv (pl_ y :: pl_ x :: st) := by
  intro p e s m args below meth c H locs ls E hH hA hS hB hl
  exact W.lcmp E.1 E.2.1 hd (k p e s m args below meth c H locs ls E hH hA hS hB hl)
theorem kw_dup {v : PV} (hd : decode cc pc = .ok (.dup, 1)) (hc : kw_cat v = 1)
    (k : kw_G l D cc own ret nm R A K ad h cells slots (pc + 1) lv (v :: v :: st)) : kw_G l D cc own ret nm R A K ad h cells slots pc lv (v :: st) := by
  intro p e s m args below meth c H locs ls E hH hA hS hB hl
  exact lv_dup E.1 E.2.1 hd (by rw [kw_cat_v]; exact hc) (k p e s m args below meth c H locs ls E hH hA hS hB hl)
theorem kw_pop {v : PV} (hd : decode cc pc = .ok (.pop, 1)) (hc : kw_cat v = 1)
    (k : kw_G l D cc own ret nm R A K ad h cells slots (pc + 1) lv st) : kw_G l D cc own ret nm R A K ad h cells slots pc lv (v :: st) := by
  intro p e s m args below meth c H locs ls E hH hA hS hB hl
  exact lv_pop E.1 E.2.1 hd (by rw [kw_cat_v]; exact hc) (k p e s m args below meth c H locs ls E hH hA hS hB hl)
theorem kw_dup2 {v w : PV} (hd : decode cc pc = .ok (.dup2, 1)) (hc : kw_cat v = 1) (hc2 : kw_cat w = 1)
    (k : kw_G l D cc own ret nm R A K ad h cells slots (pc + 1) lv (v :: w :: v :: w :: st)) : kw_G l D cc own ret nm R A K ad h cells slots pc lv (v :: w :: st) := by
  intro p e s m args below meth c H locs ls E hH hA hS hB hl
  exact lv_dup2_11 E.1 E.2.1 hd (by rw [kw_cat_v]; exact hc) (by rw [kw_cat_v]; exact hc2) (k p e s m args below meth c H locs ls E hH hA hS hB hl)
theorem kw_dup_x1 {v w : PV} (hd : decode cc pc = .ok (.dup_x1, 1)) (hc : kw_cat v = 1) (hc2 : kw_cat w = 1)
    (k : kw_G l D cc own ret nm R A K ad h cells slots (pc + 1) lv (v :: w :: v :: st)) : kw_G l D cc own ret nm R A K ad h cells slots pc lv (v :: w :: st) := by
  intro p e s m args below meth c H locs ls E hH hA hS hB hl
  exact lv_dup_x1 E.1 E.2.1 hd (by rw [kw_cat_v]; exact hc) (by rw [kw_cat_v]; exact hc2) (k p e s m args below meth c H locs ls E hH hA hS hB hl)
theorem kw_goto {off : Int} {tgt : Nat} (hd : decode cc pc = .ok (.goto off, 3)) (ht : (pc : Int) + off = (tgt : Int))
    (k : kw_G l D cc own ret nm R A K ad h cells slots tgt lv st) : kw_G l D cc own ret nm R A K ad h cells slots pc lv st := by
  intro p e s m args below meth c H locs ls E hH hA hS hB hl
  exact lv_goto E.1 E.2.1 hd ht (k p e s m args below meth c H locs ls E hH hA hS hB hl)
theorem kw_if_eq {x : Int32} {off : Int} {tgt : Nat} (hd : decode cc pc = .ok (.ifCond .eq off, 3)) (ht : (pc : Int) + off = (tgt : Int))
    (kt : x = 0 → kw_G l D cc own ret nm R A K ad h cells slots tgt lv st) (kf : ¬ x = 0 → kw_G l D cc own ret nm R A K ad h cells slots (pc + 3) lv st) : kw_G l D cc own ret nm R A K ad h cells slots pc lv (pi_ x :: st) := by
  intro p e s m args below meth c H locs ls E hH hA hS hB hl
  exact lv_if_eq E.1 E.2.1 hd ht (fun q => kt q p e s m args below meth c H locs ls E hH hA hS hB hl) (fun q => kf q p e s m args below meth c H locs ls E hH hA hS hB hl)
theorem kw_icmp_eq {x y : Int32} {off : Int} {tgt : Nat} (hd : decode cc pc = .ok (.if_icmp .eq off, 3)) (ht : (pc : Int) + off = (tgt : Int))
    (kt : x = y → kw_G l D cc own ret nm R A K ad h cells slots tgt lv st) (kf : ¬ x = y → kw_G l D cc own ret nm R A K ad h cells slots (pc + 3) lv st) : kw_G l D cc own ret nm R A K ad h cells slots pc lv (pi_ y :: pi_ x :: st) := by
  intro p e s m args below meth c H locs ls E hH hA hS hB hl
  exact lv_icmp_eq E.1 E.2.1 hd ht (fun q => kt q p e s m args below meth c H locs ls E hH hA hS hB hl) (fun q => kf q p e s m args below meth c H locs ls E hH hA hS hB hl)
theorem kw_if_ne {x : Int32} {off : Int} {tgt : Nat} (hd : decode cc pc = .ok (.ifCond .ne off, 3)) (ht : (pc : Int) + off = (tgt : Int))
    (kt : ¬ x = 0 → kw_G l D cc own ret nm R A K ad h cells slots tgt lv st) (kf : x = 0 → kw_G l D cc own ret nm R A K ad h cells slots (pc + 3) lv st) : kw_G l D cc own ret nm R A K ad h cells slots pc lv (pi_ x :: st) := by
  intro p e s m args below meth c H locs ls E hH hA hS hB hl
  exact lv_if_ne E.1 E.2.1 hd ht (fun q => kt q p e s m args below meth c H locs ls E hH hA hS hB hl) (fun q => kf q p e s m args below meth c H locs ls E hH hA hS hB hl)
theorem kw_icmp_ne {x y : Int32} {off : Int} {tgt : Nat} (hd : decode cc pc = .ok (.if_icmp .ne off, 3)) (ht : (pc : Int) + off = (tgt : Int))
    (kt : ¬ x = y → kw_G l D cc own ret nm R A K ad h cells slots tgt lv st) (kf : x = y → kw_G l D cc own ret nm R A K ad h cells slots (pc + 3) lv st) : kw_G l D cc own ret nm R A K ad h cells slots pc lv (pi_ y :: pi_ x :: st) := by
  intro p e s m args below meth c H locs ls E hH hA hS hB hl
  exact lv_icmp_ne E.1 E.2.1 hd ht (fun q => kt q p e s m args below meth c H locs ls E hH hA hS hB hl) (fun q => kf q p e s m args below meth c H locs ls E hH hA hS hB hl)
theorem kw_if_lt {x : Int32} {off : Int} {tgt : Nat} (hd : decode cc pc = .ok (.ifCond .lt off, 3)) (ht : (pc : Int) + off = (tgt : Int))
    (kt : x < 0 → kw_G l D cc own ret nm R A K ad h cells slots tgt lv st) (kf : ¬ x < 0 → kw_G l D cc own ret nm R A K ad h cells slots (pc + 3) lv st) : kw_G l D cc own ret nm R A K ad h cells slots pc lv (pi_ x :: st) := by
  intro p e s m args below meth c H locs ls E hH hA hS hB hl
  exact lv_if_lt E.1 E.2.1 hd ht (fun q => kt q p e s m args below meth c H locs ls E hH hA hS hB hl) (fun q => kf q p e s m args below meth c H locs ls E hH hA hS hB hl)
theorem kw_icmp_lt {x y : Int32} {off : Int} {tgt : Nat} (hd : decode cc pc = .ok (.if_icmp .lt off, 3)) (ht : (pc : Int) + off = (tgt : Int))
    (kt : x < y → kw_G l D cc own ret nm R A K ad h cells slots tgt lv st) (kf : ¬ x < y → kw_G l D cc own ret nm R A K ad h cells slots (pc + 3) lv st) : kw_G l D cc own ret nm R A K ad h cells slots pc lv (pi_ y :: pi_ x :: st) := by
  intro p e s m args below meth c H locs ls E hH hA hS hB hl
  exact lv_icmp_lt E.1 E.2.1 hd ht (fun q => kt q p e s m args below meth c H locs ls E hH hA hS hB hl) (fun q => kf q p e s m args below meth c H locs ls E hH hA hS hB hl)
theorem kw_if_ge {x : Int32} {off : Int} {tgt : Nat} (hd : decode cc pc = .ok (.ifCond .ge off, 3)) (ht : (pc : Int) + off = (tgt : Int))
    (kt : 0 ≤ x → kw_G l D cc own ret nm R A K ad h cells slots tgt lv st) (kf : ¬ 0 ≤ x → kw_G l D cc own ret nm R A K ad h cells slots (pc + 3) lv st) : kw_G l D cc own ret nm R A K ad h cells slots pc lv (pi_ x :: st) := by
  intro p e s m args below meth c H locs ls E hH hA hS hB hl
  exact lv_if_ge E.1 E.2.1 hd ht (fun q => kt q p e s m args below meth c H locs ls E hH hA hS hB hl) (fun q => kf q p e s m args below meth c H locs ls E hH hA hS hB hl)
theorem kw_icmp_ge {x y : Int32} {off : Int} {tgt : Nat} (hd : decode cc pc = .ok (.if_icmp .ge off, 3)) (ht : (pc : Int) + off = (tgt : Int))
    (kt : y ≤ x → kw_G l D cc own ret nm R A K ad h cells slots tgt lv st) (kf : ¬ y ≤ x → kw_G l D cc own ret nm R A K ad h cells slots (pc + 3) lv st) : kw_G l D cc own ret nm R A K ad h cells slots pc lv (pi_ y :: pi_ x :: st) := by
  intro p e s m args below meth c H locs ls E hH hA hS hB hl
  exact lv_icmp_ge E.1 E.2.1 hd ht (fun q => kt q p e s m args below meth c H locs ls E hH hA hS hB hl) (fun q => kf q p e s m args below meth c H locs ls E hH hA hS hB hl)
theorem kw_if_gt {x : Int32} {off : Int} {tgt : Nat} (hd : decode cc pc = .ok (.ifCond .gt off, 3)) (ht : (pc : Int) + off = (tgt : Int))
    (kt : 0 < x → kw_G l D cc own ret nm R A K ad h cells slots tgt lv st) (kf : ¬ 0 < x → kw_G l D cc own ret nm R A K ad h cells slots (pc + 3) lv st) : kw_G l D cc own ret nm R A K ad h cells slots pc lv (pi_ x :: st) := by
  intro p e s m args below meth c H locs ls E hH hA hS hB hl
  exact lv_if_gt E.1 E.2.1 hd ht (fun q => kt q p e s m args below meth c H locs ls E hH hA hS hB hl) (fun q => kf q p e s m args below meth c H locs ls E hH hA hS hB hl)
theorem kw_icmp_gt {x y : Int32} {off : Int} {tgt : Nat} (hd : decode cc pc = .ok (.if_icmp .gt off, 3)) (ht : (pc : Int) + off = (tgt : Int))
    (kt : y < x → kw_G l D cc own ret nm R A K ad h cells slots tgt lv st) (kf : ¬ y < x → kw_G l D cc own ret nm R A K ad h cells slots (pc + 3) lv st) : kw_G l D cc own ret nm R A K ad h cells slots pc lv (pi_ y :: pi_ x :: st) := by
  intro p e s m args below meth c H locs ls E hH hA hS hB hl
  exact lv_icmp_gt E.1 E.2.1 hd ht (fun q => kt q p e s m args below meth c H locs ls E hH hA hS hB hl) (fun q => kf q p e s m args below meth c H locs ls E hH hA hS hB hl)
theorem kw_if_le {x : Int32} {off : Int} {tgt : Nat} (hd : decode cc pc = .ok (.ifCond .le off, 3)) (ht : (pc : Int) + off = (tgt : Int))
    (kt : x ≤ 0 → kw_G l D cc own ret nm R A K ad h cells slots tgt lv st) (kf : ¬ x ≤ 0 → kw_G l D cc own ret nm R A K ad h cells slots (pc + 3) lv st) : kw_G l D cc own ret nm R A K ad h cells slots pc lv (pi_ x :: st) := by
  intro p e s m args below meth c H locs ls E hH hA hS hB hl
  exact lv_if_le E.1 E.2.1 hd ht (fun q => kt q p e s m args below meth c H locs ls E hH hA hS hB hl) (fun q => kf q p e s m args below meth c H locs ls E hH hA hS hB hl)
theorem kw_icmp_le {x y : Int32} {off : Int} {tgt : Nat} (hd : decode cc pc = .ok (.if_icmp .le off, 3)) (ht : (pc : Int) + off = (tgt : Int))
    (kt : x ≤ y → kw_G l D cc own ret nm R A K ad h cells slots tgt lv st) (kf : ¬ x ≤ y → kw_G l D cc own ret nm R A K ad h cells slots (pc + 3) lv st) : kw_G l D cc own ret nm R A K ad h cells slots pc lv (pi_ y :: pi_ x :: st) := by
  intro p e s m args below meth c H locs ls E hH hA hS hB hl
  exact lv_icmp_le E.1 E.2.1 hd ht (fun q => kt q p e s m args below meth c H locs ls E hH hA hS hB hl) (fun q => kf q p e s m args below meth c H locs ls E hH hA hS hB hl)
theorem kw_ifnull {x : Option KK} {off : Int} {tgt : Nat} (hd : decode cc pc = .ok (.ifnull off, 3)) (ht : (pc : Int) + off = (tgt : Int))
    (kt : x = none → kw_G l D cc own ret nm R A K ad h cells slots tgt lv st) (kf : ¬ x = none → kw_G l D cc own ret nm R A K ad h cells slots (pc + 3) lv st) : kw_G l D cc own ret nm R A K ad h cells slots pc lv (.inr (.inr x) :: st) := by
  intro p e s m args below meth c H locs ls E hH hA hS hB hl
  cases x with
  | none => exact lv_ifnullN E.1 E.2.1 hd ht (kt rfl p e s m args below meth c H locs ls E hH hA hS hB hl)
  | some x => exact lv_ifnull E.1 E.2.1 hd (kf (fun q => by cases q) p e s m args below meth c H locs ls E hH hA hS hB hl)
theorem kw_ifnonnull {x : Option KK} {off : Int} {tgt : Nat} (hd : decode cc pc = .ok (.ifnonnull off, 3)) (ht : (pc : Int) + off = (tgt : Int))
    (kt : ¬ x = none → kw_G l D cc own ret nm R A K ad h cells slots tgt lv st) (kf : x = none → kw_G l D cc own ret nm R A K ad h cells slots (pc + 3) lv st) : kw_G l D cc own ret nm R A K ad h cells slots pc lv (.inr (.inr x) :: st) := by
  intro p e s m args below meth c H locs ls E hH hA hS hB hl
  cases x with
  | none => exact lv_ifnonnullN E.1 E.2.1 hd (kf rfl p e s m args below meth c H locs ls E hH hA hS hB hl)
  | some x => exact lv_ifnonnull E.1 E.2.1 hd ht (kt (fun q => by cases q) p e s m args below meth c H locs ls E hH hA hS hB hl)
theorem kw_tableIn {dflt lo hi : Int} {offs : Array Int} {len : Nat} {x : Int32} {off : Int} {tgt : Nat} (hd : decode cc pc = .ok (.tableswitch dflt lo hi offs, len)) (h1 : ¬ x.toInt < lo) (h2 : ¬ hi < x.toInt) (ho : offs[(x.toInt - lo).toNat]? = some off) (ht : (pc : Int) + off = (tgt : Int))
    (k : kw_G l D cc own ret nm R A K ad h cells slots tgt lv st) : kw_G l D cc own ret nm R A K ad h cells slots pc lv (pi_ x :: st) := by
  intro p e s m args below meth c H locs ls E hH hA hS hB hl
  exact lv_tableIn E.1 E.2.1 hd h1 h2 ho ht (k p e s m args below meth c H locs ls E hH hA hS hB hl)
theorem kw_tableOut {dflt lo hi : Int} {offs : Array Int} {len : Nat} {x : Int32} {tgt : Nat} (hd : decode cc pc = .ok (.tableswitch dflt lo hi offs, len)) (h1 : x.toInt < lo ∨ hi < x.toInt) (ht : (pc : Int) + dflt = (tgt : Int))
    (k : kw_G l D cc own ret nm R A K ad h cells slots tgt lv st) : kw_G l D cc own ret nm R A K ad h cells slots pc lv (pi_ x :: st) := by
  intro p e s m args below meth c H locs ls E hH hA hS hB hl
  exact lv_tableOut E.1 E.2.1 hd h1 ht (k p e s m args below meth c H locs ls E hH hA hS hB hl)
theorem kw_lookup {dflt : Int} {ps : Array (Int × Int)} {len : Nat} {x : Int32} {off : Int} {tgt : Nat} (hd : decode cc pc = .ok (.lookupswitch dflt ps, len)) (hp : (ps.toList.zip (ps.toList.drop 1)).all (fun (a, next) => a.1 < next.1) = true) (ho : Op.lookupswitch.offset ps.toList dflt x.toInt = off) (ht : (pc : Int) + off = (tgt : Int))
    (k : kw_G l D cc own ret nm R A K ad h cells slots tgt lv st) : kw_G l D cc own ret nm R A K ad h cells slots pc lv (pi_ x :: st) := by
  intro p e s m args below meth c H locs ls E hH hA hS hB hl
  exact lv_lookup E.1 E.2.1 hd hp ho ht (k p e s m args below meth c H locs ls E hH hA hS hB hl)
theorem kw_vret  (hd : decode cc pc = .ok (.return_, 1)) (hr : ret = none) (h1 : cells ≤ R.cells) (h2 : slots ≤ R.slots) (hK : K none ad h) : kw_G l D cc own ret nm R A K ad h cells slots pc lv [] := by
  intro p e s m args below meth c H locs ls E hH hA hS hB hl
  refine W.widen h1 h2 ?_
  exact W.vret E.1 E.2.1 (by rw [E.2.2.2.2.2.1, hr]) (fun t ht hw => ⟨⟨none, ad, h, rfl, hK, by rw [ht]; exact hH.moved hw.alike, hA⟩, hS.F ht⟩) hS.2.2 hd E.2.2.2.2.2.2.1
theorem kw_iret {x : Int32} (hd : decode cc pc = .ok (.ireturn, 1)) (hr : ret = some .int) (h1 : cells ≤ R.cells) (h2 : slots ≤ R.slots) (hK : K (some (pi_ x)) ad h) : kw_G l D cc own ret nm R A K ad h cells slots pc lv [pi_ x] := by
  intro p e s m args below meth c H locs ls E hH hA hS hB hl
  refine W.widen h1 h2 ?_
  exact W.iret E.1 E.2.1 (by rw [E.2.2.2.2.2.1, hr]) (fun t ht hw => ⟨⟨(some (pi_ x)), ad, h, rfl, hK, by rw [ht]; exact hH.moved hw.alike, hA⟩, hS.F ht⟩) hS.2.2 hd E.2.2.2.2.2.2.1
theorem kw_zret {x : Int32} (hd : decode cc pc = .ok (.ireturn, 1)) (hr : ret = some .boolean) (hn : narrow .boolean (.int x) = .int x) (h1 : cells ≤ R.cells) (h2 : slots ≤ R.slots) (hK : K (some (pi_ x)) ad h) : kw_G l D cc own ret nm R A K ad h cells slots pc lv [pi_ x] := by
  intro p e s m args below meth c H locs ls E hH hA hS hB hl
  refine W.widen h1 h2 ?_
  exact W.zret E.1 E.2.1 (by rw [E.2.2.2.2.2.1, hr]) hn (fun t ht hw => ⟨⟨(some (pi_ x)), ad, h, rfl, hK, by rw [ht]; exact hH.moved hw.alike, hA⟩, hS.F ht⟩) hS.2.2 hd E.2.2.2.2.2.2.1
theorem kw_lret {x : Int64} (hd : decode cc pc = .ok (.lreturn, 1)) (hr : ret = some .long) (h1 : cells ≤ R.cells) (h2 : slots ≤ R.slots) (hK : K (some (pl_ x)) ad h) : kw_G l D cc own ret nm R A K ad h cells slots pc lv [pl_ x] := by
  intro p e s m args below meth c H locs ls E hH hA hS hB hl
  refine W.widen h1 h2 ?_
  exact W.lret E.1 E.2.1 (by rw [E.2.2.2.2.2.1, hr]) (fun t ht hw => ⟨⟨(some (pl_ x)), ad, h, rfl, hK, by rw [ht]; exact hH.moved hw.alike, hA⟩, hS.F ht⟩) hS.2.2 hd E.2.2.2.2.2.2.1
theorem kw_aret {x : Option KK} {rt : FieldType} (hd : decode cc pc = .ok (.areturn, 1)) (hr : ret = some rt) (hrt : (∃ n, rt = .object n) ∨ ∃ t, rt = .array t) (h1 : cells ≤ R.cells) (h2 : slots ≤ R.slots) (hK : K (some (.inr (.inr x))) ad h) : kw_G l D cc own ret nm R A K ad h cells slots pc lv [.inr (.inr x)] := by
  intro p e s m args below meth c H locs ls E hH hA hS hB hl
  refine W.widen h1 h2 ?_
  exact W.aret E.1 E.2.1 (by rw [E.2.2.2.2.2.1, hr]) hrt (by cases x with | none => exact Or.inl rfl | some x => exact Or.inr ⟨_, rfl⟩) (fun t ht hw => ⟨⟨(some (.inr (.inr x))), ad, h, rfl, hK, by rw [ht]; exact hH.moved hw.alike, hA⟩, hS.F ht⟩) hS.2.2 hd E.2.2.2.2.2.2.1
end KwRows
end
section
/-! ROWS OF THE HEAP -/
/-- a class of the worlds, and its words -/
def kw_CD (ci : Nat) (C : String) (T : u_T) (N : Nat) (ty : Nat → FieldType) : Prop :=
  vwCl[ci]? = some (C, T, N) ∧ (∀ w ∈ u_ws C T N, w ∈ kw_tbl) ∧ (∀ k, k < N → parseFieldDescriptor (T k).2.2.1 = some (ty k)) ∧ (∀ a, a < N → ∀ b, b < N → a ≠ b → (T a).2.1 ≠ (T b).2.1) ∧ ∀ k, k < N → (T k).1 = C
/-- a field that an instruction names: the class by its number, the field by its place, its type, whether it is final -/
def kw_FL (own : String) (idx ci j : Nat) (ty : FieldType) (fin : Bool) : Prop :=
  ∃ (C : String) (T : u_T) (N : Nat) (tys : Nat → FieldType), kw_CD ci C T N tys ∧ j < N ∧ tys j = ty ∧ (T j).2.2.2 = fin ∧ Cond.fieldLink own idx C (T j).2.1 (T j).2.2.1 ∈ kw_tbl
/-- what a field or an array of this type may hold -/
def kw_ok (ty : FieldType) (v : PV) : Prop := ∀ ad : KK → Nat, narrow ty (kw_v ad v) = kw_v ad v ∧ fits ty (kw_v ad v) = true
theorem kw_ok_i (x : Int32) : kw_ok .int (pi_ x) := fun _ => ⟨rfl, rfl⟩
theorem kw_ok_l (x : Int64) : kw_ok .long (pl_ x) := fun _ => ⟨rfl, rfl⟩
theorem kw_ok_o (C : String) (x : Option KK) : kw_ok (.object C) (.inr (.inr x)) := fun _ => by cases x <;> exact ⟨rfl, rfl⟩
theorem kw_ok_a (t : FieldType) (x : Option KK) : kw_ok (.array t) (.inr (.inr x)) := fun _ => by cases x <;> exact ⟨rfl, rfl⟩
theorem kw_ok_z {x : Int32} (h : x = 0 ∨ x = 1) : kw_ok .boolean (pi_ x) := fun _ => by
  rcases h with rfl | rfl
  · exact (by decide : narrow .boolean (.int 0) = .int 0 ∧ fits .boolean (.int 0) = true)
  · exact (by decide : narrow .boolean (.int 1) = .int 1 ∧ fits .boolean (.int 1) = true)
def b2 (b : Bool) : Int32 := if b then 1 else 0
theorem b2_01 (b : Bool) : b2 b = 0 ∨ b2 b = 1 := by cases b <;> simp [b2]
theorem kw_ok_b (b : Bool) : kw_ok .boolean (pi_ (b2 b)) := kw_ok_z (b2_01 b)
theorem b2_nar (b : Bool) : narrow .boolean (.int (b2 b)) = .int (b2 b) := by cases b <;> decide
theorem b2_nar2 (b : Bool) : vp_nar .boolean (b2 b) = b2 b := by cases b <;> decide
section KwHeap
variable {l : Launch} {D : va_G} {cc : ByteArray} {own : String} {ret : Option FieldType} {nm : String} {R : Room} {A : Nat → Prop} {K : Option PV → (KK → Nat) → PH → Prop} {ad : KK → Nat} {h : PH} {cells slots pc : Nat} {lv : List (Option PV)} {st : List PV}
theorem kw_al {h : PH} {k : KK} {c : PC} (hk : h k = some c) : h k ≠ none := by rw [hk]; exact fun q => by cases q
theorem kw_hA {A : Nat → Prop} {ad : KK → Nat} {h : PH} {k : KK} {c0 c : PC} (hk : h k = some c0) (hA : ∀ k, h k ≠ none → A (ad k)) : ∀ k', kw_up h k c k' ≠ none → A (ad k') := by
  intro k' h1
  by_cases e : k' = k
  · subst e; exact hA _ (kw_al hk)
  · rw [kw_up_n _ _ e] at h1; exact hA _ h1
theorem kw_get {idx ci j : Nat} {ty : FieldType} {fin : Bool} {key : KK} {fs : List PV} {v : PV} (hd : decode cc pc = .ok (.getfield idx, 3)) (hf : kw_FL own idx ci j ty fin) (hk : h key = some (.inr (ci, fs))) (hv : fs[j]? = some v)
    (k : kw_G l D cc own ret nm R A K ad h cells slots (pc + 3) lv (v :: st)) : kw_G l D cc own ret nm R A K ad h cells slots pc lv (pr_ key :: st) := by
  intro p e s m args below meth c H locs ls E hH hA hS hB hl
  obtain ⟨C, T, N, tys, ⟨hc, hin, -, -, hown⟩, hj, -, -, hlink⟩ := hf
  refine va_get (ci := ci) E.1 E.2.1 E.2.2.2.2.1 hin E.2.2.2.1 hH.1 (ws := [(ad key, .inr (ci, fs.map (kw_v ad)))]) (fun i q hq => ?_) 0 rfl hc j hj (E.2.2.2.2.1 _ hlink) (fun x hx => by rw [hown j hj] at hx; exact hx) (v := kw_v ad v) (by rw [List.getElem?_map, hv]; rfl) hd (k p e s m args below meth c H locs ls E hH hA hS hB hl)
  have hz : i = 0 := by have := (List.getElem?_eq_some_iff.mp hq).1; simp at this; exact this
  subst hz
  cases hq
  exact hH.2.1 key _ hk
theorem kw_put {idx ci j : Nat} {ty : FieldType} {key : KK} {fs : List PV} {v : PV} (hd : decode cc pc = .ok (.putfield idx, 3)) (hf : kw_FL own idx ci j ty false) (hk : h key = some (.inr (ci, fs))) (hv : kw_ok ty v) (hlen : j < fs.length)
    (k : kw_G l D cc own ret nm R A K ad (kw_up h key (.inr (ci, fs.set j v))) cells slots (pc + 3) lv st) : kw_G l D cc own ret nm R A K ad h cells slots pc lv (v :: pr_ key :: st) := by
  intro p e s m args below meth c H locs ls E hH hA hS hB hl
  obtain ⟨C, T, N, tys, ⟨hc, hin, hty, hnm, hown⟩, hj, hty2, hfin, hlink⟩ := hf
  have hap := va_apart (own := own) E.2.2.2.2.1 hin tys hty hnm hH.1 hc
  obtain ⟨r, h1, cell, q1, q2, q3, q4⟩ := hH.2.1 key _ hk
  have hr : r = (C, T, N) := Option.some.inj (h1.symm.trans hc)
  subst hr
  obtain ⟨hSl, hfc, kC, hkC, hkind⟩ := hH.1.1 ci _ hc
  obtain ⟨cf, kf, fi, f, hi, hsl⟩ := hSl j hj
  have hlay := E.2.2.2.2.1 _ (hin _ (u_in_lay hj))
  unfold u_lay at hlay
  rw [if_neg (by rw [hfin]; decide)] at hlay
  have hst := (u_facts hfc hkC (u_lays E.2.2.2.2.1 hin hj) hi).1
  have hd2 : parseFieldDescriptor (T j).2.2.1 = some ty := by rw [hty j hj, hty2]
  have h6 := u_store hfc hkC hkind hlay hi hd2 (hv ad).1 (hv ad).2
  have hi2 : s.fieldFound? C (T j).2.1 (T j).2.2.1 = some (cf, kf, fi, f) := by rw [← hown j hj]; exact hi
  refine W.putK E.1 E.2.1 (f := f) ⟨E.2.2.2.1, E.2.2.2.2.1 _ hlink, ⟨_, _, _, hi2⟩, hst⟩ (by rw [q2]; exact h6) q1 q3 (by rw [hsl]; exact k2_hasslot (q4 j hj)) rfl rfl hd fun H' e1 e2 e3 => ?_
  rw [hsl] at e1 ⊢
  refine k p e s m args below meth c H' _ ls E (hH.set hk ?_ e3) (kw_hA hk hA) (hS.put e2 e3 (hA _ (kw_al hk))) hB hl
  refine ⟨_, hc, t_OB.to (V := updV (vp_V (fs.map (kw_v ad))) j (kw_v ad v)) ⟨_, e1, q2, q3, t_set q4 hap hj _⟩ (fun i _ => ?_)⟩
  rw [vp_updV_set (by rw [List.length_map]; exact hlen)]
  simp only [List.map_set]
theorem kw_putF {idx ci j : Nat} {ty : FieldType} {key : KK} {fs : List PV} {v : PV} (hd : decode cc pc = .ok (.putfield idx, 3)) (hf : kw_FL own idx ci j ty true) (hnm : nm = "<init>") (hdecl : ∀ C T N, vwCl[ci]? = some (C, T, N) → C = own) (hk : h key = some (.inr (ci, fs))) (hv : kw_ok ty v) (hlen : j < fs.length)
    (k : kw_G l D cc own ret nm R A K ad (kw_up h key (.inr (ci, fs.set j v))) cells slots (pc + 3) lv st) : kw_G l D cc own ret nm R A K ad h cells slots pc lv (v :: pr_ key :: st) := by
  intro p e s m args below meth c H locs ls E hH hA hS hB hl
  obtain ⟨C, T, N, tys, ⟨hc, hin, hty, hnm2, hown⟩, hj, hty2, hfin, hlink⟩ := hf
  have hap := va_apart (own := own) E.2.2.2.2.1 hin tys hty hnm2 hH.1 hc
  obtain ⟨r, h1, cell, q1, q2, q3, q4⟩ := hH.2.1 key _ hk
  have hr : r = (C, T, N) := Option.some.inj (h1.symm.trans hc)
  subst hr
  obtain ⟨hSl, hfc, kC, hkC, hkind⟩ := hH.1.1 ci _ hc
  obtain ⟨cf, kf, fi, f, hi, hsl⟩ := hSl j hj
  have hlay := E.2.2.2.2.1 _ (hin _ (u_in_lay hj))
  unfold u_lay at hlay
  rw [if_pos hfin] at hlay
  have hst := (u_facts hfc hkC (u_lays E.2.2.2.2.1 hin hj) hi).1
  have hd2 : parseFieldDescriptor (T j).2.2.1 = some ty := by rw [hty j hj, hty2]
  have hi2 : s.fieldFound? C (T j).2.1 (T j).2.2.1 = some (cf, kf, fi, f) := by rw [← hown j hj]; exact hi
  have hcf : m.cls = cf := by
    obtain ⟨_, _, c', _, _, _, -, -, hf', -, -, -, hown2, -⟩ := Cond.laysFinal_spec hlay
    have e1 : c' = cf := by have := hi.symm.trans hf'; simp at this; exact this.1.symm
    rw [hown j hj, hdecl _ _ _ hc] at hown2
    rw [← e1]; exact Option.some.inj (E.2.2.2.1.symm.trans hown2)
  have h6 := u_fits hfc hkC hkind (Or.inr hlay) hi hd2 (hv ad).1 (hv ad).2
  refine W.putFinK E.1 E.2.1 E.2.2.2.1 (E.2.2.2.2.1 _ hlink) hi2 hst hcf (by rw [E.2.2.2.2.2.2.2.1, hnm]) (by rw [q2]; exact h6) q1 q3 (by rw [hsl]; exact k2_hasslot (q4 j hj)) rfl rfl hd fun H' e1 e2 e3 => ?_
  rw [hsl] at e1 ⊢
  refine k p e s m args below meth c H' _ ls E (hH.set hk ?_ e3) (kw_hA hk hA) (hS.put e2 e3 (hA _ (kw_al hk))) hB hl
  refine ⟨_, hc, t_OB.to (V := updV (vp_V (fs.map (kw_v ad))) j (kw_v ad v)) ⟨_, e1, q2, q3, t_set q4 hap hj _⟩ (fun i _ => ?_)⟩
  rw [vp_updV_set (by rw [List.length_map]; exact hlen)]
  simp only [List.map_set]
/-! arrays: reads -/
theorem kw_iald {key : KK} {n : Nat} {f : Nat → Int32} {i : Int32} (hd : decode cc pc = .ok (.iaload, 1)) (hk : h key = some (.inl (.int, n, .inl f))) (hin : vp_in i n)
    (k : kw_G l D cc own ret nm R A K ad h cells slots (pc + 1) lv (pi_ (f i.toNatClampNeg) :: st)) : kw_G l D cc own ret nm R A K ad h cells slots pc lv (pi_ i :: pr_ key :: st) := by
  intro p e s m args below meth c H locs ls E hH hA hS hB hl
  obtain ⟨cA, h1, h2, h3⟩ := hH.2.1 key _ hk
  have hlt : i.toNatClampNeg < n := Nat.not_le.mp fun q => hin (Or.inr q)
  exact W.iald (v := .int (f i.toNatClampNeg)) E.1 E.2.1 h1 (h2 n (fun j => .int (f j))) (fun q => by cases q) (by show ¬ (i < 0 ∨ (arrV _ _ _).slots.size ≤ _); rw [arrV_size]; exact hin) (by show (arrV _ _ _).slots[_]? = _; rw [arrV_read _ _ hlt]) rfl rfl hd (k p e s m args below meth c H locs ls E hH hA hS hB hl)
theorem kw_zald {key : KK} {n : Nat} {f : Nat → Int32} {i : Int32} (hd : decode cc pc = .ok (.baload, 1)) (hk : h key = some (.inl (.boolean, n, .inl f))) (hin : vp_in i n)
    (k : kw_G l D cc own ret nm R A K ad h cells slots (pc + 1) lv (pi_ (f i.toNatClampNeg) :: st)) : kw_G l D cc own ret nm R A K ad h cells slots pc lv (pi_ i :: pr_ key :: st) := by
  intro p e s m args below meth c H locs ls E hH hA hS hB hl
  obtain ⟨cA, h1, h2, h3⟩ := hH.2.1 key _ hk
  have hlt : i.toNatClampNeg < n := Nat.not_le.mp fun q => hin (Or.inr q)
  exact W.zald (v := .int (f i.toNatClampNeg)) E.1 E.2.1 h1 (h2 n (fun j => .int (f j))) (fun q => by cases q) (by show ¬ (i < 0 ∨ (arrV _ _ _).slots.size ≤ _); rw [arrV_size]; exact hin) (by show (arrV _ _ _).slots[_]? = _; rw [arrV_read _ _ hlt]) rfl rfl hd (k p e s m args below meth c H locs ls E hH hA hS hB hl)
theorem kw_lald {key : KK} {n : Nat} {f : Nat → Int64} {i : Int32} (hd : decode cc pc = .ok (.laload, 1)) (hk : h key = some (.inl (.long, n, .inr (.inl f)))) (hin : vp_in i n)
    (k : kw_G l D cc own ret nm R A K ad h cells slots (pc + 1) lv (pl_ (f i.toNatClampNeg) :: st)) : kw_G l D cc own ret nm R A K ad h cells slots pc lv (pi_ i :: pr_ key :: st) := by
  intro p e s m args below meth c H locs ls E hH hA hS hB hl
  obtain ⟨cA, h1, h2, h3⟩ := hH.2.1 key _ hk
  have hlt : i.toNatClampNeg < n := Nat.not_le.mp fun q => hin (Or.inr q)
  exact W.lald (v := .long (f i.toNatClampNeg)) E.1 E.2.1 h1 (h2 n (fun j => .long (f j))) (fun q => by cases q) (by show ¬ (i < 0 ∨ (arrV _ _ _).slots.size ≤ _); rw [arrV_size]; exact hin) (by show (arrV _ _ _).slots[_]? = _; rw [arrV_read _ _ hlt]) rfl rfl hd (k p e s m args below meth c H locs ls E hH hA hS hB hl)
theorem kw_rf (ad : KK → Nat) (x : Option KK) : va_rf (x.map ad) = kw_v ad (.inr (.inr x)) := by cases x <;> rfl
theorem kw_aald {key : KK} {n : Nat} {C : String} {f : Nat → Option KK} {i : Int32} (hd : decode cc pc = .ok (.aaload, 1)) (hk : h key = some (.inl (.object C, n, .inr (.inr f)))) (hin : vp_in i n)
    (k : kw_G l D cc own ret nm R A K ad h cells slots (pc + 1) lv (.inr (.inr (f i.toNatClampNeg)) :: st)) : kw_G l D cc own ret nm R A K ad h cells slots pc lv (pi_ i :: pr_ key :: st) := by
  intro p e s m args below meth c H locs ls E hH hA hS hB hl
  obtain ⟨cA, h1, h2, h3⟩ := hH.2.1 key _ hk
  have hlt : i.toNatClampNeg < n := Nat.not_le.mp fun q => hin (Or.inr q)
  exact W.aald (v := kw_v ad (.inr (.inr (f i.toNatClampNeg)))) (ty := .object C) E.1 E.2.1 h1 (h2 n (fun j => va_rf ((f j).map ad))) rfl (fun q => by cases q) (by show ¬ (i < 0 ∨ (arrV _ _ _).slots.size ≤ _); rw [arrV_size]; exact hin) (by show (arrV _ _ _).slots[_]? = _; rw [arrV_read _ _ hlt, kw_rf]) rfl rfl hd (k p e s m args below meth c H locs ls E hH hA hS hB hl)
theorem kw_alen {key : KK} {a : FieldType × Nat × PX} (hd : decode cc pc = .ok (.arraylength, 1)) (hk : h key = some (.inl a))
    (k : kw_G l D cc own ret nm R A K ad h cells slots (pc + 1) lv (pi_ (nI a.2.1) :: st)) : kw_G l D cc own ret nm R A K ad h cells slots pc lv (pr_ key :: st) := by
  intro p e s m args below meth c H locs ls E hH hA hS hB hl
  obtain ⟨cA, h1, h2, h3⟩ := hH.2.1 key _ hk
  refine va_alen (D := D) (cl := vwCl) (tys := [(cA, a.1)]) (ws := [(ad key, .inl (cA, a.2.1, kw_x ad a.2.2))]) E.1 E.2.1 ⟨hH.1.1, fun i q hq => ?_⟩ (fun i q hq => ?_) 0 0 rfl rfl rfl hd (k p e s m args below meth c H locs ls E hH hA hS hB hl)
  · have hz : i = 0 := by have := (List.getElem?_eq_some_iff.mp hq).1; simp at this; exact this
    subst hz
    cases hq
    exact ⟨h2, h3⟩
  · have hz : i = 0 := by have := (List.getElem?_eq_some_iff.mp hq).1; simp at this; exact this
    subst hz
    cases hq
    exact h1
/-! arrays: writes -/
theorem kw_iast {key : KK} {n : Nat} {f : Nat → Int32} {i x : Int32} (hd : decode cc pc = .ok (.iastore, 1)) (hk : h key = some (.inl (.int, n, .inl f))) (hin : vp_in i n)
    (k : kw_G l D cc own ret nm R A K ad (kw_up h key (.inl (.int, n, .inl (upd f i.toNatClampNeg x)))) cells slots (pc + 1) lv st) : kw_G l D cc own ret nm R A K ad h cells slots pc lv (pi_ x :: pi_ i :: pr_ key :: st) := by
  intro p e s m args below meth c H locs ls E hH hA hS hB hl
  obtain ⟨cA, h1, h2, h3⟩ := hH.2.1 key _ hk
  refine W.iast E.1 E.2.1 h1 (h2 n (fun j => .int (f j))) (fun q => by cases q) (by show ¬ (i < 0 ∨ (arrV _ _ _).slots.size ≤ _); rw [arrV_size]; exact hin) rfl rfl hd fun H1 e0 z oq => ?_
  refine k p e s m args below meth c H1 _ ls E (hH.set hk ⟨cA, ?_, h2, h3⟩ oq) (kw_hA hk hA) (hS.put z oq (hA _ (kw_al hk))) hB hl
  show H1[ad key]? = some (vp_cell _ _)
  rw [e0]
  show some (Cell.setSlot (vp_cell cA (n, .inl f)) _ _) = some (vp_cell cA (n, .inl (upd f i.toNatClampNeg x)))
  rw [vp_cell_i, vp_cell_i, arrV_store]
  congr 2
  funext q
  by_cases hq : q = i.toNatClampNeg
  · subst hq
    simp [updV, upd]
  · simp [updV, upd, hq]
theorem kw_zast {key : KK} {n : Nat} {f : Nat → Int32} {i x : Int32} (hd : decode cc pc = .ok (.bastore, 1)) (hk : h key = some (.inl (.boolean, n, .inl f))) (hin : vp_in i n) (hx : x = 0 ∨ x = 1)
    (k : kw_G l D cc own ret nm R A K ad (kw_up h key (.inl (.boolean, n, .inl (upd f i.toNatClampNeg x)))) cells slots (pc + 1) lv st) : kw_G l D cc own ret nm R A K ad h cells slots pc lv (pi_ x :: pi_ i :: pr_ key :: st) := by
  intro p e s m args below meth c H locs ls E hH hA hS hB hl
  obtain ⟨cA, h1, h2, h3⟩ := hH.2.1 key _ hk
  have hnx : narrow .boolean (.int x) = .int x := by rcases hx with rfl | rfl <;> decide
  refine W.zast E.1 E.2.1 h1 (h2 n (fun j => .int (f j))) (fun q => by cases q) (by show ¬ (i < 0 ∨ (arrV _ _ _).slots.size ≤ _); rw [arrV_size]; exact hin) rfl rfl hd fun H1 e0 z oq => ?_
  refine k p e s m args below meth c H1 _ ls E (hH.set hk ⟨cA, ?_, h2, h3⟩ oq) (kw_hA hk hA) (hS.put z oq (hA _ (kw_al hk))) hB hl
  show H1[ad key]? = some (vp_cell _ _)
  rw [e0, hnx]
  show some (Cell.setSlot (vp_cell cA (n, .inl f)) _ _) = some (vp_cell cA (n, .inl (upd f i.toNatClampNeg x)))
  rw [vp_cell_i, vp_cell_i, arrV_store]
  congr 2
  funext q
  by_cases hq : q = i.toNatClampNeg
  · subst hq
    simp [updV, upd]
  · simp [updV, upd, hq]
theorem kw_last {key : KK} {n : Nat} {f : Nat → Int64} {i : Int32} {x : Int64} (hd : decode cc pc = .ok (.lastore, 1)) (hk : h key = some (.inl (.long, n, .inr (.inl f)))) (hin : vp_in i n)
    (k : kw_G l D cc own ret nm R A K ad (kw_up h key (.inl (.long, n, .inr (.inl (vp_updL f i.toNatClampNeg x))))) cells slots (pc + 1) lv st) : kw_G l D cc own ret nm R A K ad h cells slots pc lv (pl_ x :: pi_ i :: pr_ key :: st) := by
  intro p e s m args below meth c H locs ls E hH hA hS hB hl
  obtain ⟨cA, h1, h2, h3⟩ := hH.2.1 key _ hk
  refine W.last E.1 E.2.1 h1 (h2 n (fun j => .long (f j))) (fun q => by cases q) (by show ¬ (i < 0 ∨ (arrV _ _ _).slots.size ≤ _); rw [arrV_size]; exact hin) rfl rfl hd fun H1 e0 z oq => ?_
  refine k p e s m args below meth c H1 _ ls E (hH.set hk ⟨cA, ?_, h2, h3⟩ oq) (kw_hA hk hA) (hS.put z oq (hA _ (kw_al hk))) hB hl
  show H1[ad key]? = some (vp_cell _ _)
  rw [e0]
  show some (Cell.setSlot (vp_cell cA (n, .inr (.inl f))) _ _) = some (vp_cell cA (n, .inr (.inl (vp_updL f i.toNatClampNeg x))))
  rw [vp_cell_l, vp_cell_l, arrV_store]
  congr 2
  funext q
  by_cases hq : q = i.toNatClampNeg
  · subst hq
    simp [updV, vp_updL]
  · simp [updV, vp_updL, hq]
theorem kw_aast {key kv : KK} {n ci : Nat} {r : vw_C} {f : Nat → Option KK} {fs : List PV} {i : Int32} (hd : decode cc pc = .ok (.aastore, 1)) (hc : vwCl[ci]? = some r) (hk : h key = some (.inl (.object r.1, n, .inr (.inr f)))) (hv : h kv = some (.inr (ci, fs))) (hin : vp_in i n)
    (k : kw_G l D cc own ret nm R A K ad (kw_up h key (.inl (.object r.1, n, .inr (.inr (va_up f i.toNatClampNeg (some kv)))))) cells slots (pc + 1) lv st) : kw_G l D cc own ret nm R A K ad h cells slots pc lv (pr_ kv :: pi_ i :: pr_ key :: st) := by
  intro p e s m args below meth c H locs ls E hH hA hS hB hl
  obtain ⟨cA, h1, h2, h3⟩ := hH.2.1 key _ hk
  have hlt : i.toNatClampNeg < n := Nat.not_le.mp fun q => hin (Or.inr q)
  have h0 : ¬ i < 0 := fun q => hin (Or.inl q)
  obtain ⟨r', hr', cellV, g1, g2, g3, -⟩ := hH.2.1 kv _ hv
  have hcls := (hH.1.1 ci r hc).2
  obtain ⟨kA, comp, k1, k2, k3, -⟩ := id h3
  have hcomp : comp = D.1 ci := Option.some.inj (k3.symm.trans hcls.1)
  subst hcomp
  obtain ⟨kC, hkC, -⟩ := hcls.2
  refine W.aast E.1 E.2.1 h1 (fun q h => by cases h) (fun h => by cases h) k1 k2 rfl hkC ⟨h0, by show _ < (arrV _ _ _).slots.size; rw [arrV_size]; exact hlt⟩ g1 (fun q h => by rw [g3] at h; cases h) (by rw [g2]; exact hkC) (by rw [g2]; exact va_assign hcls) rfl rfl hd fun H1 e0 z oq => ?_
  refine k p e s m args below meth c H1 _ ls E (hH.set hk ⟨cA, ?_, h2, h3⟩ oq) (kw_hA hk hA) (hS.put z oq (hA _ (kw_al hk))) hB hl
  show H1[ad key]? = some (vp_cell _ _)
  rw [e0]
  show some (Cell.setSlot (vp_cell cA (n, .inr (.inr (.inr (.inr (fun j => (f j).map ad)))))) _ _) = some (vp_cell cA (n, .inr (.inr (.inr (.inr (fun j => (va_up f i.toNatClampNeg (some kv) j).map ad))))))
  rw [vp_cell_q, vp_cell_q, arrV_store]
  congr 2
  funext q
  by_cases hq : q = i.toNatClampNeg
  · subst hq
    simp [updV, va_up, va_rf]
  · simp [updV, va_up, hq]
end KwHeap
end
section
/-! CONTRACTS AND CALLS -/
def kw_A (ad : KK → Nat) (h : PH) (sz : Nat) : Nat → Prop := fun q => (∃ k, h k ≠ none ∧ q = ad k) ∨ sz ≤ q
/-- method y's contract at the arguments As over the world h: K of the keys' places before, of the answer, of the places and of the world behind it -/
def kw_M (l : Launch) (y : MethodName) (cc : ByteArray) (nL : Nat) (ret : Option FieldType) (R : Room) (As : List PV) (h : PH) (K : (KK → Nat) → Option PV → (KK → Nat) → PH → Prop) : Prop :=
  ∀ (D : va_G) (ad : KK → Nat) (sz : Nat), Met l y (.code y cc nL ret :: kw_tbl) R (va_Pc (As.map (kw_v ad)) (fun U => U.heap.size = sz ∧ kw_H D U U.heap ad h ∧ kw_N U)) (kw_Qc D (K ad) (kw_A ad h sz)) R.cells R.slots (kw_A ad h sz)
/-- no new cells: the answer and the world are such -/
abbrev kw_P (l : Launch) (y : MethodName) (cc : ByteArray) (nL : Nat) (ret : Option FieldType) (R : Room) (As : List PV) (h : PH) (P : Option PV → PH → Prop) : Prop :=
  kw_M l y cc nL ret R As h (fun ad r ad' h' => ad' = ad ∧ P r h')
/-- no new cells: just this answer and this world -/
abbrev kw_F (l : Launch) (y : MethodName) (cc : ByteArray) (nL : Nat) (ret : Option FieldType) (R : Room) (As : List PV) (h : PH) (r0 : Option PV) (h0 : PH) : Prop :=
  kw_P l y cc nL ret R As h (fun r h' => r = r0 ∧ h' = h0)
/-- with new cells: the old ones stay where they lie -/
abbrev kw_Q (l : Launch) (y : MethodName) (cc : ByteArray) (nL : Nat) (ret : Option FieldType) (R : Room) (As : List PV) (h : PH) (P : Option PV → PH → Prop) : Prop :=
  kw_M l y cc nL ret R As h (fun ad r ad' h' => (∀ k, h k ≠ none → ad' k = ad k) ∧ P r h')
theorem kw_ent_args (ad : KK → Nat) : ∀ (As : List PV) (i0 j : Nat) (v : PV), (kw_ent As)[j]? = some (some v) → (i0 + j, kw_v ad v) ∈ lv_args i0 (As.map (kw_v ad))
  | [], i0, j, v, h => by simp [kw_ent] at h
  | a :: t, i0, j, v, h => by
    simp only [kw_ent] at h
    simp only [List.map_cons, lv_args, kw_cat_v]
    by_cases hc : kw_cat a = 2
    · rw [if_pos hc] at h
      rw [if_pos hc]
      match j, h with
      | 0, h =>
        simp only [List.getElem?_cons_zero, Option.some.injEq] at h
        subst h
        exact List.mem_cons_self
      | 1, h => simp at h
      | j + 2, h =>
        simp only [List.getElem?_cons_succ] at h
        have := kw_ent_args ad t (i0 + 2) j v h
        rw [show i0 + (j + 2) = i0 + 2 + j by omega]
        exact List.mem_cons_of_mem _ this
    · rw [if_neg hc] at h
      rw [if_neg hc]
      match j, h with
      | 0, h =>
        simp only [List.getElem?_cons_zero, Option.some.injEq] at h
        subst h
        exact List.mem_cons_self
      | j + 1, h =>
        simp only [List.getElem?_cons_succ] at h
        have := kw_ent_args ad t (i0 + 1) j v h
        rw [show i0 + (j + 1) = i0 + 1 + j by omega]
        exact List.mem_cons_of_mem _ this
theorem kw_ent_len (ad : KK → Nat) : ∀ As : List PV, (lg_sl (As.map (kw_v ad))).length = (kw_ent As).length
  | [] => rfl
  | a :: t => by
    have ih := kw_ent_len ad t
    simp only [lg_sl, List.map_cons, List.flatMap_cons, List.length_append, kw_cat_v, kw_ent] at ih ⊢
    by_cases hc : kw_cat a = 2
    · simp [hc, ih]; omega
    · simp [hc, ih]; omega
theorem kw_M_of {l : Launch} {y : MethodName} {cc : ByteArray} {nL : Nat} {ret : Option FieldType} {R : Room} {As : List PV} {h : PH} {K : (KK → Nat) → Option PV → (KK → Nat) → PH → Prop} (own nm : String) (lv : List (Option PV)) (hy : plainName y.cls = true) (ho : y.cls = own) (hn : y.name = nm)
    (hlv : kw_ent As ++ List.replicate (nL - (kw_ent As).length) none = lv) (hle : (kw_ent As).length ≤ nL)
    (k : ∀ (D : va_G) (ad : KK → Nat) (A : Nat → Prop), kw_G l D cc own ret nm R A (K ad) ad h 0 0 0 lv []) : kw_M l y cc nL ret R As h K := by
  intro D ad sz
  refine Met.ofW (cc := cc) (maxL := nL) (ret := ret) hy rfl ?_
  intro p e s m args below meth c s₁ B hml hv
  obtain ⟨rfl, hsz, hH, hN⟩ := hv
  subst hsz
  have hts := atoms_spec (ws := .code y cc nL ret :: kw_tbl) B.pre
  have hlen : lv.length = nL := by rw [← hlv]; simp; omega
  have hle' : (lg_sl (As.map (kw_v ad))).length ≤ nL := by rw [kw_ent_len]; exact hle
  have hl := lv_entry (As.map (kw_v ad)) (n := nL) hle'
  rw [lg_entry_eq]
  refine k D ad (kw_A ad h s.heap.size) p e s m _ below meth c s.heap [] _ ⟨B.exec, B.bytes, hml.trans hlen.symm, by rw [← ho]; exact findClass_of_methodNamed B.named, fun w hw => hts w (List.mem_cons_of_mem _ hw), B.returns, B.notSynchronized, by rw [← hn]; exact (name_of_methodNamed B.named B.method).1, hN⟩ hH (fun k hk => Or.inl ⟨k, hk, rfl⟩) va_S.rf (fun q hq => Or.inr hq) ⟨hl.1.trans hlen.symm, hl.2.1, fun i v hi => ?_⟩
  have hi2 : (kw_ent As)[i]? = some (some v) := by
    rw [← hlv] at hi
    by_cases hlt : i < (kw_ent As).length
    · rw [List.getElem?_append_left hlt] at hi
      exact hi
    · rw [List.getElem?_append_right (by omega)] at hi
      have := List.eq_of_mem_replicate (List.mem_of_getElem? hi)
      cases this
  have := kw_ent_args ad As 0 i v hi2
  rw [Nat.zero_add] at this
  exact hl.2.2 _ this
/-- weaker ends -/
theorem kw_M.imp {l : Launch} {y : MethodName} {cc : ByteArray} {nL : Nat} {ret : Option FieldType} {R : Room} {As : List PV} {h : PH} {P P' : Option PV → PH → Prop} (hM : kw_P l y cc nL ret R As h P) (hp : ∀ r h', P r h' → P' r h') : kw_P l y cc nL ret R As h P' := by
  intro D ad sz p e ha hc hk s m args below hf happ hpc ht
  obtain ⟨t, o, a1, a2, a3, ⟨⟨r, ad', h', b1, ⟨b2, b3⟩, b4⟩, b5⟩, b6⟩ := hM D ad sz p e ha hc hk s m args below hf happ hpc ht
  exact ⟨t, o, a1, a2, a3, ⟨⟨r, ad', h', b1, ⟨b2, hp r h' b3⟩, b4⟩, b5⟩, b6⟩
section KwAfter
variable {p : Program} {l : Launch} {e : Env} {R : Room} {s : State} {m : MethodId} {args : Array Value} {below : List Frame} {meth : Method} {c : Code} {H : Heap} {locs : List Loc} {cells slots : Nat} {Q : State → Prop}
variable {pc : Nat} {ls : Array Slot} {rest st0 : List Value} {a : Array Value} {A0 A1 : Nat → Prop} {H0 : Heap} {mc ms : Nat} {D : va_G} {K1 : Option PV → (KK → Nat) → PH → Prop}
theorem kw_after (hr : va_Run p l e R s m args below meth c H locs cells slots mc ms (F0 m pc ls st0) rest (kw_Qc D K1 A1 a) A1) (hS : va_S A0 H0 H locs) (hA : ∀ q, A1 q → A0 q)
    (kk : ∀ (r : Option PV) (ad1 : KK → Nat) (h1 : PH) (H1 : Heap) (locs1 : List Loc), K1 r ad1 h1 → kw_H D s H1 ad1 h1 → (∀ k, h1 k ≠ none → A0 (ad1 k)) → H.size ≤ H1.size → va_S A0 H0 H1 locs1 → W p l e R s m args below meth c H1 locs1 (cells + mc) (slots + ms) Q (F0 m (pc + 3) ls ((r.map (kw_v ad1)).toList ++ rest))) : W p l e R s m args below meth c H locs cells slots Q (F0 m pc ls st0) := by
  intro T hT X
  obtain ⟨v, st₀, t, T', L, h0, X', hL, e1, e2, ⟨⟨r, ad1, h1, hv, hp, hb, hin⟩, hz, hk⟩, st⟩ := hr T hT X
  cases hv
  rw [h0] at hz hk
  have hal : s.vm.Alike t.vm := by rw [← e2]; exact X'.warmed.alike
  obtain ⟨t2, a1, b1⟩ := kk r ad1 h1 T'.heap (locs ++ L) hp (by rw [e1]; exact hb.moved hal.symm) (fun k hk => hA _ (hin k hk)) (by rw [e1]; exact hz)
    ⟨Nat.le_trans hS.1 (by rw [e1]; exact hz), fun q h1 h2 => by rw [e1, hk q (Nat.lt_of_lt_of_le h1 hS.1) (fun z => h2 (hA q z))]; exact hS.2.1 q h1 h2, fun q hq => by
      rcases List.mem_append.mp hq with h | h
      · exact hS.2.2 q h
      · exact hA _ (hL q h)⟩ T' rfl X'
  exact ⟨t2, st t2 a1, b1⟩
end KwAfter
/-- the tables' words of a call -/
def kw_CB (y : MethodName) (cc : ByteArray) (nL : Nat) (ret : Option FieldType) (n : Nat) : Prop :=
  Cond.initialized y.cls ∈ kw_tbl ∧ Cond.code y cc nL ret ∈ kw_tbl ∧ y.cls ≠ "java/lang/invoke/MethodHandle" ∧ y.cls ≠ "java/lang/invoke/VarHandle" ∧ (parseMethodDescriptor y.desc).map (fun d => d.parameters.length) = some n
def kw_CV (own : String) (idx : Nat) (y : MethodName) (cc : ByteArray) (nL : Nat) (ret : Option FieldType) (n : Nat) : Prop :=
  kw_CB y cc nL ret n ∧ Cond.methodLink own idx y ∈ kw_tbl ∧ Cond.instanceMethod y ∈ kw_tbl ∧ Cond.selects y.cls y y ∈ kw_tbl
def kw_CS (own : String) (idx : Nat) (y : MethodName) (cc : ByteArray) (nL : Nat) (ret : Option FieldType) (n : Nat) : Prop :=
  kw_CB y cc nL ret n ∧ Cond.methodLink own idx y ∈ kw_tbl ∧ Cond.static y ∈ kw_tbl
def kw_CI (own : String) (idx : Nat) (y : MethodName) (cc : ByteArray) (nL : Nat) (n : Nat) : Prop :=
  kw_CB y cc nL none n ∧ Cond.methodLink own idx y ∈ kw_tbl ∧ Cond.instanceMethod y ∈ kw_tbl ∧ y.name = "<init>"
def kw_CIN (own : String) (idx : Nat) (y : MethodName) (cc : ByteArray) (nL : Nat) (n : Nat) (host : String) : Prop :=
  kw_CB y cc nL none n ∧ (own, idx, y, host) ∈ kw_nests ∧ Cond.instanceMethod y ∈ kw_tbl ∧ y.name = "<init>"
theorem kw_goodIn {y : MethodName} {cc : ByteArray} {nL : Nat} {ret : Option FieldType} (h : Cond.code y cc nL ret ∈ kw_tbl) : GoodIn kw_tbl (Cond.code y cc nL ret :: kw_tbl) := by
  intro w hw
  have hw2 : w ∈ kw_tbl := by
    rcases List.mem_cons.mp hw with rfl | q
    · exact h
    · exact q
  exact ⟨hw2, good_of_word (List.mem_filter.mp hw2).2⟩
/-- which room a callee has -/
def kw_Rm (R R2 : Room) (nL cells slots : Nat) : Prop := R2.frames + 1 ≤ R.frames ∧ 8 + (nL + 11) + R2.locals ≤ R.locals ∧ cells + R2.cells ≤ R.cells ∧ slots + R2.slots ≤ R.slots
section KwCalls
variable {l : Launch} {D : va_G} {cc : ByteArray} {own : String} {ret : Option FieldType} {nm : String} {R : Room} {A : Nat → Prop} {K : Option PV → (KK → Nat) → PH → Prop} {ad : KK → Nat} {h : PH} {cells slots pc : Nat} {lv : List (Option PV)} {st : List PV}
theorem kw_Ain {s : State} {H : Heap} {locs : List Loc} (hA : ∀ k, h k ≠ none → A (ad k)) (hS : va_S A s.heap H locs) (hB : ∀ q, s.heap.size ≤ q → A q) : ∀ q, kw_A ad h H.size q → A q := by
  rintro q (⟨k, hk, rfl⟩ | hq)
  · exact hA k hk
  · exact hB q (Nat.le_trans hS.1 hq)
theorem kw_blind {D : va_G} {ad : KK → Nat} {h : PH} {sz : Nat} {av : List Value} : FrameBlind (va_Pc av (fun U => U.heap.size = sz ∧ kw_H D U U.heap ad h ∧ kw_N U)) :=
  fun a U g mk q => ⟨q.1, q.2.1, kw_H.moved (u := U) (U := U.calling g mk a) (Vm.Alike.refl _) q.2.2.1, q.2.2.2.warm (State.WarmedH.refl U)⟩
theorem kw_catsum (ad : KK → Nat) (rest : List PV) : ((rest.map (kw_v ad)).map fun v => v.category).sum = (rest.map kw_cat).sum := by
  rw [List.map_map]
  congr 1
  exact List.map_congr_left (fun v _ => kw_cat_v ad v)
theorem kw_runV {idx n nL2 : Nat} {y : MethodName} {cc2 : ByteArray} {ret2 : Option FieldType} {R2 : Room} {As rest : List PV} {key : KK} {K2 : (KK → Nat) → Option PV → (KK → Nat) → PH → Prop} (hM : kw_M l y cc2 nL2 ret2 R2 (pr_ key :: As) h K2) (hd : decode cc pc = .ok (.invokevirtual idx, 3)) (hC : kw_CV own idx y cc2 nL2 ret2 n)
    {ci N : Nat} {T : u_T} {fs : List PV} (hk : h key = some (.inr (ci, fs))) (hcl : vwCl[ci]? = some (y.cls, T, N)) (hn : As.length = n) (hst : st = As.reverse ++ pr_ key :: rest) (hrest : (rest.map kw_cat).sum ≤ 8) (hR : kw_Rm R R2 nL2 cells slots)
    {p : Program} {e : Env} {s : State} {m : MethodId} {args : Array Value} {below : List Frame} {meth : Method} {c : Code} {H : Heap} {locs : List Loc} {ls : Array Slot} (E : kw_Env cc lv.length own ret nm p s m args meth c) (hH : kw_H D s H ad h) (hl : kw_L ad ls lv) :
    va_Run p l e R s m args below meth c H locs cells slots R2.cells R2.slots (F0 m pc ls (st.map (kw_v ad))) (rest.map (kw_v ad)) (kw_Qc D (K2 ad) (kw_A ad h H.size) (Value.ref (ad key) :: As.map (kw_v ad)).toArray) (kw_A ad h H.size) := by
  obtain ⟨⟨c1, c2, c3, c4, c5⟩, c6, c7, c8⟩ := hC
  have hts := E.2.2.2.2.1
  obtain ⟨r, h1, cell, q1, q2, q3, -⟩ := hH.2.1 key _ hk
  refine va_runV (Ts := kw_tbl) (C := y.cls) (bytes := cc2) (maxL := nL2) (ret := ret2) (n := n) (As := As.map (kw_v ad)) (b := ad key) ⟨E.1, E.2.1, E.2.2.1, E.2.2.2.1, hts⟩ (hM D ad H.size) ⟨callB_of n hts (kw_goodIn c2) rfl rfl rfl (hts _ c1) (hts _ c6) ⟨c3, c4, c5⟩ ⟨hR.1, hR.2.1⟩, hts _ c7, hts _ c8⟩ ⟨kw_blind, ⟨cell, q1, by rw [q3]; rfl, ?_⟩, fun U hU hW => ⟨rfl, by rw [hU], by rw [hU]; exact hH.moved hW.alike, E.2.2.2.2.2.2.2.2.warm hW⟩⟩ rfl (by rw [List.length_map]; exact hn) hl.1 (by rw [hst]; simp [List.map_reverse]; rfl) (lv_room (by rw [kw_catsum]; exact hrest)) hd ⟨hR.2.2.1, hR.2.2.2⟩
  rw [q2]
  exact (hH.1.1 ci _ hcl).2.1
theorem kw_runS {idx n nL2 : Nat} {y : MethodName} {cc2 : ByteArray} {ret2 : Option FieldType} {R2 : Room} {As rest : List PV} {K2 : (KK → Nat) → Option PV → (KK → Nat) → PH → Prop} (hM : kw_M l y cc2 nL2 ret2 R2 As h K2) (hd : decode cc pc = .ok (.invokestatic idx, 3)) (hC : kw_CS own idx y cc2 nL2 ret2 n)
    (hn : As.length = n) (hst : st = As.reverse ++ rest) (hrest : (rest.map kw_cat).sum ≤ 8) (hR : kw_Rm R R2 nL2 cells slots)
    {p : Program} {e : Env} {s : State} {m : MethodId} {args : Array Value} {below : List Frame} {meth : Method} {c : Code} {H : Heap} {locs : List Loc} {ls : Array Slot} (E : kw_Env cc lv.length own ret nm p s m args meth c) (hH : kw_H D s H ad h) (hl : kw_L ad ls lv) :
    va_Run p l e R s m args below meth c H locs cells slots R2.cells R2.slots (F0 m pc ls (st.map (kw_v ad))) (rest.map (kw_v ad)) (kw_Qc D (K2 ad) (kw_A ad h H.size) (As.map (kw_v ad)).toArray) (kw_A ad h H.size) := by
  obtain ⟨⟨c1, c2, c3, c4, c5⟩, c6, c7⟩ := hC
  have hts := E.2.2.2.2.1
  exact va_runS (Ts := kw_tbl) (bytes := cc2) (maxL := nL2) (ret := ret2) (n := n) (As := As.map (kw_v ad)) ⟨E.1, E.2.1, E.2.2.1, E.2.2.2.1, hts⟩ (hM D ad H.size) ⟨callB_of n hts (kw_goodIn c2) rfl rfl rfl (hts _ c1) (hts _ c6) ⟨c3, c4, c5⟩ ⟨hR.1, hR.2.1⟩, hts _ c7⟩ ⟨kw_blind, fun U hU hW => ⟨rfl, by rw [hU], by rw [hU]; exact hH.moved hW.alike, E.2.2.2.2.2.2.2.2.warm hW⟩⟩ rfl (by rw [List.length_map]; exact hn) hl.1 (by rw [hst]; simp [List.map_reverse]) (lv_room (by rw [kw_catsum]; exact hrest)) hd ⟨hR.2.2.1, hR.2.2.2⟩
theorem kw_runI {idx n nL2 : Nat} {y : MethodName} {cc2 : ByteArray} {R2 : Room} {As rest : List PV} {key : KK} {K2 : (KK → Nat) → Option PV → (KK → Nat) → PH → Prop} (hM : kw_M l y cc2 nL2 none R2 (pr_ key :: As) h K2) (hd : decode cc pc = .ok (.invokespecial idx, 3)) (hC : kw_CI own idx y cc2 nL2 n)
    (hn : As.length = n) (hst : st = As.reverse ++ pr_ key :: rest) (hrest : (rest.map kw_cat).sum ≤ 8) (hR : kw_Rm R R2 nL2 cells slots)
    {p : Program} {e : Env} {s : State} {m : MethodId} {args : Array Value} {below : List Frame} {meth : Method} {c : Code} {H : Heap} {locs : List Loc} {ls : Array Slot} (E : kw_Env cc lv.length own ret nm p s m args meth c) (hH : kw_H D s H ad h) (hl : kw_L ad ls lv) :
    va_Run p l e R s m args below meth c H locs cells slots R2.cells R2.slots (F0 m pc ls (st.map (kw_v ad))) (rest.map (kw_v ad)) (kw_Qc D (K2 ad) (kw_A ad h H.size) (Value.ref (ad key) :: As.map (kw_v ad)).toArray) (kw_A ad h H.size) := by
  obtain ⟨⟨c1, c2, c3, c4, c5⟩, c6, c7, c8⟩ := hC
  have hts := E.2.2.2.2.1
  exact va_runI (Ts := kw_tbl) (bytes := cc2) (maxL := nL2) (n := n) (As := As.map (kw_v ad)) (b := ad key) ⟨E.1, E.2.1, E.2.2.1, E.2.2.2.1, hts⟩ (hM D ad H.size) ⟨callB_of n hts (kw_goodIn c2) rfl rfl rfl (hts _ c1) (hts _ c6) ⟨c3, c4, c5⟩ ⟨hR.1, hR.2.1⟩, c8, hts _ c7⟩ ⟨kw_blind, fun U hU hW => ⟨rfl, by rw [hU], by rw [hU]; exact hH.moved hW.alike, E.2.2.2.2.2.2.2.2.warm hW⟩⟩ rfl (by rw [List.length_map]; exact hn) hl.1 (by rw [hst]; simp [List.map_reverse]; rfl) (lv_room (by rw [kw_catsum]; exact hrest)) hd ⟨hR.2.2.1, hR.2.2.2⟩
theorem kw_runIN {idx n nL2 : Nat} {y : MethodName} {cc2 : ByteArray} {R2 : Room} {As rest : List PV} {key : KK} {host : String} {K2 : (KK → Nat) → Option PV → (KK → Nat) → PH → Prop} (hM : kw_M l y cc2 nL2 none R2 (pr_ key :: As) h K2) (hd : decode cc pc = .ok (.invokespecial idx, 3)) (hC : kw_CIN own idx y cc2 nL2 n host)
    (hn : As.length = n) (hst : st = As.reverse ++ pr_ key :: rest) (hrest : (rest.map kw_cat).sum ≤ 8) (hR : kw_Rm R R2 nL2 cells slots)
    {p : Program} {e : Env} {s : State} {m : MethodId} {args : Array Value} {below : List Frame} {meth : Method} {c : Code} {H : Heap} {locs : List Loc} {ls : Array Slot} (E : kw_Env cc lv.length own ret nm p s m args meth c) (hH : kw_H D s H ad h) (hl : kw_L ad ls lv) :
    va_Run p l e R s m args below meth c H locs cells slots R2.cells R2.slots (F0 m pc ls (st.map (kw_v ad))) (rest.map (kw_v ad)) (kw_Qc D (K2 ad) (kw_A ad h H.size) (Value.ref (ad key) :: As.map (kw_v ad)).toArray) (kw_A ad h H.size) := by
  obtain ⟨⟨c1, c2, c3, c4, c5⟩, c6, c7, c8⟩ := hC
  have hts := E.2.2.2.2.1
  exact va_runIN (Ts := kw_tbl) (bytes := cc2) (maxL := nL2) (n := n) (As := As.map (kw_v ad)) (b := ad key) ⟨E.1, E.2.1, E.2.2.1, E.2.2.2.1, hts⟩ (hM D ad H.size) ⟨va_cnB n hts (kw_goodIn c2) rfl rfl rfl (E.2.2.2.2.2.2.2.2.1 _ c6) (hts _ c1) ⟨c3, c4, c5⟩ ⟨hR.1, hR.2.1⟩, c8, hts _ c7⟩ ⟨kw_blind, fun U hU hW => ⟨rfl, by rw [hU], by rw [hU]; exact hH.moved hW.alike, E.2.2.2.2.2.2.2.2.warm hW⟩⟩ rfl (by rw [List.length_map]; exact hn) hl.1 (by rw [hst]; simp [List.map_reverse]; rfl) (lv_room (by rw [kw_catsum]; exact hrest)) hd ⟨hR.2.2.1, hR.2.2.2⟩
end KwCalls
end
section
/-! CALLS IN THE JUDGEMENT; NEW CELLS -/
def kw_alv (h : PH) (v : PV) : Prop := match v with
  | .inr (.inr (some k)) => h k ≠ none
  | _ => True
def kw_alo (h : PH) (v : Option PV) : Prop := match v with
  | some w => kw_alv h w
  | none => True
def kw_all {α : Type} (p : α → Prop) : List α → Prop
  | [] => True
  | a :: t => p a ∧ kw_all p t
theorem kw_all_get {α : Type} {p : α → Prop} : ∀ {l : List α} {i : Nat} {a : α}, kw_all p l → l[i]? = some a → p a
  | [], i, a, _, h => by simp at h
  | b :: t, 0, a, q, h => by simp at h; subst h; exact q.1
  | b :: t, i + 1, a, q, h => by simp at h; exact kw_all_get q.2 h
theorem kw_v_eq {ad ad' : KK → Nat} {h : PH} (he : ∀ k, h k ≠ none → ad' k = ad k) {v : PV} (hv : kw_alv h v) : kw_v ad' v = kw_v ad v := by
  rcases v with x | x | x
  · rfl
  · rfl
  · cases x with
    | none => rfl
    | some k => exact congrArg Value.ref (he k hv)
theorem kw_L.re {ad ad' : KK → Nat} {h : PH} (he : ∀ k, h k ≠ none → ad' k = ad k) {ls : Array Slot} {lv : List (Option PV)} (hv : kw_all (kw_alo h) lv) (x : kw_L ad ls lv) : kw_L ad' ls lv :=
  ⟨x.1, x.2.1, fun i v hi => by rw [kw_v_eq he (kw_all_get (p := kw_alo h) hv hi)]; exact x.2.2 i v hi⟩
theorem kw_map_re {ad ad' : KK → Nat} {h : PH} (he : ∀ k, h k ≠ none → ad' k = ad k) : ∀ {st : List PV}, kw_all (kw_alv h) st → st.map (kw_v ad') = st.map (kw_v ad)
  | [], _ => rfl
  | v :: t, q => by simp only [List.map_cons]; rw [kw_v_eq he q.1, kw_map_re he q.2]
section KwGlue
variable {l : Launch} {D : va_G} {cc : ByteArray} {own : String} {ret : Option FieldType} {nm : String} {R : Room} {A : Nat → Prop} {K : Option PV → (KK → Nat) → PH → Prop} {ad : KK → Nat} {h : PH} {cells slots pc : Nat} {lv : List (Option PV)} {st : List PV}
theorem kw_toList (ad : KK → Nat) (r : Option PV) (rest : List PV) : (r.map (kw_v ad)).toList ++ rest.map (kw_v ad) = (r.toList ++ rest).map (kw_v ad) := by cases r <;> rfl
theorem kw_callV {idx n nL2 : Nat} {y : MethodName} {cc2 : ByteArray} {ret2 : Option FieldType} {R2 : Room} {As rest : List PV} {key : KK} {P : Option PV → PH → Prop} (hM : kw_P l y cc2 nL2 ret2 R2 (pr_ key :: As) h P) (hd : decode cc pc = .ok (.invokevirtual idx, 3)) (hC : kw_CV own idx y cc2 nL2 ret2 n)
    {ci N : Nat} {T : u_T} {fs : List PV} (hk : h key = some (.inr (ci, fs))) (hcl : vwCl[ci]? = some (y.cls, T, N)) (hn : As.length = n) (hst : st = As.reverse ++ pr_ key :: rest) (hrest : (rest.map kw_cat).sum ≤ 8) (hR : kw_Rm R R2 nL2 cells slots)
    (k : ∀ (r : Option PV) (h' : PH), P r h' → kw_G l D cc own ret nm R A K ad h' (cells + R2.cells) (slots + R2.slots) (pc + 3) lv (r.toList ++ rest)) : kw_G l D cc own ret nm R A K ad h cells slots pc lv st := by
  intro p e s m args below meth c H locs ls E hH hA hS hB hl
  refine kw_after (kw_runV hM hd hC hk hcl hn hst hrest hR E hH hl) hS (kw_Ain hA hS hB) fun r ad1 h1 H1 locs1 hp hH1 hA1 hz hS1 => ?_
  obtain ⟨rfl, hp⟩ := hp
  rw [kw_toList]
  exact k r h1 hp p e s m args below meth c H1 locs1 ls E hH1 hA1 hS1 hB hl
theorem kw_callVf {idx n nL2 : Nat} {y : MethodName} {cc2 : ByteArray} {ret2 : Option FieldType} {R2 : Room} {As rest : List PV} {key : KK} {r0 : Option PV} {h0 : PH} (hM : kw_F l y cc2 nL2 ret2 R2 (pr_ key :: As) h r0 h0) (hd : decode cc pc = .ok (.invokevirtual idx, 3)) (hC : kw_CV own idx y cc2 nL2 ret2 n)
    {ci N : Nat} {T : u_T} {fs : List PV} (hk : h key = some (.inr (ci, fs))) (hcl : vwCl[ci]? = some (y.cls, T, N)) (hn : As.length = n) (hst : st = As.reverse ++ pr_ key :: rest) (hrest : (rest.map kw_cat).sum ≤ 8) (hR : kw_Rm R R2 nL2 cells slots)
    (k : kw_G l D cc own ret nm R A K ad h0 (cells + R2.cells) (slots + R2.slots) (pc + 3) lv (r0.toList ++ rest)) : kw_G l D cc own ret nm R A K ad h cells slots pc lv st :=
  kw_callV hM hd hC hk hcl hn hst hrest hR fun r h' q => by obtain ⟨rfl, rfl⟩ := q; exact k
theorem kw_callS {idx n nL2 : Nat} {y : MethodName} {cc2 : ByteArray} {ret2 : Option FieldType} {R2 : Room} {As rest : List PV} {P : Option PV → PH → Prop} (hM : kw_P l y cc2 nL2 ret2 R2 As h P) (hd : decode cc pc = .ok (.invokestatic idx, 3)) (hC : kw_CS own idx y cc2 nL2 ret2 n)
    (hn : As.length = n) (hst : st = As.reverse ++ rest) (hrest : (rest.map kw_cat).sum ≤ 8) (hR : kw_Rm R R2 nL2 cells slots)
    (k : ∀ (r : Option PV) (h' : PH), P r h' → kw_G l D cc own ret nm R A K ad h' (cells + R2.cells) (slots + R2.slots) (pc + 3) lv (r.toList ++ rest)) : kw_G l D cc own ret nm R A K ad h cells slots pc lv st := by
  intro p e s m args below meth c H locs ls E hH hA hS hB hl
  refine kw_after (kw_runS hM hd hC hn hst hrest hR E hH hl) hS (kw_Ain hA hS hB) fun r ad1 h1 H1 locs1 hp hH1 hA1 hz hS1 => ?_
  obtain ⟨rfl, hp⟩ := hp
  rw [kw_toList]
  exact k r h1 hp p e s m args below meth c H1 locs1 ls E hH1 hA1 hS1 hB hl
theorem kw_callSf {idx n nL2 : Nat} {y : MethodName} {cc2 : ByteArray} {ret2 : Option FieldType} {R2 : Room} {As rest : List PV} {r0 : Option PV} {h0 : PH} (hM : kw_F l y cc2 nL2 ret2 R2 As h r0 h0) (hd : decode cc pc = .ok (.invokestatic idx, 3)) (hC : kw_CS own idx y cc2 nL2 ret2 n)
    (hn : As.length = n) (hst : st = As.reverse ++ rest) (hrest : (rest.map kw_cat).sum ≤ 8) (hR : kw_Rm R R2 nL2 cells slots)
    (k : kw_G l D cc own ret nm R A K ad h0 (cells + R2.cells) (slots + R2.slots) (pc + 3) lv (r0.toList ++ rest)) : kw_G l D cc own ret nm R A K ad h cells slots pc lv st :=
  kw_callS hM hd hC hn hst hrest hR fun r h' q => by obtain ⟨rfl, rfl⟩ := q; exact k
/-- calls that make cells: the frame's own keys are there, and stay -/
theorem kw_callVq {idx n nL2 : Nat} {y : MethodName} {cc2 : ByteArray} {ret2 : Option FieldType} {R2 : Room} {As rest : List PV} {key : KK} {P : Option PV → PH → Prop} (hM : kw_Q l y cc2 nL2 ret2 R2 (pr_ key :: As) h P) (hd : decode cc pc = .ok (.invokevirtual idx, 3)) (hC : kw_CV own idx y cc2 nL2 ret2 n)
    {ci N : Nat} {T : u_T} {fs : List PV} (hk : h key = some (.inr (ci, fs))) (hcl : vwCl[ci]? = some (y.cls, T, N)) (hn : As.length = n) (hst : st = As.reverse ++ pr_ key :: rest) (hrest : (rest.map kw_cat).sum ≤ 8) (hR : kw_Rm R R2 nL2 cells slots) (hv : kw_all (kw_alo h) lv) (hv2 : kw_all (kw_alv h) rest)
    (k : ∀ (r : Option PV) (ad' : KK → Nat) (h' : PH), (∀ k, h k ≠ none → ad' k = ad k) → P r h' → kw_G l D cc own ret nm R A K ad' h' (cells + R2.cells) (slots + R2.slots) (pc + 3) lv (r.toList ++ rest)) : kw_G l D cc own ret nm R A K ad h cells slots pc lv st := by
  intro p e s m args below meth c H locs ls E hH hA hS hB hl
  refine kw_after (kw_runV hM hd hC hk hcl hn hst hrest hR E hH hl) hS (kw_Ain hA hS hB) fun r ad1 h1 H1 locs1 hp hH1 hA1 hz hS1 => ?_
  obtain ⟨he, hp⟩ := hp
  rw [← kw_map_re he hv2, kw_toList]
  exact k r ad1 h1 he hp p e s m args below meth c H1 locs1 ls E hH1 hA1 hS1 hB (hl.re he hv)
theorem kw_callSq {idx n nL2 : Nat} {y : MethodName} {cc2 : ByteArray} {ret2 : Option FieldType} {R2 : Room} {As rest : List PV} {P : Option PV → PH → Prop} (hM : kw_Q l y cc2 nL2 ret2 R2 As h P) (hd : decode cc pc = .ok (.invokestatic idx, 3)) (hC : kw_CS own idx y cc2 nL2 ret2 n)
    (hn : As.length = n) (hst : st = As.reverse ++ rest) (hrest : (rest.map kw_cat).sum ≤ 8) (hR : kw_Rm R R2 nL2 cells slots) (hv : kw_all (kw_alo h) lv) (hv2 : kw_all (kw_alv h) rest)
    (k : ∀ (r : Option PV) (ad' : KK → Nat) (h' : PH), (∀ k, h k ≠ none → ad' k = ad k) → P r h' → kw_G l D cc own ret nm R A K ad' h' (cells + R2.cells) (slots + R2.slots) (pc + 3) lv (r.toList ++ rest)) : kw_G l D cc own ret nm R A K ad h cells slots pc lv st := by
  intro p e s m args below meth c H locs ls E hH hA hS hB hl
  refine kw_after (kw_runS hM hd hC hn hst hrest hR E hH hl) hS (kw_Ain hA hS hB) fun r ad1 h1 H1 locs1 hp hH1 hA1 hz hS1 => ?_
  obtain ⟨he, hp⟩ := hp
  rw [← kw_map_re he hv2, kw_toList]
  exact k r ad1 h1 he hp p e s m args below meth c H1 locs1 ls E hH1 hA1 hS1 hB (hl.re he hv)
theorem kw_callIq {idx n nL2 : Nat} {y : MethodName} {cc2 : ByteArray} {R2 : Room} {As rest : List PV} {key : KK} {P : Option PV → PH → Prop} (hM : kw_Q l y cc2 nL2 none R2 (pr_ key :: As) h P) (hd : decode cc pc = .ok (.invokespecial idx, 3)) (hC : kw_CI own idx y cc2 nL2 n)
    (hn : As.length = n) (hst : st = As.reverse ++ pr_ key :: rest) (hrest : (rest.map kw_cat).sum ≤ 8) (hR : kw_Rm R R2 nL2 cells slots) (hv : kw_all (kw_alo h) lv) (hv2 : kw_all (kw_alv h) rest)
    (k : ∀ (r : Option PV) (ad' : KK → Nat) (h' : PH), (∀ k, h k ≠ none → ad' k = ad k) → P r h' → kw_G l D cc own ret nm R A K ad' h' (cells + R2.cells) (slots + R2.slots) (pc + 3) lv (r.toList ++ rest)) : kw_G l D cc own ret nm R A K ad h cells slots pc lv st := by
  intro p e s m args below meth c H locs ls E hH hA hS hB hl
  refine kw_after (kw_runI hM hd hC hn hst hrest hR E hH hl) hS (kw_Ain hA hS hB) fun r ad1 h1 H1 locs1 hp hH1 hA1 hz hS1 => ?_
  obtain ⟨he, hp⟩ := hp
  rw [← kw_map_re he hv2, kw_toList]
  exact k r ad1 h1 he hp p e s m args below meth c H1 locs1 ls E hH1 hA1 hS1 hB (hl.re he hv)
theorem kw_callINq {idx n nL2 : Nat} {y : MethodName} {cc2 : ByteArray} {R2 : Room} {As rest : List PV} {key : KK} {host : String} {P : Option PV → PH → Prop} (hM : kw_Q l y cc2 nL2 none R2 (pr_ key :: As) h P) (hd : decode cc pc = .ok (.invokespecial idx, 3)) (hC : kw_CIN own idx y cc2 nL2 n host)
    (hn : As.length = n) (hst : st = As.reverse ++ pr_ key :: rest) (hrest : (rest.map kw_cat).sum ≤ 8) (hR : kw_Rm R R2 nL2 cells slots) (hv : kw_all (kw_alo h) lv) (hv2 : kw_all (kw_alv h) rest)
    (k : ∀ (r : Option PV) (ad' : KK → Nat) (h' : PH), (∀ k, h k ≠ none → ad' k = ad k) → P r h' → kw_G l D cc own ret nm R A K ad' h' (cells + R2.cells) (slots + R2.slots) (pc + 3) lv (r.toList ++ rest)) : kw_G l D cc own ret nm R A K ad h cells slots pc lv st := by
  intro p e s m args below meth c H locs ls E hH hA hS hB hl
  refine kw_after (kw_runIN hM hd hC hn hst hrest hR E hH hl) hS (kw_Ain hA hS hB) fun r ad1 h1 H1 locs1 hp hH1 hA1 hz hS1 => ?_
  obtain ⟨he, hp⟩ := hp
  rw [← kw_map_re he hv2, kw_toList]
  exact k r ad1 h1 he hp p e s m args below meth c H1 locs1 ls E hH1 hA1 hS1 hB (hl.re he hv)
/-- Object's own constructor -/
theorem kw_objInit {idx : Nat} {x : KK} (hd : decode cc pc = .ok (.invokespecial idx, 3)) (h1 : Cond.methodLink own idx Lib.objectInit ∈ kw_tbl) (h2 : Cond.instanceMethod Lib.objectInit ∈ kw_tbl) (h3 : Cond.code Lib.objectInit ⟨#[0xb1]⟩ 1 none ∈ kw_tbl) (hf : 1 ≤ R.frames) (hlo : (st.map kw_cat).sum + 12 ≤ R.locals)
    (k : kw_G l D cc own ret nm R A K ad h cells slots (pc + 3) lv st) : kw_G l D cc own ret nm R A K ad h cells slots pc lv (pr_ x :: st) := by
  intro p e s m args below meth c H locs ls E hH hA hS hB hl
  refine W.objInit E.1 E.2.1 E.2.2.2.1 (E.2.2.2.2.1 _ h1) (E.2.2.2.2.1 _ h2) (E.2.2.2.2.1 _ h3) rfl (hl.1.trans E.2.2.1.symm) rfl hd hf ?_ (k p e s m args below meth c H locs ls E hH hA hS hB hl)
  have := kw_catsum ad st
  have hm : (F0 m pc ls (kw_v ad (pr_ x) :: st.map (kw_v ad))).monitorRoom = 0 := rfl
  show 2 * (F0 m pc ls (kw_v ad (pr_ x) :: st.map (kw_v ad))).monitorRoom + _ + 12 ≤ R.locals
  rw [hm, this]
  omega
/-- a new cell under a key that nothing names -/
def kw_nmv (k : KK) (v : PV) : Prop := match v with
  | .inr (.inr (some k')) => k' ≠ k
  | _ => True
def kw_nmc (k : KK) (c : PC) : Prop := match c with
  | .inl (_, n, .inr (.inr f)) => ∀ j, j < n → f j ≠ some k
  | .inl _ => True
  | .inr (_, fs) => ∀ v ∈ fs, kw_nmv k v
def kw_ad (ad : KK → Nat) (k : KK) (a : Nat) : KK → Nat := fun k' => if k' = k then a else ad k'
theorem kw_ad_s (ad : KK → Nat) (k : KK) (a : Nat) : kw_ad ad k a k = a := by simp [kw_ad]
theorem kw_ad_n (ad : KK → Nat) {k k' : KK} (a : Nat) (hn : k' ≠ k) : kw_ad ad k a k' = ad k' := by simp [kw_ad, hn]
theorem kw_v_ad {ad : KK → Nat} {k : KK} {a : Nat} {v : PV} (hv : kw_nmv k v) : kw_v (kw_ad ad k a) v = kw_v ad v := by
  rcases v with x | x | x
  · rfl
  · rfl
  · cases x with
    | none => rfl
    | some k' => exact congrArg Value.ref (kw_ad_n ad a hv)
theorem kw_at.adn {D : va_G} {U : State} {H : Heap} {ad : KK → Nat} {k k' : KK} {a : Nat} {c : PC} (hn : k' ≠ k) (hc : kw_nmc k c) (x : kw_at D U H ad k' c) : kw_at D U H (kw_ad ad k a) k' c := by
  match c, hc, x with
  | .inr (ci, fs), hc, x =>
    have e : fs.map (kw_v (kw_ad ad k a)) = fs.map (kw_v ad) := List.map_congr_left (fun v hv => kw_v_ad (hc v hv))
    show va_at D vwCl (kw_ad ad k a k', .inr (ci, fs.map (kw_v (kw_ad ad k a)))) H
    rw [e, kw_ad_n ad a hn]
    exact x
  | .inl (ty, n, .inl f), _, x =>
    obtain ⟨cA, h1, h2⟩ := x
    refine ⟨cA, ?_, h2⟩
    rw [kw_ad_n ad a hn]
    exact h1
  | .inl (ty, n, .inr (.inl f)), _, x =>
    obtain ⟨cA, h1, h2⟩ := x
    refine ⟨cA, ?_, h2⟩
    rw [kw_ad_n ad a hn]
    exact h1
  | .inl (ty, n, .inr (.inr f)), hc, x =>
    obtain ⟨cA, h1, h2⟩ := x
    refine ⟨cA, ?_, h2⟩
    rw [kw_ad_n ad a hn]
    show H[ad k']? = some (vp_cell cA (n, .inr (.inr (.inr (.inr (fun j => (f j).map (kw_ad ad k a)))))))
    have h1 : H[ad k']? = some (vp_cell cA (n, .inr (.inr (.inr (.inr (fun j => (f j).map ad)))))) := h1
    rw [h1, vp_cell_q, vp_cell_q]
    congr 1
    unfold arrV
    congr 1
    apply Array.ext
    · simp
    · intro j hj hj2
      simp only [Array.getElem_ofFn]
      have hjn : j < n := by simpa using hj
      congr 1
      cases hf : f j with
      | none => rfl
      | some q =>
        have hq : q ≠ k := fun z => hc j hjn (by rw [hf, z])
        show some (ad q) = some (kw_ad ad k a q)
        rw [kw_ad_n ad a hq]
theorem kw_H.new {D : va_G} {U : State} {H H1 : Heap} {ad : KK → Nat} {h : PH} {k : KK} {c : PC} (x : kw_H D U H ad h) (hk : h k = none) (hnm : ∀ k' c', h k' = some c' → kw_nmc k c') (ho : ∀ q : Nat, q < H.size → H1[q]? = H[q]?) (hc : kw_at D U H1 (kw_ad ad k H.size) k c) : kw_H D U H1 (kw_ad ad k H.size) (kw_up h k c) := by
  refine ⟨x.1, fun k' c' h' => ?_, fun k1 k2 h1 h2 he => ?_⟩
  · by_cases e : k' = k
    · subst e
      rw [kw_up_s] at h'
      cases h'
      exact hc
    · rw [kw_up_n _ _ e] at h'
      have := x.2.1 k' c' h'
      exact ((this.adn e (hnm k' c' h')).kept (by rw [kw_ad_n ad _ e]; exact ho _ this.lt))
  · by_cases e1 : k1 = k <;> by_cases e2 : k2 = k
    · rw [e1, e2]
    · exfalso
      rw [kw_up_n _ _ e2] at h2
      rw [e1, kw_ad_s, kw_ad_n ad _ e2] at he
      cases hq : h k2 with
      | none => exact h2 hq
      | some c2 => have := (x.2.1 k2 c2 hq).lt; omega
    · exfalso
      rw [kw_up_n _ _ e1] at h1
      rw [e2, kw_ad_s, kw_ad_n ad _ e1] at he
      cases hq : h k1 with
      | none => exact h1 hq
      | some c2 => have := (x.2.1 k1 c2 hq).lt; omega
    · rw [kw_up_n _ _ e1] at h1
      rw [kw_up_n _ _ e2] at h2
      rw [kw_ad_n ad _ e1, kw_ad_n ad _ e2] at he
      exact x.2.2 k1 k2 h1 h2 he
def kw_nmo (k : KK) (v : Option PV) : Prop := match v with
  | some w => kw_nmv k w
  | none => True
theorem kw_L.adn {ad : KK → Nat} {k : KK} {a : Nat} {ls : Array Slot} {lv : List (Option PV)} (hv : kw_all (kw_nmo k) lv) (x : kw_L ad ls lv) : kw_L (kw_ad ad k a) ls lv :=
  ⟨x.1, x.2.1, fun i v hi => by rw [kw_v_ad (kw_all_get (p := kw_nmo k) hv hi)]; exact x.2.2 i v hi⟩
theorem kw_map_ad {ad : KK → Nat} {k : KK} {a : Nat} : ∀ {st : List PV}, kw_all (kw_nmv k) st → st.map (kw_v (kw_ad ad k a)) = st.map (kw_v ad)
  | [], _ => rfl
  | v :: t, q => by simp only [List.map_cons]; rw [kw_v_ad q.1, kw_map_ad q.2]
theorem kw_hAn {A : Nat → Prop} {ad : KK → Nat} {h : PH} {k : KK} {c : PC} {a : Nat} (ha : A a) (hA : ∀ k, h k ≠ none → A (ad k)) : ∀ k', kw_up h k c k' ≠ none → A (kw_ad ad k a k') := by
  intro k' h1
  by_cases e : k' = k
  · subst e; rw [kw_ad_s]; exact ha
  · rw [kw_up_n _ _ e] at h1; rw [kw_ad_n ad _ e]; exact hA _ h1
theorem kw_new {idx ci N : Nat} {C : String} {T : u_T} {ty : Nat → FieldType} (key : KK) {fs : List PV} (hd : decode cc pc = .ok (.new idx, 3)) (hcd : kw_CD ci C T N ty) (hcl : Cond.classLink own idx C ∈ kw_tbl) (hins : Cond.instantiable C N ∈ kw_tbl) (hini : Cond.initialized C ∈ kw_tbl) (hfs : ∀ (ad : KK → Nat) (j : Nat), j < N → defaultValue (ty j) = vp_V (fs.map (kw_v ad)) j)
    (hk : h key = none) (hnm : ∀ k' c', h k' = some c' → kw_nmc key c') (hlv : kw_all (kw_nmo key) lv) (hst : kw_all (kw_nmv key) st) (hcells : cells + 1 ≤ R.cells) (hslots : slots + N ≤ R.slots)
    (k : ∀ a : Nat, kw_G l D cc own ret nm R A K (kw_ad ad key a) (kw_up h key (.inr (ci, fs))) (cells + 1) (slots + N) (pc + 3) lv (pr_ key :: st)) : kw_G l D cc own ret nm R A K ad h cells slots pc lv st := by
  intro p e s m args below meth c H locs ls E hH hA hS hB hl
  obtain ⟨hc, hin, hty, -, -⟩ := hcd
  have hts := E.2.2.2.2.1
  have hKn := hH.1.1 ci _ hc
  refine W.newcK E.1 E.2.1 E.2.2.2.1 (hts _ hcl) (hts _ hins) (hts _ hini) rfl hd hcells hslots hKn.2.1 rfl fun H1 kC hkC e1 z1 o1 => ?_
  have hb := (u_born ty hts hin hKn hkC e1 hty).to (hfs (kw_ad ad key H.size))
  have hw := k H.size p e s m args below meth c H1 locs ls E (hH.new hk hnm o1 ⟨_, hc, by rw [kw_ad_s]; exact hb⟩) (kw_hAn (hB _ hS.1) hA) ⟨Nat.le_trans hS.1 (by omega), fun x h1 h2 => (o1 x (Nat.lt_of_lt_of_le h1 hS.1)).trans (hS.2.1 x h1 h2), hS.2.2⟩ hB (hl.adn hlv)
  simp only [List.map_cons, kw_map_ad hst] at hw
  have e3 : kw_v (kw_ad ad key H.size) (pr_ key) = .ref H.size := congrArg Value.ref (kw_ad_s ad key H.size)
  rw [e3] at hw
  exact hw
/-- an array of numbers; kinds: .int, .long, .boolean -/
theorem kw_newarr {atype : ArrayType} {ty : FieldType} {n : Int32} {N : Nat} {x : PX} (key : KK) (hd : decode cc pc = .ok (.newarray atype, 2)) (hty : newarray.typeOf atype = ty) (hac : Cond.arrayClass ty ∈ kw_tbl) (hx : ∀ (ad : KK → Nat) (cA : ClassId), vp_cell cA (N, kw_x ad x) = arrV cA N (fun _ => defaultValue ty)) (hn : ¬ n < 0) (hN : n.toNatClampNeg = N) (hb : N * componentBytes ty ≤ 536870912) (hra : ∀ (U : State) (cA : ClassId), U.vm.findClass ("[" ++ ty.toString) = some cA → va_RA U cA ty)
    (hk : h key = none) (hnm : ∀ k' c', h k' = some c' → kw_nmc key c') (hlv : kw_all (kw_nmo key) lv) (hst : kw_all (kw_nmv key) st) (hcells : cells + 1 ≤ R.cells) (hslots : slots + N ≤ R.slots)
    (k : ∀ a : Nat, kw_G l D cc own ret nm R A K (kw_ad ad key a) (kw_up h key (.inl (ty, N, x))) (cells + 1) (slots + N) (pc + 2) lv (pr_ key :: st)) : kw_G l D cc own ret nm R A K ad h cells slots pc lv (pi_ n :: st) := by
  intro p e s m args below meth c H locs ls E hH hA hS hB hl
  subst hty
  refine va_newaK E.1 E.2.1 (E.2.2.2.2.1 _ hac) rfl hd rfl hn hN hb hcells hslots rfl fun H1 cA e1 z1 o1 hAr hNm => ?_
  have hw := k H.size p e s m args below meth c H1 locs ls E (hH.new hk hnm o1 ⟨cA, by rw [kw_ad_s]; show H1[H.size]? = some (vp_cell _ _); rw [hx]; exact e1, hAr, hra s cA hNm⟩) (kw_hAn (hB _ hS.1) hA) ⟨Nat.le_trans hS.1 (by omega), fun x h1 h2 => (o1 x (Nat.lt_of_lt_of_le h1 hS.1)).trans (hS.2.1 x h1 h2), hS.2.2⟩ hB (hl.adn hlv)
  simp only [List.map_cons, kw_map_ad hst] at hw
  have e3 : kw_v (kw_ad ad key H.size) (pr_ key) = .ref H.size := congrArg Value.ref (kw_ad_s ad key H.size)
  rw [e3] at hw
  exact hw
/-- an array of objects -/
theorem kw_anew {idx : Nat} {C : String} {n : Int32} {N : Nat} (key : KK) (hd : decode cc pc = .ok (.anewarray idx, 3)) (hcl : Cond.classLink own idx C ∈ kw_tbl) (hov : C ∈ kw_overs) (hn : ¬ n < 0) (hN : n.toNatClampNeg = N) (hb : N * 4 ≤ 536870912)
    (hk : h key = none) (hnm : ∀ k' c', h k' = some c' → kw_nmc key c') (hlv : kw_all (kw_nmo key) lv) (hst : kw_all (kw_nmv key) st) (hcells : cells + 1 ≤ R.cells) (hslots : slots + N ≤ R.slots)
    (k : ∀ a : Nat, kw_G l D cc own ret nm R A K (kw_ad ad key a) (kw_up h key (.inl (.object C, N, .inr (.inr (fun _ => none))))) (cells + 1) (slots + N) (pc + 3) lv (pr_ key :: st)) : kw_G l D cc own ret nm R A K ad h cells slots pc lv (pi_ n :: st) := by
  intro p e s m args below meth c H locs ls E hH hA hS hB hl
  subst hN
  refine W.anew E.1 E.2.1 E.2.2.2.1 (E.2.2.2.2.1 _ hcl) (va_AO.use (E.2.2.2.2.2.2.2.2.2 C hov)) rfl hd rfl hn hb hcells hslots fun cA kA comp f1 f2 f3 f4 => ?_
  generalize hH1 : H.push ({ cls := cA, slots := Array.replicate n.toNatClampNeg .null, vm := .none } : Cell) = H1
  have z1 : H1.size = H.size + 1 := by rw [← hH1, Array.size_push]
  have e1 : H1[H.size]? = some (arrV cA n.toNatClampNeg (fun _ => .null)) := by rw [← hH1, Array.getElem?_push_size, ← arrV_new]
  have o1 : ∀ q : Nat, q < H.size → H1[q]? = H[q]? := fun q hq => by rw [← hH1, Array.getElem?_push, if_neg (Nat.ne_of_lt hq)]
  have hAr : ArrOfT s cA (.object C) := fun N z => ⟨(fun k h => by cases h), kA, f2, comp, f3⟩
  have hw := k H.size p e s m args below meth c H1 locs ls E (hH.new hk hnm o1 ⟨cA, by rw [kw_ad_s]; exact e1, hAr, kA, comp, f2, f3, f4, f1⟩) (kw_hAn (hB _ hS.1) hA) ⟨Nat.le_trans hS.1 (by omega), fun x h1 h2 => (o1 x (Nat.lt_of_lt_of_le h1 hS.1)).trans (hS.2.1 x h1 h2), hS.2.2⟩ hB (hl.adn hlv)
  simp only [List.map_cons, kw_map_ad hst] at hw
  have e3 : kw_v (kw_ad ad key H.size) (pr_ key) = .ref H.size := congrArg Value.ref (kw_ad_s ad key H.size)
  rw [e3] at hw
  exact hw
end KwGlue
end
