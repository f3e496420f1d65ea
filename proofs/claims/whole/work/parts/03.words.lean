def kw_tbl : List Cond := lw_tbl.filter goodWord
theorem kts_1 {w : Cond} {i : Nat} (hi : tables_1_1[i]? = some w) (hg : goodWord w = true) : w ∈ kw_tbl := List.mem_filter.mpr ⟨List.mem_append_right _ (have h := List.mem_of_getElem? hi; List.mem_append_left _ h), hg⟩
theorem kts_2 {w : Cond} {i : Nat} (hi : tables_1_2[i]? = some w) (hg : goodWord w = true) : w ∈ kw_tbl := List.mem_filter.mpr ⟨List.mem_append_right _ (have h := List.mem_of_getElem? hi; List.mem_append_right _ (List.mem_append_left _ h)), hg⟩
theorem kts_3 {w : Cond} {i : Nat} (hi : tables_1_3[i]? = some w) (hg : goodWord w = true) : w ∈ kw_tbl := List.mem_filter.mpr ⟨List.mem_append_right _ (have h := List.mem_of_getElem? hi; List.mem_append_right _ (List.mem_append_right _ (List.mem_append_left _ h))), hg⟩
theorem kts_4 {w : Cond} {i : Nat} (hi : tables_1_4[i]? = some w) (hg : goodWord w = true) : w ∈ kw_tbl := List.mem_filter.mpr ⟨List.mem_append_right _ (have h := List.mem_of_getElem? hi; List.mem_append_right _ (List.mem_append_right _ (List.mem_append_right _ (List.mem_append_left _ h)))), hg⟩
theorem kts_5 {w : Cond} {i : Nat} (hi : tables_1_5[i]? = some w) (hg : goodWord w = true) : w ∈ kw_tbl := List.mem_filter.mpr ⟨List.mem_append_right _ (have h := List.mem_of_getElem? hi; List.mem_append_right _ (List.mem_append_right _ (List.mem_append_right _ (List.mem_append_right _ (List.mem_append_left _ h))))), hg⟩
theorem kts_6 {w : Cond} {i : Nat} (hi : tables_1_6[i]? = some w) (hg : goodWord w = true) : w ∈ kw_tbl := List.mem_filter.mpr ⟨List.mem_append_right _ (have h := List.mem_of_getElem? hi; List.mem_append_right _ (List.mem_append_right _ (List.mem_append_right _ (List.mem_append_right _ (List.mem_append_right _ (h)))))), hg⟩
set_option maxRecDepth 100000 in
theorem kt_0 : (Jvm.Cond.initialized "SafeSweepsLaw") ∈ kw_tbl := kts_1 (i := 0) rfl rfl
set_option maxRecDepth 100000 in
theorem kt_1 : (Jvm.Cond.initialized "SafeSweeps") ∈ kw_tbl := kts_1 (i := 1) rfl rfl
set_option maxRecDepth 100000 in
theorem kt_2 : (Jvm.Cond.initialized "SafeSweeps$Journal") ∈ kw_tbl := kts_1 (i := 2) rfl rfl
set_option maxRecDepth 100000 in
theorem kt_3 : (Jvm.Cond.initialized "SafeSweeps$Store") ∈ kw_tbl := kts_1 (i := 3) rfl rfl
set_option maxRecDepth 100000 in
theorem kt_4 : (Jvm.Cond.initialized "java/lang/Math") ∈ kw_tbl := kts_1 (i := 4) rfl rfl
set_option maxRecDepth 100000 in
theorem kt_5 : (Jvm.Cond.initialized "SafeSweeps$Sweep") ∈ kw_tbl := kts_1 (i := 5) rfl rfl
set_option maxRecDepth 100000 in
theorem kt_6 : (Jvm.Cond.initialized "SafeSweeps$Mover") ∈ kw_tbl := kts_1 (i := 6) rfl rfl
set_option maxRecDepth 100000 in
theorem kt_7 : (Jvm.Cond.initialized "SafeSweeps$Rules") ∈ kw_tbl := kts_1 (i := 7) rfl rfl
set_option maxRecDepth 100000 in
theorem kt_8 : (Jvm.Cond.initialized "SafeSweeps$Saver") ∈ kw_tbl := kts_1 (i := 8) rfl rfl
set_option maxRecDepth 100000 in
theorem kt_9 : (Jvm.Cond.initialized "SafeSweeps$Mirror") ∈ kw_tbl := kts_1 (i := 9) rfl rfl
set_option maxRecDepth 100000 in
theorem kt_10 : (Jvm.Cond.initialized "SafeSweepsModel") ∈ kw_tbl := kts_1 (i := 10) rfl rfl
set_option maxRecDepth 100000 in
theorem kt_11 : (Jvm.Cond.initialized "java/util/Arrays") ∈ kw_tbl := kts_1 (i := 11) rfl rfl
set_option maxRecDepth 100000 in
theorem kt_12 : (Jvm.Cond.initialized "java/lang/System") ∈ kw_tbl := kts_1 (i := 12) rfl rfl
set_option maxRecDepth 100000 in
theorem kt_13 : (Jvm.Cond.initialized "SafeSweeps$Block") ∈ kw_tbl := kts_1 (i := 13) rfl rfl
set_option maxRecDepth 100000 in
theorem kt_14 : (Jvm.Cond.initialized "SafeSweeps$Pack") ∈ kw_tbl := kts_1 (i := 14) rfl rfl
set_option maxRecDepth 100000 in
theorem kt_15 : (Jvm.Cond.initialized "SafeSweeps$Snapshot") ∈ kw_tbl := kts_1 (i := 15) rfl rfl
set_option maxRecDepth 100000 in
theorem kt_16 : (Jvm.Cond.initialized "SafeSweeps$Calendar") ∈ kw_tbl := kts_1 (i := 16) rfl rfl
set_option maxRecDepth 100000 in
theorem kt_17 : (Jvm.Cond.classLink "SafeSweepsLaw" (7 : Nat) "SafeSweeps") ∈ kw_tbl := kts_1 (i := 17) rfl rfl
set_option maxRecDepth 100000 in
theorem kt_18 : (Jvm.Cond.instantiable "SafeSweeps" (10 : Nat)) ∈ kw_tbl := kts_1 (i := 18) rfl rfl
set_option maxRecDepth 100000 in
theorem kt_19 : (Jvm.Cond.methodLink "SafeSweepsLaw" (15 : Nat) ({ cls := "SafeSweeps", name := "<init>", desc := "(I)V" } : Jvm.MethodName)) ∈ kw_tbl := kts_1 (i := 19) rfl rfl
set_option maxRecDepth 100000 in
theorem kt_20 : (Jvm.Cond.instanceMethod ({ cls := "SafeSweeps", name := "<init>", desc := "(I)V" } : Jvm.MethodName)) ∈ kw_tbl := kts_1 (i := 20) rfl rfl
set_option maxRecDepth 100000 in
theorem kt_21 : (Jvm.Cond.code ({ cls := "SafeSweeps", name := "<init>", desc := "(I)V" } : Jvm.MethodName) prog_1_method_1_code (3 : Nat) (Option.none : Option Jvm.ClassFile.FieldType)) ∈ kw_tbl := kts_1 (i := 21) rfl rfl
set_option maxRecDepth 100000 in
theorem kt_22 : (Jvm.Cond.methodLink "SafeSweeps" (1 : Nat) ({ cls := "java/lang/Object", name := "<init>", desc := "()V" } : Jvm.MethodName)) ∈ kw_tbl := kts_1 (i := 22) rfl rfl
set_option maxRecDepth 100000 in
theorem kt_23 : (Jvm.Cond.instanceMethod ({ cls := "java/lang/Object", name := "<init>", desc := "()V" } : Jvm.MethodName)) ∈ kw_tbl := kts_1 (i := 23) rfl rfl
set_option maxRecDepth 100000 in
theorem kt_24 : (Jvm.Cond.code ({ cls := "java/lang/Object", name := "<init>", desc := "()V" } : Jvm.MethodName) object_method_1_code (1 : Nat) (Option.none : Option Jvm.ClassFile.FieldType)) ∈ kw_tbl := kts_1 (i := 24) rfl rfl
set_option maxRecDepth 100000 in
theorem kt_25 : (Jvm.Cond.classLink "SafeSweeps" (7 : Nat) "SafeSweeps$Journal") ∈ kw_tbl := kts_1 (i := 25) rfl rfl
set_option maxRecDepth 100000 in
theorem kt_26 : (Jvm.Cond.instantiable "SafeSweeps$Journal" (6 : Nat)) ∈ kw_tbl := kts_1 (i := 26) rfl rfl
set_option maxRecDepth 100000 in
theorem kt_28 : (Jvm.Cond.instanceMethod ({ cls := "SafeSweeps$Journal", name := "<init>", desc := "()V" } : Jvm.MethodName)) ∈ kw_tbl := kts_1 (i := 28) rfl rfl
set_option maxRecDepth 100000 in
theorem kt_29 : (Jvm.Cond.code ({ cls := "SafeSweeps$Journal", name := "<init>", desc := "()V" } : Jvm.MethodName) prog_4_method_1_code (1 : Nat) (Option.none : Option Jvm.ClassFile.FieldType)) ∈ kw_tbl := kts_1 (i := 29) rfl rfl
set_option maxRecDepth 100000 in
theorem kt_30 : (Jvm.Cond.methodLink "SafeSweeps$Journal" (3 : Nat) ({ cls := "java/lang/Object", name := "<init>", desc := "()V" } : Jvm.MethodName)) ∈ kw_tbl := kts_1 (i := 30) rfl rfl
set_option maxRecDepth 100000 in
theorem kt_31 : (Jvm.Cond.fieldLink "SafeSweeps$Journal" (11 : Nat) "SafeSweeps$Journal" "events" "[I") ∈ kw_tbl := kts_1 (i := 31) rfl rfl
set_option maxRecDepth 100000 in
theorem kt_32 : (Jvm.Cond.fieldLink "SafeSweeps$Mirror" (33 : Nat) "SafeSweeps$Journal" "events" "[I") ∈ kw_tbl := kts_1 (i := 32) rfl rfl
set_option maxRecDepth 100000 in
theorem kt_33 : (Jvm.Cond.fieldLink "SafeSweeps$Journal" (15 : Nat) "SafeSweeps$Journal" "numbers" "[I") ∈ kw_tbl := kts_1 (i := 33) rfl rfl
set_option maxRecDepth 100000 in
theorem kt_34 : (Jvm.Cond.fieldLink "SafeSweeps$Mirror" (37 : Nat) "SafeSweeps$Journal" "numbers" "[I") ∈ kw_tbl := kts_1 (i := 34) rfl rfl
set_option maxRecDepth 100000 in
theorem kt_35 : (Jvm.Cond.fieldLink "SafeSweeps$Mirror" (18 : Nat) "SafeSweeps$Journal" "length" "I") ∈ kw_tbl := kts_1 (i := 35) rfl rfl
set_option maxRecDepth 100000 in
theorem kt_36 : (Jvm.Cond.fieldLink "SafeSweeps$Journal" (33 : Nat) "SafeSweeps$Journal" "length" "I") ∈ kw_tbl := kts_1 (i := 36) rfl rfl
set_option maxRecDepth 100000 in
theorem kt_37 : (Jvm.Cond.fieldLink "SafeSweeps" (271 : Nat) "SafeSweeps$Journal" "length" "I") ∈ kw_tbl := kts_1 (i := 37) rfl rfl
set_option maxRecDepth 100000 in
theorem kt_38 : (Jvm.Cond.fieldLink "SafeSweeps$Journal" (26 : Nat) "SafeSweeps$Journal" "writes" "I") ∈ kw_tbl := kts_1 (i := 38) rfl rfl
set_option maxRecDepth 100000 in
theorem kt_39 : (Jvm.Cond.fieldLink "SafeSweeps" (292 : Nat) "SafeSweeps$Journal" "writes" "I") ∈ kw_tbl := kts_1 (i := 39) rfl rfl
set_option maxRecDepth 100000 in
theorem kt_40 : (Jvm.Cond.fieldLink "SafeSweeps$Journal" (18 : Nat) "SafeSweeps$Journal" "writesLeft" "I") ∈ kw_tbl := kts_1 (i := 40) rfl rfl
set_option maxRecDepth 100000 in
theorem kt_41 : (Jvm.Cond.fieldLink "SafeSweeps" (261 : Nat) "SafeSweeps$Journal" "writesLeft" "I") ∈ kw_tbl := kts_1 (i := 41) rfl rfl
set_option maxRecDepth 100000 in
theorem kt_42 : (Jvm.Cond.fieldLink "SafeSweeps" (80 : Nat) "SafeSweeps$Journal" "down" "Z") ∈ kw_tbl := kts_1 (i := 42) rfl rfl
set_option maxRecDepth 100000 in
theorem kt_43 : (Jvm.Cond.fieldLink "SafeSweeps$Journal" (22 : Nat) "SafeSweeps$Journal" "down" "Z") ∈ kw_tbl := kts_1 (i := 43) rfl rfl
set_option maxRecDepth 100000 in
theorem kt_44 : (Jvm.Cond.laysFinal "SafeSweeps$Journal" "SafeSweeps$Journal" "events" "[I") ∈ kw_tbl := kts_1 (i := 44) rfl rfl
set_option maxRecDepth 100000 in
theorem kt_46 : (Jvm.Cond.laysFinal "SafeSweeps$Journal" "SafeSweeps$Journal" "numbers" "[I") ∈ kw_tbl := kts_1 (i := 46) rfl rfl
set_option maxRecDepth 100000 in
theorem kt_48 : (Jvm.Cond.lays "SafeSweeps$Journal" "SafeSweeps$Journal" "length" "I") ∈ kw_tbl := kts_1 (i := 48) rfl rfl
set_option maxRecDepth 100000 in
theorem kt_50 : (Jvm.Cond.lays "SafeSweeps$Journal" "SafeSweeps$Journal" "writes" "I") ∈ kw_tbl := kts_1 (i := 50) rfl rfl
set_option maxRecDepth 100000 in
theorem kt_52 : (Jvm.Cond.lays "SafeSweeps$Journal" "SafeSweeps$Journal" "writesLeft" "I") ∈ kw_tbl := kts_1 (i := 52) rfl rfl
set_option maxRecDepth 100000 in
theorem kt_54 : (Jvm.Cond.lays "SafeSweeps$Journal" "SafeSweeps$Journal" "down" "Z") ∈ kw_tbl := kts_1 (i := 54) rfl rfl
set_option maxRecDepth 100000 in
theorem kt_57 : (Jvm.Cond.arrayClass Jvm.ClassFile.FieldType.int) ∈ kw_tbl := kts_1 (i := 57) rfl rfl
set_option maxRecDepth 100000 in
theorem kt_58 : (Jvm.Cond.classLink "SafeSweeps" (16 : Nat) "SafeSweeps$Store") ∈ kw_tbl := kts_1 (i := 58) rfl rfl
set_option maxRecDepth 100000 in
theorem kt_59 : (Jvm.Cond.instantiable "SafeSweeps$Store" (10 : Nat)) ∈ kw_tbl := kts_1 (i := 59) rfl rfl
set_option maxRecDepth 100000 in
theorem kt_60 : (Jvm.Cond.methodLink "SafeSweeps" (18 : Nat) ({ cls := "java/lang/Math", name := "min", desc := "(II)I" } : Jvm.MethodName)) ∈ kw_tbl := kts_1 (i := 60) rfl rfl
set_option maxRecDepth 100000 in
theorem kt_61 : (Jvm.Cond.static ({ cls := "java/lang/Math", name := "min", desc := "(II)I" } : Jvm.MethodName)) ∈ kw_tbl := kts_1 (i := 61) rfl rfl
set_option maxRecDepth 100000 in
theorem kt_62 : (Jvm.Cond.code ({ cls := "java/lang/Math", name := "min", desc := "(II)I" } : Jvm.MethodName) prog_16_method_69_code (2 : Nat) (Option.some Jvm.ClassFile.FieldType.int)) ∈ kw_tbl := kts_1 (i := 62) rfl rfl
set_option maxRecDepth 100000 in
theorem kt_63 : (Jvm.Cond.methodLink "SafeSweeps" (24 : Nat) ({ cls := "java/lang/Math", name := "max", desc := "(II)I" } : Jvm.MethodName)) ∈ kw_tbl := kts_1 (i := 63) rfl rfl
set_option maxRecDepth 100000 in
theorem kt_64 : (Jvm.Cond.static ({ cls := "java/lang/Math", name := "max", desc := "(II)I" } : Jvm.MethodName)) ∈ kw_tbl := kts_1 (i := 64) rfl rfl
set_option maxRecDepth 100000 in
theorem kt_65 : (Jvm.Cond.code ({ cls := "java/lang/Math", name := "max", desc := "(II)I" } : Jvm.MethodName) prog_16_method_65_code (2 : Nat) (Option.some Jvm.ClassFile.FieldType.int)) ∈ kw_tbl := kts_1 (i := 65) rfl rfl
set_option maxRecDepth 100000 in
theorem kt_66 : (Jvm.Cond.methodLink "SafeSweeps" (27 : Nat) ({ cls := "SafeSweeps$Store", name := "<init>", desc := "(ILSafeSweeps$Journal;)V" } : Jvm.MethodName)) ∈ kw_tbl := kts_1 (i := 66) rfl rfl
set_option maxRecDepth 100000 in
theorem kt_67 : (Jvm.Cond.instanceMethod ({ cls := "SafeSweeps$Store", name := "<init>", desc := "(ILSafeSweeps$Journal;)V" } : Jvm.MethodName)) ∈ kw_tbl := kts_1 (i := 67) rfl rfl
set_option maxRecDepth 100000 in
theorem kt_68 : (Jvm.Cond.code ({ cls := "SafeSweeps$Store", name := "<init>", desc := "(ILSafeSweeps$Journal;)V" } : Jvm.MethodName) prog_11_method_1_code (3 : Nat) (Option.none : Option Jvm.ClassFile.FieldType)) ∈ kw_tbl := kts_1 (i := 68) rfl rfl
set_option maxRecDepth 100000 in
theorem kt_69 : (Jvm.Cond.methodLink "SafeSweeps$Store" (3 : Nat) ({ cls := "java/lang/Object", name := "<init>", desc := "()V" } : Jvm.MethodName)) ∈ kw_tbl := kts_1 (i := 69) rfl rfl
set_option maxRecDepth 100000 in
theorem kt_70 : (Jvm.Cond.classLink "SafeSweeps$Store" (9 : Nat) "SafeSweeps$Block") ∈ kw_tbl := kts_1 (i := 70) rfl rfl
set_option maxRecDepth 100000 in
theorem kt_72 : (Jvm.Cond.classLink "SafeSweeps$Store" (17 : Nat) "SafeSweeps$Pack") ∈ kw_tbl := kts_1 (i := 72) rfl rfl
set_option maxRecDepth 100000 in
theorem kt_74 : (Jvm.Cond.fieldLink "SafeSweeps$Store" (27 : Nat) "SafeSweeps$Store" "capacity" "I") ∈ kw_tbl := kts_1 (i := 74) rfl rfl
set_option maxRecDepth 100000 in
theorem kt_75 : (Jvm.Cond.fieldLink "SafeSweeps" (116 : Nat) "SafeSweeps$Store" "capacity" "I") ∈ kw_tbl := kts_1 (i := 75) rfl rfl
set_option maxRecDepth 100000 in
theorem kt_76 : (Jvm.Cond.fieldLink "SafeSweeps$Mover" (96 : Nat) "SafeSweeps$Store" "capacity" "I") ∈ kw_tbl := kts_1 (i := 76) rfl rfl
set_option maxRecDepth 100000 in
theorem kt_77 : (Jvm.Cond.fieldLink "SafeSweeps$Store" (31 : Nat) "SafeSweeps$Store" "journal" "LSafeSweeps$Journal;") ∈ kw_tbl := kts_1 (i := 77) rfl rfl
set_option maxRecDepth 100000 in
theorem kt_78 : (Jvm.Cond.fieldLink "SafeSweeps$Store" (11 : Nat) "SafeSweeps$Store" "blocks" "[LSafeSweeps$Block;") ∈ kw_tbl := kts_1 (i := 78) rfl rfl
set_option maxRecDepth 100000 in
theorem kt_79 : (Jvm.Cond.fieldLink "SafeSweeps$Sweep" (52 : Nat) "SafeSweeps$Store" "blocks" "[LSafeSweeps$Block;") ∈ kw_tbl := kts_1 (i := 79) rfl rfl
set_option maxRecDepth 100000 in
theorem kt_80 : (Jvm.Cond.fieldLink "SafeSweeps$Mover" (77 : Nat) "SafeSweeps$Store" "blocks" "[LSafeSweeps$Block;") ∈ kw_tbl := kts_1 (i := 80) rfl rfl
set_option maxRecDepth 100000 in
theorem kt_81 : (Jvm.Cond.fieldLink "SafeSweeps" (298 : Nat) "SafeSweeps$Store" "blocks" "[LSafeSweeps$Block;") ∈ kw_tbl := kts_1 (i := 81) rfl rfl
set_option maxRecDepth 100000 in
theorem kt_82 : (Jvm.Cond.fieldLink "SafeSweeps$Store" (19 : Nat) "SafeSweeps$Store" "packs" "[LSafeSweeps$Pack;") ∈ kw_tbl := kts_1 (i := 82) rfl rfl
set_option maxRecDepth 100000 in
theorem kt_83 : (Jvm.Cond.fieldLink "SafeSweeps$Mover" (29 : Nat) "SafeSweeps$Store" "packs" "[LSafeSweeps$Pack;") ∈ kw_tbl := kts_1 (i := 83) rfl rfl
set_option maxRecDepth 100000 in
theorem kt_84 : (Jvm.Cond.fieldLink "SafeSweeps" (329 : Nat) "SafeSweeps$Store" "packs" "[LSafeSweeps$Pack;") ∈ kw_tbl := kts_1 (i := 84) rfl rfl
set_option maxRecDepth 100000 in
theorem kt_85 : (Jvm.Cond.fieldLink "SafeSweeps$Store" (23 : Nat) "SafeSweeps$Store" "reached" "[Z") ∈ kw_tbl := kts_1 (i := 85) rfl rfl
set_option maxRecDepth 100000 in
theorem kt_86 : (Jvm.Cond.fieldLink "SafeSweeps$Store" (35 : Nat) "SafeSweeps$Store" "blocksMade" "I") ∈ kw_tbl := kts_1 (i := 86) rfl rfl
set_option maxRecDepth 100000 in
theorem kt_87 : (Jvm.Cond.fieldLink "SafeSweeps$Sweep" (44 : Nat) "SafeSweeps$Store" "blocksMade" "I") ∈ kw_tbl := kts_1 (i := 87) rfl rfl
set_option maxRecDepth 100000 in
theorem kt_88 : (Jvm.Cond.fieldLink "SafeSweeps$Mover" (67 : Nat) "SafeSweeps$Store" "blocksMade" "I") ∈ kw_tbl := kts_1 (i := 88) rfl rfl
set_option maxRecDepth 100000 in
theorem kt_89 : (Jvm.Cond.fieldLink "SafeSweeps" (277 : Nat) "SafeSweeps$Store" "blocksMade" "I") ∈ kw_tbl := kts_1 (i := 89) rfl rfl
set_option maxRecDepth 100000 in
theorem kt_90 : (Jvm.Cond.fieldLink "SafeSweeps$Store" (91 : Nat) "SafeSweeps$Store" "blocksFreed" "I") ∈ kw_tbl := kts_1 (i := 90) rfl rfl
set_option maxRecDepth 100000 in
theorem kt_91 : (Jvm.Cond.fieldLink "SafeSweeps" (280 : Nat) "SafeSweeps$Store" "blocksFreed" "I") ∈ kw_tbl := kts_1 (i := 91) rfl rfl
set_option maxRecDepth 100000 in
theorem kt_92 : (Jvm.Cond.fieldLink "SafeSweeps$Store" (112 : Nat) "SafeSweeps$Store" "blocksRevived" "I") ∈ kw_tbl := kts_1 (i := 92) rfl rfl
set_option maxRecDepth 100000 in
theorem kt_93 : (Jvm.Cond.fieldLink "SafeSweeps" (295 : Nat) "SafeSweeps$Store" "blocksRevived" "I") ∈ kw_tbl := kts_1 (i := 93) rfl rfl
set_option maxRecDepth 100000 in
theorem kt_94 : (Jvm.Cond.fieldLink "SafeSweeps$Mover" (86 : Nat) "SafeSweeps$Store" "packsMade" "I") ∈ kw_tbl := kts_1 (i := 94) rfl rfl
set_option maxRecDepth 100000 in
theorem kt_95 : (Jvm.Cond.fieldLink "SafeSweeps$Store" (56 : Nat) "SafeSweeps$Store" "packsMade" "I") ∈ kw_tbl := kts_1 (i := 95) rfl rfl
set_option maxRecDepth 100000 in
theorem kt_96 : (Jvm.Cond.fieldLink "SafeSweeps$Sweep" (88 : Nat) "SafeSweeps$Store" "packsMade" "I") ∈ kw_tbl := kts_1 (i := 96) rfl rfl
set_option maxRecDepth 100000 in
theorem kt_97 : (Jvm.Cond.fieldLink "SafeSweeps" (283 : Nat) "SafeSweeps$Store" "packsMade" "I") ∈ kw_tbl := kts_1 (i := 97) rfl rfl
set_option maxRecDepth 100000 in
theorem kt_98 : (Jvm.Cond.fieldLink "SafeSweeps$Mover" (103 : Nat) "SafeSweeps$Store" "packsPackedAnew" "I") ∈ kw_tbl := kts_1 (i := 98) rfl rfl
set_option maxRecDepth 100000 in
theorem kt_99 : (Jvm.Cond.fieldLink "SafeSweeps" (286 : Nat) "SafeSweeps$Store" "packsPackedAnew" "I") ∈ kw_tbl := kts_1 (i := 99) rfl rfl
set_option maxRecDepth 100000 in
theorem kt_100 : (Jvm.Cond.laysFinal "SafeSweeps$Store" "SafeSweeps$Store" "capacity" "I") ∈ kw_tbl := kts_1 (i := 100) rfl rfl
set_option maxRecDepth 100000 in
theorem kt_102 : (Jvm.Cond.laysFinal "SafeSweeps$Store" "SafeSweeps$Store" "journal" "LSafeSweeps$Journal;") ∈ kw_tbl := kts_1 (i := 102) rfl rfl
set_option maxRecDepth 100000 in
theorem kt_104 : (Jvm.Cond.laysFinal "SafeSweeps$Store" "SafeSweeps$Store" "blocks" "[LSafeSweeps$Block;") ∈ kw_tbl := kts_1 (i := 104) rfl rfl
set_option maxRecDepth 100000 in
theorem kt_106 : (Jvm.Cond.laysFinal "SafeSweeps$Store" "SafeSweeps$Store" "packs" "[LSafeSweeps$Pack;") ∈ kw_tbl := kts_1 (i := 106) rfl rfl
set_option maxRecDepth 100000 in
theorem kt_108 : (Jvm.Cond.laysFinal "SafeSweeps$Store" "SafeSweeps$Store" "reached" "[Z") ∈ kw_tbl := kts_1 (i := 108) rfl rfl
set_option maxRecDepth 100000 in
theorem kt_110 : (Jvm.Cond.lays "SafeSweeps$Store" "SafeSweeps$Store" "blocksMade" "I") ∈ kw_tbl := kts_1 (i := 110) rfl rfl
set_option maxRecDepth 100000 in
theorem kt_112 : (Jvm.Cond.lays "SafeSweeps$Store" "SafeSweeps$Store" "blocksFreed" "I") ∈ kw_tbl := kts_1 (i := 112) rfl rfl
set_option maxRecDepth 100000 in
theorem kt_114 : (Jvm.Cond.lays "SafeSweeps$Store" "SafeSweeps$Store" "blocksRevived" "I") ∈ kw_tbl := kts_1 (i := 114) rfl rfl
set_option maxRecDepth 100000 in
theorem kt_116 : (Jvm.Cond.lays "SafeSweeps$Store" "SafeSweeps$Store" "packsMade" "I") ∈ kw_tbl := kts_1 (i := 116) rfl rfl
set_option maxRecDepth 100000 in
theorem kt_118 : (Jvm.Cond.lays "SafeSweeps$Store" "SafeSweeps$Store" "packsPackedAnew" "I") ∈ kw_tbl := kts_1 (i := 118) rfl rfl
set_option maxRecDepth 100000 in
theorem kt_121 : (Jvm.Cond.arrayClass Jvm.ClassFile.FieldType.boolean) ∈ kw_tbl := kts_1 (i := 121) rfl rfl
set_option maxRecDepth 100000 in
theorem kt_122 : (Jvm.Cond.classLink "SafeSweeps" (34 : Nat) "SafeSweeps$Sweep") ∈ kw_tbl := kts_1 (i := 122) rfl rfl
set_option maxRecDepth 100000 in
theorem kt_123 : (Jvm.Cond.instantiable "SafeSweeps$Sweep" (11 : Nat)) ∈ kw_tbl := kts_1 (i := 123) rfl rfl
set_option maxRecDepth 100000 in
theorem kt_124 : (Jvm.Cond.methodLink "SafeSweeps" (36 : Nat) ({ cls := "SafeSweeps$Sweep", name := "<init>", desc := "(LSafeSweeps$Store;LSafeSweeps$Journal;)V" } : Jvm.MethodName)) ∈ kw_tbl := kts_1 (i := 124) rfl rfl
set_option maxRecDepth 100000 in
theorem kt_125 : (Jvm.Cond.instanceMethod ({ cls := "SafeSweeps$Sweep", name := "<init>", desc := "(LSafeSweeps$Store;LSafeSweeps$Journal;)V" } : Jvm.MethodName)) ∈ kw_tbl := kts_1 (i := 125) rfl rfl
set_option maxRecDepth 100000 in
theorem kt_126 : (Jvm.Cond.code ({ cls := "SafeSweeps$Sweep", name := "<init>", desc := "(LSafeSweeps$Store;LSafeSweeps$Journal;)V" } : Jvm.MethodName) prog_12_method_1_code (3 : Nat) (Option.none : Option Jvm.ClassFile.FieldType)) ∈ kw_tbl := kts_1 (i := 126) rfl rfl
set_option maxRecDepth 100000 in
theorem kt_127 : (Jvm.Cond.methodLink "SafeSweeps$Sweep" (3 : Nat) ({ cls := "java/lang/Object", name := "<init>", desc := "()V" } : Jvm.MethodName)) ∈ kw_tbl := kts_1 (i := 127) rfl rfl
set_option maxRecDepth 100000 in
theorem kt_128 : (Jvm.Cond.classLink "SafeSweeps$Sweep" (23 : Nat) "SafeSweeps$Mover") ∈ kw_tbl := kts_1 (i := 128) rfl rfl
set_option maxRecDepth 100000 in
theorem kt_129 : (Jvm.Cond.instantiable "SafeSweeps$Mover" (6 : Nat)) ∈ kw_tbl := kts_1 (i := 129) rfl rfl
set_option maxRecDepth 100000 in
theorem kt_130 : (Jvm.Cond.methodLink "SafeSweeps$Sweep" (25 : Nat) ({ cls := "SafeSweeps$Mover", name := "<init>", desc := "(LSafeSweeps$Store;LSafeSweeps$Journal;)V" } : Jvm.MethodName)) ∈ kw_tbl := kts_1 (i := 130) rfl rfl
set_option maxRecDepth 100000 in
theorem kt_131 : (Jvm.Cond.instanceMethod ({ cls := "SafeSweeps$Mover", name := "<init>", desc := "(LSafeSweeps$Store;LSafeSweeps$Journal;)V" } : Jvm.MethodName)) ∈ kw_tbl := kts_1 (i := 131) rfl rfl
set_option maxRecDepth 100000 in
theorem kt_132 : (Jvm.Cond.code ({ cls := "SafeSweeps$Mover", name := "<init>", desc := "(LSafeSweeps$Store;LSafeSweeps$Journal;)V" } : Jvm.MethodName) prog_6_method_1_code (3 : Nat) (Option.none : Option Jvm.ClassFile.FieldType)) ∈ kw_tbl := kts_1 (i := 132) rfl rfl
set_option maxRecDepth 100000 in
theorem kt_133 : (Jvm.Cond.methodLink "SafeSweeps$Mover" (3 : Nat) ({ cls := "java/lang/Object", name := "<init>", desc := "()V" } : Jvm.MethodName)) ∈ kw_tbl := kts_1 (i := 133) rfl rfl
set_option maxRecDepth 100000 in
theorem kt_134 : (Jvm.Cond.fieldLink "SafeSweeps$Mover" (21 : Nat) "SafeSweeps$Mover" "store" "LSafeSweeps$Store;") ∈ kw_tbl := kts_1 (i := 134) rfl rfl
set_option maxRecDepth 100000 in
theorem kt_135 : (Jvm.Cond.fieldLink "SafeSweeps$Mover" (25 : Nat) "SafeSweeps$Mover" "journal" "LSafeSweeps$Journal;") ∈ kw_tbl := kts_1 (i := 135) rfl rfl
set_option maxRecDepth 100000 in
theorem kt_136 : (Jvm.Cond.fieldLink "SafeSweeps$Mover" (9 : Nat) "SafeSweeps$Mover" "moved" "[I") ∈ kw_tbl := kts_1 (i := 136) rfl rfl
set_option maxRecDepth 100000 in
theorem kt_137 : (Jvm.Cond.fieldLink "SafeSweeps$Mover" (15 : Nat) "SafeSweeps$Mover" "packs" "[I") ∈ kw_tbl := kts_1 (i := 137) rfl rfl
set_option maxRecDepth 100000 in
theorem kt_138 : (Jvm.Cond.fieldLink "SafeSweeps$Mover" (18 : Nat) "SafeSweeps$Mover" "places" "[I") ∈ kw_tbl := kts_1 (i := 138) rfl rfl
set_option maxRecDepth 100000 in
theorem kt_139 : (Jvm.Cond.fieldLink "SafeSweeps$Mover" (55 : Nat) "SafeSweeps$Mover" "length" "I") ∈ kw_tbl := kts_1 (i := 139) rfl rfl
set_option maxRecDepth 100000 in
theorem kt_140 : (Jvm.Cond.laysFinal "SafeSweeps$Mover" "SafeSweeps$Mover" "store" "LSafeSweeps$Store;") ∈ kw_tbl := kts_1 (i := 140) rfl rfl
set_option maxRecDepth 100000 in
theorem kt_142 : (Jvm.Cond.laysFinal "SafeSweeps$Mover" "SafeSweeps$Mover" "journal" "LSafeSweeps$Journal;") ∈ kw_tbl := kts_1 (i := 142) rfl rfl
set_option maxRecDepth 100000 in
theorem kt_144 : (Jvm.Cond.laysFinal "SafeSweeps$Mover" "SafeSweeps$Mover" "moved" "[I") ∈ kw_tbl := kts_1 (i := 144) rfl rfl
set_option maxRecDepth 100000 in
theorem kt_146 : (Jvm.Cond.laysFinal "SafeSweeps$Mover" "SafeSweeps$Mover" "packs" "[I") ∈ kw_tbl := kts_1 (i := 146) rfl rfl
set_option maxRecDepth 100000 in
theorem kt_148 : (Jvm.Cond.laysFinal "SafeSweeps$Mover" "SafeSweeps$Mover" "places" "[I") ∈ kw_tbl := kts_1 (i := 148) rfl rfl
set_option maxRecDepth 100000 in
theorem kt_150 : (Jvm.Cond.lays "SafeSweeps$Mover" "SafeSweeps$Mover" "length" "I") ∈ kw_tbl := kts_1 (i := 150) rfl rfl
set_option maxRecDepth 100000 in
theorem kt_153 : (Jvm.Cond.fieldLink "SafeSweeps$Sweep" (19 : Nat) "SafeSweeps$Sweep" "store" "LSafeSweeps$Store;") ∈ kw_tbl := kts_1 (i := 153) rfl rfl
set_option maxRecDepth 100000 in
theorem kt_154 : (Jvm.Cond.fieldLink "SafeSweeps$Sweep" (28 : Nat) "SafeSweeps$Sweep" "mover" "LSafeSweeps$Mover;") ∈ kw_tbl := kts_1 (i := 154) rfl rfl
set_option maxRecDepth 100000 in
theorem kt_155 : (Jvm.Cond.fieldLink "SafeSweeps$Sweep" (11 : Nat) "SafeSweeps$Sweep" "row" "[I") ∈ kw_tbl := kts_1 (i := 155) rfl rfl
set_option maxRecDepth 100000 in
theorem kt_156 : (Jvm.Cond.fieldLink "SafeSweeps$Sweep" (38 : Nat) "SafeSweeps$Sweep" "first" "I") ∈ kw_tbl := kts_1 (i := 156) rfl rfl
set_option maxRecDepth 100000 in
theorem kt_157 : (Jvm.Cond.fieldLink "SafeSweeps" (354 : Nat) "SafeSweeps$Sweep" "first" "I") ∈ kw_tbl := kts_1 (i := 157) rfl rfl
set_option maxRecDepth 100000 in
theorem kt_158 : (Jvm.Cond.fieldLink "SafeSweeps$Sweep" (41 : Nat) "SafeSweeps$Sweep" "behind" "I") ∈ kw_tbl := kts_1 (i := 158) rfl rfl
set_option maxRecDepth 100000 in
theorem kt_159 : (Jvm.Cond.fieldLink "SafeSweeps" (351 : Nat) "SafeSweeps$Sweep" "behind" "I") ∈ kw_tbl := kts_1 (i := 159) rfl rfl
set_option maxRecDepth 100000 in
theorem kt_160 : (Jvm.Cond.fieldLink "SafeSweeps$Sweep" (35 : Nat) "SafeSweeps$Sweep" "phase" "I") ∈ kw_tbl := kts_1 (i := 160) rfl rfl
set_option maxRecDepth 100000 in
theorem kt_161 : (Jvm.Cond.fieldLink "SafeSweeps" (229 : Nat) "SafeSweeps$Sweep" "phase" "I") ∈ kw_tbl := kts_1 (i := 161) rfl rfl
set_option maxRecDepth 100000 in
theorem kt_162 : (Jvm.Cond.fieldLink "SafeSweeps$Sweep" (32 : Nat) "SafeSweeps$Sweep" "number" "I") ∈ kw_tbl := kts_1 (i := 162) rfl rfl
set_option maxRecDepth 100000 in
theorem kt_163 : (Jvm.Cond.fieldLink "SafeSweeps" (252 : Nat) "SafeSweeps$Sweep" "number" "I") ∈ kw_tbl := kts_1 (i := 163) rfl rfl
set_option maxRecDepth 100000 in
theorem kt_164 : (Jvm.Cond.fieldLink "SafeSweeps$Sweep" (49 : Nat) "SafeSweeps$Sweep" "end" "I") ∈ kw_tbl := kts_1 (i := 164) rfl rfl
set_option maxRecDepth 100000 in
theorem kt_165 : (Jvm.Cond.fieldLink "SafeSweeps" (357 : Nat) "SafeSweeps$Sweep" "end" "I") ∈ kw_tbl := kts_1 (i := 165) rfl rfl
set_option maxRecDepth 100000 in
theorem kt_166 : (Jvm.Cond.fieldLink "SafeSweeps$Sweep" (85 : Nat) "SafeSweeps$Sweep" "next" "I") ∈ kw_tbl := kts_1 (i := 166) rfl rfl
set_option maxRecDepth 100000 in
theorem kt_167 : (Jvm.Cond.fieldLink "SafeSweeps" (360 : Nat) "SafeSweeps$Sweep" "next" "I") ∈ kw_tbl := kts_1 (i := 167) rfl rfl
set_option maxRecDepth 100000 in
theorem kt_168 : (Jvm.Cond.fieldLink "SafeSweeps$Sweep" (91 : Nat) "SafeSweeps$Sweep" "packs" "I") ∈ kw_tbl := kts_1 (i := 168) rfl rfl
set_option maxRecDepth 100000 in
theorem kt_169 : (Jvm.Cond.fieldLink "SafeSweeps$Sweep" (15 : Nat) "SafeSweeps$Sweep" "percent" "I") ∈ kw_tbl := kts_1 (i := 169) rfl rfl
set_option maxRecDepth 100000 in
theorem kt_170 : (Jvm.Cond.fieldLink "SafeSweeps" (258 : Nat) "SafeSweeps$Sweep" "percent" "I") ∈ kw_tbl := kts_1 (i := 170) rfl rfl
set_option maxRecDepth 100000 in
theorem kt_171 : (Jvm.Cond.laysFinal "SafeSweeps$Sweep" "SafeSweeps$Sweep" "store" "LSafeSweeps$Store;") ∈ kw_tbl := kts_1 (i := 171) rfl rfl
set_option maxRecDepth 100000 in
theorem kt_173 : (Jvm.Cond.laysFinal "SafeSweeps$Sweep" "SafeSweeps$Sweep" "mover" "LSafeSweeps$Mover;") ∈ kw_tbl := kts_1 (i := 173) rfl rfl
set_option maxRecDepth 100000 in
theorem kt_175 : (Jvm.Cond.laysFinal "SafeSweeps$Sweep" "SafeSweeps$Sweep" "row" "[I") ∈ kw_tbl := kts_1 (i := 175) rfl rfl
set_option maxRecDepth 100000 in
theorem kt_177 : (Jvm.Cond.lays "SafeSweeps$Sweep" "SafeSweeps$Sweep" "first" "I") ∈ kw_tbl := kts_1 (i := 177) rfl rfl
set_option maxRecDepth 100000 in
theorem kt_179 : (Jvm.Cond.lays "SafeSweeps$Sweep" "SafeSweeps$Sweep" "behind" "I") ∈ kw_tbl := kts_1 (i := 179) rfl rfl
set_option maxRecDepth 100000 in
theorem kt_181 : (Jvm.Cond.lays "SafeSweeps$Sweep" "SafeSweeps$Sweep" "phase" "I") ∈ kw_tbl := kts_1 (i := 181) rfl rfl
set_option maxRecDepth 100000 in
theorem kt_183 : (Jvm.Cond.lays "SafeSweeps$Sweep" "SafeSweeps$Sweep" "number" "I") ∈ kw_tbl := kts_1 (i := 183) rfl rfl
set_option maxRecDepth 100000 in
theorem kt_185 : (Jvm.Cond.lays "SafeSweeps$Sweep" "SafeSweeps$Sweep" "end" "I") ∈ kw_tbl := kts_1 (i := 185) rfl rfl
set_option maxRecDepth 100000 in
theorem kt_187 : (Jvm.Cond.lays "SafeSweeps$Sweep" "SafeSweeps$Sweep" "next" "I") ∈ kw_tbl := kts_1 (i := 187) rfl rfl
set_option maxRecDepth 100000 in
theorem kt_189 : (Jvm.Cond.lays "SafeSweeps$Sweep" "SafeSweeps$Sweep" "packs" "I") ∈ kw_tbl := kts_1 (i := 189) rfl rfl
set_option maxRecDepth 100000 in
theorem kt_191 : (Jvm.Cond.lays "SafeSweeps$Sweep" "SafeSweeps$Sweep" "percent" "I") ∈ kw_tbl := kts_1 (i := 191) rfl rfl
set_option maxRecDepth 100000 in
theorem kt_194 : (Jvm.Cond.classLink "SafeSweeps" (43 : Nat) "SafeSweeps$Rules") ∈ kw_tbl := kts_1 (i := 194) rfl rfl
set_option maxRecDepth 100000 in
theorem kt_195 : (Jvm.Cond.instantiable "SafeSweeps$Rules" (2 : Nat)) ∈ kw_tbl := kts_1 (i := 195) rfl rfl
set_option maxRecDepth 100000 in
theorem kt_197 : (Jvm.Cond.instanceMethod ({ cls := "SafeSweeps$Rules", name := "<init>", desc := "()V" } : Jvm.MethodName)) ∈ kw_tbl := kts_1 (i := 197) rfl rfl
set_option maxRecDepth 100000 in
theorem kt_198 : (Jvm.Cond.code ({ cls := "SafeSweeps$Rules", name := "<init>", desc := "()V" } : Jvm.MethodName) prog_8_method_1_code (1 : Nat) (Option.none : Option Jvm.ClassFile.FieldType)) ∈ kw_tbl := kts_1 (i := 198) rfl rfl
set_option maxRecDepth 100000 in
theorem kt_199 : (Jvm.Cond.methodLink "SafeSweeps$Rules" (3 : Nat) ({ cls := "java/lang/Object", name := "<init>", desc := "()V" } : Jvm.MethodName)) ∈ kw_tbl := kts_1 (i := 199) rfl rfl
set_option maxRecDepth 100000 in
theorem kt_200 : (Jvm.Cond.fieldLink "SafeSweeps$Rules" (9 : Nat) "SafeSweeps$Rules" "numbers" "[I") ∈ kw_tbl := kts_1 (i := 200) rfl rfl
set_option maxRecDepth 100000 in
theorem kt_201 : (Jvm.Cond.fieldLink "SafeSweeps" (213 : Nat) "SafeSweeps$Rules" "numbers" "[I") ∈ kw_tbl := kts_1 (i := 201) rfl rfl
set_option maxRecDepth 100000 in
theorem kt_202 : (Jvm.Cond.fieldLink "SafeSweeps$Rules" (15 : Nat) "SafeSweeps$Rules" "kept" "[I") ∈ kw_tbl := kts_1 (i := 202) rfl rfl
set_option maxRecDepth 100000 in
theorem kt_203 : (Jvm.Cond.fieldLink "SafeSweeps" (220 : Nat) "SafeSweeps$Rules" "kept" "[I") ∈ kw_tbl := kts_1 (i := 203) rfl rfl
set_option maxRecDepth 100000 in
theorem kt_204 : (Jvm.Cond.laysFinal "SafeSweeps$Rules" "SafeSweeps$Rules" "numbers" "[I") ∈ kw_tbl := kts_1 (i := 204) rfl rfl
set_option maxRecDepth 100000 in
theorem kt_206 : (Jvm.Cond.laysFinal "SafeSweeps$Rules" "SafeSweeps$Rules" "kept" "[I") ∈ kw_tbl := kts_1 (i := 206) rfl rfl
set_option maxRecDepth 100000 in
theorem kt_209 : (Jvm.Cond.classLink "SafeSweeps" (50 : Nat) "SafeSweeps$Saver") ∈ kw_tbl := kts_1 (i := 209) rfl rfl
set_option maxRecDepth 100000 in
theorem kt_211 : (Jvm.Cond.instantiable "SafeSweeps$Saver" (7 : Nat)) ∈ kw_tbl := kts_1 (i := 211) rfl rfl
set_option maxRecDepth 100000 in
theorem kt_213 : (Jvm.Cond.instanceMethod ({ cls := "SafeSweeps$Saver", name := "<init>", desc := "()V" } : Jvm.MethodName)) ∈ kw_tbl := kts_1 (i := 213) rfl rfl
set_option maxRecDepth 100000 in
theorem kt_214 : (Jvm.Cond.code ({ cls := "SafeSweeps$Saver", name := "<init>", desc := "()V" } : Jvm.MethodName) prog_9_method_1_code (1 : Nat) (Option.none : Option Jvm.ClassFile.FieldType)) ∈ kw_tbl := kts_1 (i := 214) rfl rfl
set_option maxRecDepth 100000 in
theorem kt_215 : (Jvm.Cond.methodLink "SafeSweeps$Saver" (3 : Nat) ({ cls := "java/lang/Object", name := "<init>", desc := "()V" } : Jvm.MethodName)) ∈ kw_tbl := kts_1 (i := 215) rfl rfl
set_option maxRecDepth 100000 in
theorem kt_216 : (Jvm.Cond.fieldLink "SafeSweeps$Saver" (9 : Nat) "SafeSweeps$Saver" "used" "[I") ∈ kw_tbl := kts_1 (i := 216) rfl rfl
set_option maxRecDepth 100000 in
theorem kt_217 : (Jvm.Cond.fieldLink "SafeSweeps" (193 : Nat) "SafeSweeps$Saver" "used" "[I") ∈ kw_tbl := kts_1 (i := 217) rfl rfl
set_option maxRecDepth 100000 in
theorem kt_218 : (Jvm.Cond.fieldLink "SafeSweeps$Saver" (15 : Nat) "SafeSweeps$Saver" "children" "[I") ∈ kw_tbl := kts_1 (i := 218) rfl rfl
set_option maxRecDepth 100000 in
theorem kt_219 : (Jvm.Cond.fieldLink "SafeSweeps" (119 : Nat) "SafeSweeps$Saver" "children" "[I") ∈ kw_tbl := kts_1 (i := 219) rfl rfl
set_option maxRecDepth 100000 in
theorem kt_220 : (Jvm.Cond.fieldLink "SafeSweeps$Saver" (22 : Nat) "SafeSweeps$Saver" "usedCount" "I") ∈ kw_tbl := kts_1 (i := 220) rfl rfl
set_option maxRecDepth 100000 in
theorem kt_221 : (Jvm.Cond.fieldLink "SafeSweeps" (135 : Nat) "SafeSweeps$Saver" "usedCount" "I") ∈ kw_tbl := kts_1 (i := 221) rfl rfl
set_option maxRecDepth 100000 in
theorem kt_222 : (Jvm.Cond.fieldLink "SafeSweeps$Saver" (26 : Nat) "SafeSweeps$Saver" "childCount" "I") ∈ kw_tbl := kts_1 (i := 222) rfl rfl
set_option maxRecDepth 100000 in
theorem kt_223 : (Jvm.Cond.fieldLink "SafeSweeps" (112 : Nat) "SafeSweeps$Saver" "childCount" "I") ∈ kw_tbl := kts_1 (i := 223) rfl rfl
set_option maxRecDepth 100000 in
theorem kt_224 : (Jvm.Cond.fieldLink "SafeSweeps$Saver" (29 : Nat) "SafeSweeps$Saver" "lease" "I") ∈ kw_tbl := kts_1 (i := 224) rfl rfl
set_option maxRecDepth 100000 in
theorem kt_225 : (Jvm.Cond.fieldLink "SafeSweeps$Saver" (36 : Nat) "SafeSweeps$Saver" "until" "J") ∈ kw_tbl := kts_1 (i := 225) rfl rfl
set_option maxRecDepth 100000 in
theorem kt_226 : (Jvm.Cond.fieldLink "SafeSweeps$Saver" (18 : Nat) "SafeSweeps$Saver" "here" "Z") ∈ kw_tbl := kts_1 (i := 226) rfl rfl
set_option maxRecDepth 100000 in
theorem kt_227 : (Jvm.Cond.fieldLink "SafeSweeps" (87 : Nat) "SafeSweeps$Saver" "here" "Z") ∈ kw_tbl := kts_1 (i := 227) rfl rfl
set_option maxRecDepth 100000 in
theorem kt_228 : (Jvm.Cond.laysFinal "SafeSweeps$Saver" "SafeSweeps$Saver" "used" "[I") ∈ kw_tbl := kts_1 (i := 228) rfl rfl
set_option maxRecDepth 100000 in
theorem kt_230 : (Jvm.Cond.laysFinal "SafeSweeps$Saver" "SafeSweeps$Saver" "children" "[I") ∈ kw_tbl := kts_1 (i := 230) rfl rfl
set_option maxRecDepth 100000 in
theorem kt_232 : (Jvm.Cond.lays "SafeSweeps$Saver" "SafeSweeps$Saver" "usedCount" "I") ∈ kw_tbl := kts_1 (i := 232) rfl rfl
set_option maxRecDepth 100000 in
theorem kt_234 : (Jvm.Cond.lays "SafeSweeps$Saver" "SafeSweeps$Saver" "childCount" "I") ∈ kw_tbl := kts_1 (i := 234) rfl rfl
set_option maxRecDepth 100000 in
theorem kt_236 : (Jvm.Cond.lays "SafeSweeps$Saver" "SafeSweeps$Saver" "lease" "I") ∈ kw_tbl := kts_1 (i := 236) rfl rfl
set_option maxRecDepth 100000 in
theorem kt_238 : (Jvm.Cond.lays "SafeSweeps$Saver" "SafeSweeps$Saver" "until" "J") ∈ kw_tbl := kts_1 (i := 238) rfl rfl
set_option maxRecDepth 100000 in
theorem kt_240 : (Jvm.Cond.lays "SafeSweeps$Saver" "SafeSweeps$Saver" "here" "Z") ∈ kw_tbl := kts_2 (i := 0) rfl rfl
set_option maxRecDepth 100000 in
theorem kt_243 : (Jvm.Cond.classLink "SafeSweeps" (57 : Nat) "SafeSweeps$Snapshot") ∈ kw_tbl := kts_2 (i := 3) rfl rfl
set_option maxRecDepth 100000 in
theorem kt_245 : (Jvm.Cond.classLink "SafeSweeps" (63 : Nat) "SafeSweeps$Mirror") ∈ kw_tbl := kts_2 (i := 5) rfl rfl
set_option maxRecDepth 100000 in
theorem kt_247 : (Jvm.Cond.instantiable "SafeSweeps$Mirror" (3 : Nat)) ∈ kw_tbl := kts_2 (i := 7) rfl rfl
set_option maxRecDepth 100000 in
theorem kt_249 : (Jvm.Cond.instanceMethod ({ cls := "SafeSweeps$Mirror", name := "<init>", desc := "()V" } : Jvm.MethodName)) ∈ kw_tbl := kts_2 (i := 9) rfl rfl
set_option maxRecDepth 100000 in
theorem kt_250 : (Jvm.Cond.code ({ cls := "SafeSweeps$Mirror", name := "<init>", desc := "()V" } : Jvm.MethodName) prog_5_method_1_code (1 : Nat) (Option.none : Option Jvm.ClassFile.FieldType)) ∈ kw_tbl := kts_2 (i := 10) rfl rfl
set_option maxRecDepth 100000 in
theorem kt_251 : (Jvm.Cond.methodLink "SafeSweeps$Mirror" (3 : Nat) ({ cls := "java/lang/Object", name := "<init>", desc := "()V" } : Jvm.MethodName)) ∈ kw_tbl := kts_2 (i := 11) rfl rfl
set_option maxRecDepth 100000 in
theorem kt_252 : (Jvm.Cond.fieldLink "SafeSweeps$Mirror" (9 : Nat) "SafeSweeps$Mirror" "blocks" "[Z") ∈ kw_tbl := kts_2 (i := 12) rfl rfl
set_option maxRecDepth 100000 in
theorem kt_253 : (Jvm.Cond.fieldLink "SafeSweeps" (384 : Nat) "SafeSweeps$Mirror" "blocks" "[Z") ∈ kw_tbl := kts_2 (i := 13) rfl rfl
set_option maxRecDepth 100000 in
theorem kt_254 : (Jvm.Cond.fieldLink "SafeSweeps$Mirror" (15 : Nat) "SafeSweeps$Mirror" "snapshots" "[Z") ∈ kw_tbl := kts_2 (i := 14) rfl rfl
set_option maxRecDepth 100000 in
theorem kt_255 : (Jvm.Cond.fieldLink "SafeSweeps" (391 : Nat) "SafeSweeps$Mirror" "snapshots" "[Z") ∈ kw_tbl := kts_2 (i := 15) rfl rfl
set_option maxRecDepth 100000 in
theorem kt_256 : (Jvm.Cond.fieldLink "SafeSweeps$Mirror" (24 : Nat) "SafeSweeps$Mirror" "done" "I") ∈ kw_tbl := kts_2 (i := 16) rfl rfl
set_option maxRecDepth 100000 in
theorem kt_257 : (Jvm.Cond.fieldLink "SafeSweeps" (274 : Nat) "SafeSweeps$Mirror" "done" "I") ∈ kw_tbl := kts_2 (i := 17) rfl rfl
set_option maxRecDepth 100000 in
theorem kt_258 : (Jvm.Cond.laysFinal "SafeSweeps$Mirror" "SafeSweeps$Mirror" "blocks" "[Z") ∈ kw_tbl := kts_2 (i := 18) rfl rfl
set_option maxRecDepth 100000 in
theorem kt_260 : (Jvm.Cond.laysFinal "SafeSweeps$Mirror" "SafeSweeps$Mirror" "snapshots" "[Z") ∈ kw_tbl := kts_2 (i := 20) rfl rfl
set_option maxRecDepth 100000 in
theorem kt_262 : (Jvm.Cond.lays "SafeSweeps$Mirror" "SafeSweeps$Mirror" "done" "I") ∈ kw_tbl := kts_2 (i := 22) rfl rfl
set_option maxRecDepth 100000 in
theorem kt_265 : (Jvm.Cond.constantLong "SafeSweeps" (74 : Nat) (-10000000000 : Int64)) ∈ kw_tbl := kts_2 (i := 25) rfl rfl
set_option maxRecDepth 100000 in
theorem kt_266 : (Jvm.Cond.fieldLink "SafeSweeps" (10 : Nat) "SafeSweeps" "journal" "LSafeSweeps$Journal;") ∈ kw_tbl := kts_2 (i := 26) rfl rfl
set_option maxRecDepth 100000 in
theorem kt_267 : (Jvm.Cond.fieldLink "SafeSweeps" (30 : Nat) "SafeSweeps" "store" "LSafeSweeps$Store;") ∈ kw_tbl := kts_2 (i := 27) rfl rfl
set_option maxRecDepth 100000 in
theorem kt_268 : (Jvm.Cond.fieldLink "SafeSweeps" (39 : Nat) "SafeSweeps" "sweeper" "LSafeSweeps$Sweep;") ∈ kw_tbl := kts_2 (i := 28) rfl rfl
set_option maxRecDepth 100000 in
theorem kt_269 : (Jvm.Cond.fieldLink "SafeSweeps" (46 : Nat) "SafeSweeps" "rules" "LSafeSweeps$Rules;") ∈ kw_tbl := kts_2 (i := 29) rfl rfl
set_option maxRecDepth 100000 in
theorem kt_270 : (Jvm.Cond.fieldLink "SafeSweeps" (52 : Nat) "SafeSweeps" "savers" "[LSafeSweeps$Saver;") ∈ kw_tbl := kts_2 (i := 30) rfl rfl
set_option maxRecDepth 100000 in
theorem kt_271 : (Jvm.Cond.fieldLink "SafeSweeps" (59 : Nat) "SafeSweeps" "snapshots" "[LSafeSweeps$Snapshot;") ∈ kw_tbl := kts_2 (i := 31) rfl rfl
set_option maxRecDepth 100000 in
theorem kt_272 : (Jvm.Cond.fieldLink "SafeSweeps" (65 : Nat) "SafeSweeps" "mirrors" "[LSafeSweeps$Mirror;") ∈ kw_tbl := kts_2 (i := 32) rfl rfl
set_option maxRecDepth 100000 in
theorem kt_273 : (Jvm.Cond.fieldLink "SafeSweeps" (70 : Nat) "SafeSweeps" "replayed" "LSafeSweeps$Mirror;") ∈ kw_tbl := kts_2 (i := 33) rfl rfl
set_option maxRecDepth 100000 in
theorem kt_274 : (Jvm.Cond.fieldLink "SafeSweeps" (183 : Nat) "SafeSweeps" "snapshotsMade" "I") ∈ kw_tbl := kts_2 (i := 34) rfl rfl
set_option maxRecDepth 100000 in
theorem kt_275 : (Jvm.Cond.fieldLink "SafeSweeps" (76 : Nat) "SafeSweeps" "now" "J") ∈ kw_tbl := kts_2 (i := 35) rfl rfl
set_option maxRecDepth 100000 in
theorem kt_276 : (Jvm.Cond.laysFinal "SafeSweeps" "SafeSweeps" "journal" "LSafeSweeps$Journal;") ∈ kw_tbl := kts_2 (i := 36) rfl rfl
set_option maxRecDepth 100000 in
theorem kt_278 : (Jvm.Cond.laysFinal "SafeSweeps" "SafeSweeps" "store" "LSafeSweeps$Store;") ∈ kw_tbl := kts_2 (i := 38) rfl rfl
set_option maxRecDepth 100000 in
theorem kt_280 : (Jvm.Cond.laysFinal "SafeSweeps" "SafeSweeps" "sweeper" "LSafeSweeps$Sweep;") ∈ kw_tbl := kts_2 (i := 40) rfl rfl
set_option maxRecDepth 100000 in
theorem kt_282 : (Jvm.Cond.laysFinal "SafeSweeps" "SafeSweeps" "rules" "LSafeSweeps$Rules;") ∈ kw_tbl := kts_2 (i := 42) rfl rfl
set_option maxRecDepth 100000 in
theorem kt_284 : (Jvm.Cond.laysFinal "SafeSweeps" "SafeSweeps" "savers" "[LSafeSweeps$Saver;") ∈ kw_tbl := kts_2 (i := 44) rfl rfl
set_option maxRecDepth 100000 in
theorem kt_286 : (Jvm.Cond.laysFinal "SafeSweeps" "SafeSweeps" "snapshots" "[LSafeSweeps$Snapshot;") ∈ kw_tbl := kts_2 (i := 46) rfl rfl
set_option maxRecDepth 100000 in
theorem kt_288 : (Jvm.Cond.laysFinal "SafeSweeps" "SafeSweeps" "mirrors" "[LSafeSweeps$Mirror;") ∈ kw_tbl := kts_2 (i := 48) rfl rfl
set_option maxRecDepth 100000 in
theorem kt_290 : (Jvm.Cond.laysFinal "SafeSweeps" "SafeSweeps" "replayed" "LSafeSweeps$Mirror;") ∈ kw_tbl := kts_2 (i := 50) rfl rfl
set_option maxRecDepth 100000 in
theorem kt_292 : (Jvm.Cond.lays "SafeSweeps" "SafeSweeps" "snapshotsMade" "I") ∈ kw_tbl := kts_2 (i := 52) rfl rfl
set_option maxRecDepth 100000 in
theorem kt_294 : (Jvm.Cond.lays "SafeSweeps" "SafeSweeps" "now" "J") ∈ kw_tbl := kts_2 (i := 54) rfl rfl
set_option maxRecDepth 100000 in
theorem kt_297 : (Jvm.Cond.methodLink "SafeSweepsLaw" (23 : Nat) ({ cls := "SafeSweeps", name := "at", desc := "(J)I" } : Jvm.MethodName)) ∈ kw_tbl := kts_2 (i := 57) rfl rfl
set_option maxRecDepth 100000 in
theorem kt_298 : (Jvm.Cond.instanceMethod ({ cls := "SafeSweeps", name := "at", desc := "(J)I" } : Jvm.MethodName)) ∈ kw_tbl := kts_2 (i := 58) rfl rfl
set_option maxRecDepth 100000 in
theorem kt_299 : (Jvm.Cond.selects "SafeSweeps" ({ cls := "SafeSweeps", name := "at", desc := "(J)I" } : Jvm.MethodName) ({ cls := "SafeSweeps", name := "at", desc := "(J)I" } : Jvm.MethodName)) ∈ kw_tbl := kts_2 (i := 59) rfl rfl
set_option maxRecDepth 100000 in
theorem kt_300 : (Jvm.Cond.code ({ cls := "SafeSweeps", name := "at", desc := "(J)I" } : Jvm.MethodName) prog_1_method_2_code (3 : Nat) (Option.some Jvm.ClassFile.FieldType.int)) ∈ kw_tbl := kts_2 (i := 60) rfl rfl
set_option maxRecDepth 100000 in
theorem kt_301 : (Jvm.Cond.constantLong "SafeSweeps" (84 : Nat) (1000000000000 : Int64)) ∈ kw_tbl := kts_2 (i := 61) rfl rfl
set_option maxRecDepth 100000 in
theorem kt_302 : (Jvm.Cond.methodLink "SafeSweepsLaw" (28 : Nat) ({ cls := "SafeSweeps", name := "begin", desc := "(I)I" } : Jvm.MethodName)) ∈ kw_tbl := kts_2 (i := 62) rfl rfl
set_option maxRecDepth 100000 in
theorem kt_303 : (Jvm.Cond.instanceMethod ({ cls := "SafeSweeps", name := "begin", desc := "(I)I" } : Jvm.MethodName)) ∈ kw_tbl := kts_2 (i := 63) rfl rfl
set_option maxRecDepth 100000 in
theorem kt_304 : (Jvm.Cond.selects "SafeSweeps" ({ cls := "SafeSweeps", name := "begin", desc := "(I)I" } : Jvm.MethodName) ({ cls := "SafeSweeps", name := "begin", desc := "(I)I" } : Jvm.MethodName)) ∈ kw_tbl := kts_2 (i := 64) rfl rfl
set_option maxRecDepth 100000 in
theorem kt_305 : (Jvm.Cond.code ({ cls := "SafeSweeps", name := "begin", desc := "(I)I" } : Jvm.MethodName) prog_1_method_3_code (3 : Nat) (Option.some Jvm.ClassFile.FieldType.int)) ∈ kw_tbl := kts_2 (i := 65) rfl rfl
set_option maxRecDepth 100000 in
theorem kt_306 : (Jvm.Cond.constant "SafeSweeps" (86 : Nat) (1000000 : Int32)) ∈ kw_tbl := kts_2 (i := 66) rfl rfl
set_option maxRecDepth 100000 in
theorem kt_307 : (Jvm.Cond.methodLink "SafeSweeps" (90 : Nat) ({ cls := "SafeSweeps$Saver", name := "arrive", desc := "(IJ)V" } : Jvm.MethodName)) ∈ kw_tbl := kts_2 (i := 67) rfl rfl
set_option maxRecDepth 100000 in
theorem kt_308 : (Jvm.Cond.instanceMethod ({ cls := "SafeSweeps$Saver", name := "arrive", desc := "(IJ)V" } : Jvm.MethodName)) ∈ kw_tbl := kts_2 (i := 68) rfl rfl
set_option maxRecDepth 100000 in
theorem kt_309 : (Jvm.Cond.selects "SafeSweeps$Saver" ({ cls := "SafeSweeps$Saver", name := "arrive", desc := "(IJ)V" } : Jvm.MethodName) ({ cls := "SafeSweeps$Saver", name := "arrive", desc := "(IJ)V" } : Jvm.MethodName)) ∈ kw_tbl := kts_2 (i := 69) rfl rfl
set_option maxRecDepth 100000 in
theorem kt_310 : (Jvm.Cond.code ({ cls := "SafeSweeps$Saver", name := "arrive", desc := "(IJ)V" } : Jvm.MethodName) prog_9_method_2_code (4 : Nat) (Option.none : Option Jvm.ClassFile.FieldType)) ∈ kw_tbl := kts_2 (i := 70) rfl rfl
set_option maxRecDepth 100000 in
theorem kt_311 : (Jvm.Cond.methodLink "SafeSweeps$Saver" (32 : Nat) ({ cls := "SafeSweeps$Saver", name := "renew", desc := "(J)V" } : Jvm.MethodName)) ∈ kw_tbl := kts_2 (i := 71) rfl rfl
set_option maxRecDepth 100000 in
theorem kt_312 : (Jvm.Cond.instanceMethod ({ cls := "SafeSweeps$Saver", name := "renew", desc := "(J)V" } : Jvm.MethodName)) ∈ kw_tbl := kts_2 (i := 72) rfl rfl
set_option maxRecDepth 100000 in
theorem kt_313 : (Jvm.Cond.selects "SafeSweeps$Saver" ({ cls := "SafeSweeps$Saver", name := "renew", desc := "(J)V" } : Jvm.MethodName) ({ cls := "SafeSweeps$Saver", name := "renew", desc := "(J)V" } : Jvm.MethodName)) ∈ kw_tbl := kts_2 (i := 73) rfl rfl
set_option maxRecDepth 100000 in
theorem kt_314 : (Jvm.Cond.code ({ cls := "SafeSweeps$Saver", name := "renew", desc := "(J)V" } : Jvm.MethodName) prog_9_method_3_code (3 : Nat) (Option.none : Option Jvm.ClassFile.FieldType)) ∈ kw_tbl := kts_2 (i := 74) rfl rfl
set_option maxRecDepth 100000 in
theorem kt_315 : (Jvm.Cond.methodLink "SafeSweepsLaw" (33 : Nat) ({ cls := "SafeSweeps", name := "child", desc := "(II)I" } : Jvm.MethodName)) ∈ kw_tbl := kts_2 (i := 75) rfl rfl
set_option maxRecDepth 100000 in
theorem kt_316 : (Jvm.Cond.instanceMethod ({ cls := "SafeSweeps", name := "child", desc := "(II)I" } : Jvm.MethodName)) ∈ kw_tbl := kts_2 (i := 76) rfl rfl
set_option maxRecDepth 100000 in
theorem kt_317 : (Jvm.Cond.selects "SafeSweeps" ({ cls := "SafeSweeps", name := "child", desc := "(II)I" } : Jvm.MethodName) ({ cls := "SafeSweeps", name := "child", desc := "(II)I" } : Jvm.MethodName)) ∈ kw_tbl := kts_2 (i := 77) rfl rfl
set_option maxRecDepth 100000 in
theorem kt_318 : (Jvm.Cond.code ({ cls := "SafeSweeps", name := "child", desc := "(II)I" } : Jvm.MethodName) prog_1_method_4_code (4 : Nat) (Option.some Jvm.ClassFile.FieldType.int)) ∈ kw_tbl := kts_2 (i := 78) rfl rfl
set_option maxRecDepth 100000 in
theorem kt_319 : (Jvm.Cond.methodLink "SafeSweeps" (94 : Nat) ({ cls := "SafeSweeps", name := "renewed", desc := "(I)LSafeSweeps$Saver;" } : Jvm.MethodName)) ∈ kw_tbl := kts_2 (i := 79) rfl rfl
set_option maxRecDepth 100000 in
theorem kt_321 : (Jvm.Cond.instanceMethod ({ cls := "SafeSweeps", name := "renewed", desc := "(I)LSafeSweeps$Saver;" } : Jvm.MethodName)) ∈ kw_tbl := kts_2 (i := 81) rfl rfl
set_option maxRecDepth 100000 in
theorem kt_322 : (Jvm.Cond.code ({ cls := "SafeSweeps", name := "renewed", desc := "(I)LSafeSweeps$Saver;" } : Jvm.MethodName) prog_1_method_13_code (3 : Nat) (Option.some (Jvm.ClassFile.FieldType.object "SafeSweeps$Saver"))) ∈ kw_tbl := kts_2 (i := 82) rfl rfl
set_option maxRecDepth 100000 in
theorem kt_323 : (Jvm.Cond.methodLink "SafeSweeps" (180 : Nat) ({ cls := "SafeSweeps", name := "saverHere", desc := "(I)LSafeSweeps$Saver;" } : Jvm.MethodName)) ∈ kw_tbl := kts_2 (i := 83) rfl rfl
set_option maxRecDepth 100000 in
theorem kt_325 : (Jvm.Cond.instanceMethod ({ cls := "SafeSweeps", name := "saverHere", desc := "(I)LSafeSweeps$Saver;" } : Jvm.MethodName)) ∈ kw_tbl := kts_2 (i := 85) rfl rfl
set_option maxRecDepth 100000 in
theorem kt_326 : (Jvm.Cond.code ({ cls := "SafeSweeps", name := "saverHere", desc := "(I)LSafeSweeps$Saver;" } : Jvm.MethodName) prog_1_method_12_code (3 : Nat) (Option.some (Jvm.ClassFile.FieldType.object "SafeSweeps$Saver"))) ∈ kw_tbl := kts_2 (i := 86) rfl rfl
set_option maxRecDepth 100000 in
theorem kt_327 : (Jvm.Cond.methodLink "SafeSweeps" (102 : Nat) ({ cls := "SafeSweeps$Saver", name := "isDead", desc := "(J)Z" } : Jvm.MethodName)) ∈ kw_tbl := kts_2 (i := 87) rfl rfl
set_option maxRecDepth 100000 in
theorem kt_328 : (Jvm.Cond.instanceMethod ({ cls := "SafeSweeps$Saver", name := "isDead", desc := "(J)Z" } : Jvm.MethodName)) ∈ kw_tbl := kts_2 (i := 88) rfl rfl
set_option maxRecDepth 100000 in
theorem kt_329 : (Jvm.Cond.selects "SafeSweeps$Saver" ({ cls := "SafeSweeps$Saver", name := "isDead", desc := "(J)Z" } : Jvm.MethodName) ({ cls := "SafeSweeps$Saver", name := "isDead", desc := "(J)Z" } : Jvm.MethodName)) ∈ kw_tbl := kts_2 (i := 89) rfl rfl
set_option maxRecDepth 100000 in
theorem kt_330 : (Jvm.Cond.code ({ cls := "SafeSweeps$Saver", name := "isDead", desc := "(J)Z" } : Jvm.MethodName) prog_9_method_4_code (3 : Nat) (Option.some Jvm.ClassFile.FieldType.boolean)) ∈ kw_tbl := kts_2 (i := 90) rfl rfl
set_option maxRecDepth 100000 in
theorem kt_331 : (Jvm.Cond.methodLink "SafeSweeps" (199 : Nat) ({ cls := "SafeSweeps$Saver", name := "renew", desc := "(J)V" } : Jvm.MethodName)) ∈ kw_tbl := kts_2 (i := 91) rfl rfl
set_option maxRecDepth 100000 in
theorem kt_332 : (Jvm.Cond.methodLink "SafeSweeps" (98 : Nat) ({ cls := "SafeSweeps$Store", name := "holds", desc := "(I)Z" } : Jvm.MethodName)) ∈ kw_tbl := kts_2 (i := 92) rfl rfl
set_option maxRecDepth 100000 in
theorem kt_333 : (Jvm.Cond.instanceMethod ({ cls := "SafeSweeps$Store", name := "holds", desc := "(I)Z" } : Jvm.MethodName)) ∈ kw_tbl := kts_2 (i := 93) rfl rfl
set_option maxRecDepth 100000 in
theorem kt_334 : (Jvm.Cond.selects "SafeSweeps$Store" ({ cls := "SafeSweeps$Store", name := "holds", desc := "(I)Z" } : Jvm.MethodName) ({ cls := "SafeSweeps$Store", name := "holds", desc := "(I)Z" } : Jvm.MethodName)) ∈ kw_tbl := kts_2 (i := 94) rfl rfl
set_option maxRecDepth 100000 in
theorem kt_335 : (Jvm.Cond.code ({ cls := "SafeSweeps$Store", name := "holds", desc := "(I)Z" } : Jvm.MethodName) prog_11_method_2_code (2 : Nat) (Option.some Jvm.ClassFile.FieldType.boolean)) ∈ kw_tbl := kts_2 (i := 95) rfl rfl
set_option maxRecDepth 100000 in
theorem kt_336 : (Jvm.Cond.methodLink "SafeSweeps" (106 : Nat) ({ cls := "SafeSweeps$Saver", name := "uses", desc := "(I)Z" } : Jvm.MethodName)) ∈ kw_tbl := kts_2 (i := 96) rfl rfl
set_option maxRecDepth 100000 in
theorem kt_337 : (Jvm.Cond.instanceMethod ({ cls := "SafeSweeps$Saver", name := "uses", desc := "(I)Z" } : Jvm.MethodName)) ∈ kw_tbl := kts_2 (i := 97) rfl rfl
set_option maxRecDepth 100000 in
theorem kt_338 : (Jvm.Cond.selects "SafeSweeps$Saver" ({ cls := "SafeSweeps$Saver", name := "uses", desc := "(I)Z" } : Jvm.MethodName) ({ cls := "SafeSweeps$Saver", name := "uses", desc := "(I)Z" } : Jvm.MethodName)) ∈ kw_tbl := kts_2 (i := 98) rfl rfl
set_option maxRecDepth 100000 in
theorem kt_339 : (Jvm.Cond.code ({ cls := "SafeSweeps$Saver", name := "uses", desc := "(I)Z" } : Jvm.MethodName) prog_9_method_5_code (3 : Nat) (Option.some Jvm.ClassFile.FieldType.boolean)) ∈ kw_tbl := kts_2 (i := 99) rfl rfl
set_option maxRecDepth 100000 in
theorem kt_340 : (Jvm.Cond.methodLink "SafeSweeps" (109 : Nat) ({ cls := "SafeSweeps$Saver", name := "addChild", desc := "(I)Z" } : Jvm.MethodName)) ∈ kw_tbl := kts_2 (i := 100) rfl rfl
set_option maxRecDepth 100000 in
theorem kt_341 : (Jvm.Cond.instanceMethod ({ cls := "SafeSweeps$Saver", name := "addChild", desc := "(I)Z" } : Jvm.MethodName)) ∈ kw_tbl := kts_2 (i := 101) rfl rfl
set_option maxRecDepth 100000 in
theorem kt_342 : (Jvm.Cond.selects "SafeSweeps$Saver" ({ cls := "SafeSweeps$Saver", name := "addChild", desc := "(I)Z" } : Jvm.MethodName) ({ cls := "SafeSweeps$Saver", name := "addChild", desc := "(I)Z" } : Jvm.MethodName)) ∈ kw_tbl := kts_2 (i := 102) rfl rfl
set_option maxRecDepth 100000 in
theorem kt_343 : (Jvm.Cond.code ({ cls := "SafeSweeps$Saver", name := "addChild", desc := "(I)Z" } : Jvm.MethodName) prog_9_method_8_code (2 : Nat) (Option.some Jvm.ClassFile.FieldType.boolean)) ∈ kw_tbl := kts_2 (i := 103) rfl rfl
set_option maxRecDepth 100000 in
theorem kt_344 : (Jvm.Cond.methodLink "SafeSweepsLaw" (38 : Nat) ({ cls := "SafeSweeps", name := "save", desc := "(IJI)I" } : Jvm.MethodName)) ∈ kw_tbl := kts_2 (i := 104) rfl rfl
set_option maxRecDepth 100000 in
theorem kt_345 : (Jvm.Cond.instanceMethod ({ cls := "SafeSweeps", name := "save", desc := "(IJI)I" } : Jvm.MethodName)) ∈ kw_tbl := kts_2 (i := 105) rfl rfl
set_option maxRecDepth 100000 in
theorem kt_346 : (Jvm.Cond.selects "SafeSweeps" ({ cls := "SafeSweeps", name := "save", desc := "(IJI)I" } : Jvm.MethodName) ({ cls := "SafeSweeps", name := "save", desc := "(IJI)I" } : Jvm.MethodName)) ∈ kw_tbl := kts_2 (i := 106) rfl rfl
set_option maxRecDepth 100000 in
theorem kt_347 : (Jvm.Cond.code ({ cls := "SafeSweeps", name := "save", desc := "(IJI)I" } : Jvm.MethodName) prog_1_method_5_code (7 : Nat) (Option.some Jvm.ClassFile.FieldType.int)) ∈ kw_tbl := kts_2 (i := 107) rfl rfl
set_option maxRecDepth 100000 in
theorem kt_348 : (Jvm.Cond.methodLink "SafeSweeps" (123 : Nat) ({ cls := "SafeSweeps$Store", name := "find", desc := "(JI[II)I" } : Jvm.MethodName)) ∈ kw_tbl := kts_2 (i := 108) rfl rfl
set_option maxRecDepth 100000 in
theorem kt_349 : (Jvm.Cond.instanceMethod ({ cls := "SafeSweeps$Store", name := "find", desc := "(JI[II)I" } : Jvm.MethodName)) ∈ kw_tbl := kts_2 (i := 109) rfl rfl
set_option maxRecDepth 100000 in
theorem kt_350 : (Jvm.Cond.selects "SafeSweeps$Store" ({ cls := "SafeSweeps$Store", name := "find", desc := "(JI[II)I" } : Jvm.MethodName) ({ cls := "SafeSweeps$Store", name := "find", desc := "(JI[II)I" } : Jvm.MethodName)) ∈ kw_tbl := kts_2 (i := 110) rfl rfl
set_option maxRecDepth 100000 in
theorem kt_351 : (Jvm.Cond.code ({ cls := "SafeSweeps$Store", name := "find", desc := "(JI[II)I" } : Jvm.MethodName) prog_11_method_6_code (7 : Nat) (Option.some Jvm.ClassFile.FieldType.int)) ∈ kw_tbl := kts_2 (i := 111) rfl rfl
set_option maxRecDepth 100000 in
theorem kt_352 : (Jvm.Cond.methodLink "SafeSweeps$Store" (52 : Nat) ({ cls := "SafeSweeps$Block", name := "isLike", desc := "(JI[II)Z" } : Jvm.MethodName)) ∈ kw_tbl := kts_2 (i := 112) rfl rfl
set_option maxRecDepth 100000 in
theorem kt_353 : (Jvm.Cond.instanceMethod ({ cls := "SafeSweeps$Block", name := "isLike", desc := "(JI[II)Z" } : Jvm.MethodName)) ∈ kw_tbl := kts_2 (i := 113) rfl rfl
set_option maxRecDepth 100000 in
theorem kt_354 : (Jvm.Cond.selects "SafeSweeps$Block" ({ cls := "SafeSweeps$Block", name := "isLike", desc := "(JI[II)Z" } : Jvm.MethodName) ({ cls := "SafeSweeps$Block", name := "isLike", desc := "(JI[II)Z" } : Jvm.MethodName)) ∈ kw_tbl := kts_2 (i := 114) rfl rfl
set_option maxRecDepth 100000 in
theorem kt_355 : (Jvm.Cond.code ({ cls := "SafeSweeps$Block", name := "isLike", desc := "(JI[II)Z" } : Jvm.MethodName) prog_2_method_2_code (7 : Nat) (Option.some Jvm.ClassFile.FieldType.boolean)) ∈ kw_tbl := kts_2 (i := 115) rfl rfl
set_option maxRecDepth 100000 in
theorem kt_356 : (Jvm.Cond.methodLink "SafeSweeps" (127 : Nat) ({ cls := "SafeSweeps", name := "saveNew", desc := "(LSafeSweeps$Saver;JI)I" } : Jvm.MethodName)) ∈ kw_tbl := kts_2 (i := 116) rfl rfl
set_option maxRecDepth 100000 in
theorem kt_358 : (Jvm.Cond.instanceMethod ({ cls := "SafeSweeps", name := "saveNew", desc := "(LSafeSweeps$Saver;JI)I" } : Jvm.MethodName)) ∈ kw_tbl := kts_2 (i := 118) rfl rfl
set_option maxRecDepth 100000 in
theorem kt_359 : (Jvm.Cond.code ({ cls := "SafeSweeps", name := "saveNew", desc := "(LSafeSweeps$Saver;JI)I" } : Jvm.MethodName) prog_1_method_6_code (6 : Nat) (Option.some Jvm.ClassFile.FieldType.int)) ∈ kw_tbl := kts_2 (i := 119) rfl rfl
set_option maxRecDepth 100000 in
theorem kt_360 : (Jvm.Cond.methodLink "SafeSweeps" (138 : Nat) ({ cls := "SafeSweeps$Store", name := "hasRoomFor", desc := "(I)Z" } : Jvm.MethodName)) ∈ kw_tbl := kts_2 (i := 120) rfl rfl
set_option maxRecDepth 100000 in
theorem kt_361 : (Jvm.Cond.instanceMethod ({ cls := "SafeSweeps$Store", name := "hasRoomFor", desc := "(I)Z" } : Jvm.MethodName)) ∈ kw_tbl := kts_2 (i := 121) rfl rfl
set_option maxRecDepth 100000 in
theorem kt_362 : (Jvm.Cond.selects "SafeSweeps$Store" ({ cls := "SafeSweeps$Store", name := "hasRoomFor", desc := "(I)Z" } : Jvm.MethodName) ({ cls := "SafeSweeps$Store", name := "hasRoomFor", desc := "(I)Z" } : Jvm.MethodName)) ∈ kw_tbl := kts_2 (i := 122) rfl rfl
set_option maxRecDepth 100000 in
theorem kt_363 : (Jvm.Cond.code ({ cls := "SafeSweeps$Store", name := "hasRoomFor", desc := "(I)Z" } : Jvm.MethodName) prog_11_method_8_code (3 : Nat) (Option.some Jvm.ClassFile.FieldType.boolean)) ∈ kw_tbl := kts_2 (i := 123) rfl rfl
set_option maxRecDepth 100000 in
theorem kt_364 : (Jvm.Cond.methodLink "SafeSweeps$Store" (65 : Nat) ({ cls := "SafeSweeps$Store", name := "filledOfLatest", desc := "(I)I" } : Jvm.MethodName)) ∈ kw_tbl := kts_2 (i := 124) rfl rfl
set_option maxRecDepth 100000 in
theorem kt_365 : (Jvm.Cond.instanceMethod ({ cls := "SafeSweeps$Store", name := "filledOfLatest", desc := "(I)I" } : Jvm.MethodName)) ∈ kw_tbl := kts_2 (i := 125) rfl rfl
set_option maxRecDepth 100000 in
theorem kt_366 : (Jvm.Cond.selects "SafeSweeps$Store" ({ cls := "SafeSweeps$Store", name := "filledOfLatest", desc := "(I)I" } : Jvm.MethodName) ({ cls := "SafeSweeps$Store", name := "filledOfLatest", desc := "(I)I" } : Jvm.MethodName)) ∈ kw_tbl := kts_2 (i := 126) rfl rfl
set_option maxRecDepth 100000 in
theorem kt_367 : (Jvm.Cond.code ({ cls := "SafeSweeps$Store", name := "filledOfLatest", desc := "(I)I" } : Jvm.MethodName) prog_11_method_7_code (4 : Nat) (Option.some Jvm.ClassFile.FieldType.int)) ∈ kw_tbl := kts_2 (i := 127) rfl rfl
set_option maxRecDepth 100000 in
theorem kt_368 : (Jvm.Cond.methodLink "SafeSweeps" (141 : Nat) ({ cls := "java/util/Arrays", name := "copyOf", desc := "([II)[I" } : Jvm.MethodName)) ∈ kw_tbl := kts_2 (i := 128) rfl rfl
set_option maxRecDepth 100000 in
theorem kt_369 : (Jvm.Cond.static ({ cls := "java/util/Arrays", name := "copyOf", desc := "([II)[I" } : Jvm.MethodName)) ∈ kw_tbl := kts_2 (i := 129) rfl rfl
set_option maxRecDepth 100000 in
theorem kt_370 : (Jvm.Cond.code ({ cls := "java/util/Arrays", name := "copyOf", desc := "([II)[I" } : Jvm.MethodName) prog_18_method_123_code (3 : Nat) (Option.some (Jvm.ClassFile.FieldType.array Jvm.ClassFile.FieldType.int))) ∈ kw_tbl := kts_2 (i := 130) rfl rfl
set_option maxRecDepth 100000 in
theorem kt_371 : (Jvm.Cond.methodLink "java/util/Arrays" (316 : Nat) ({ cls := "[I", name := "clone", desc := "()Ljava/lang/Object;" } : Jvm.MethodName)) ∈ kw_tbl := kts_2 (i := 131) rfl rfl
set_option maxRecDepth 100000 in
theorem kt_374 : (Jvm.Cond.instanceMethod ({ cls := "java/lang/Object", name := "clone", desc := "()Ljava/lang/Object;" } : Jvm.MethodName)) ∈ kw_tbl := kts_2 (i := 134) rfl rfl
set_option maxRecDepth 100000 in
theorem kt_375 : (Jvm.Cond.selects "[I" ({ cls := "[I", name := "clone", desc := "()Ljava/lang/Object;" } : Jvm.MethodName) ({ cls := "java/lang/Object", name := "clone", desc := "()Ljava/lang/Object;" } : Jvm.MethodName)) ∈ kw_tbl := kts_2 (i := 135) rfl rfl
set_option maxRecDepth 100000 in
theorem kt_377 : (Jvm.Cond.classLink "java/util/Arrays" (317 : Nat) "[I") ∈ kw_tbl := kts_2 (i := 137) rfl rfl
set_option maxRecDepth 100000 in
theorem kt_378 : (Jvm.Cond.methodLink "java/util/Arrays" (304 : Nat) ({ cls := "java/lang/Math", name := "min", desc := "(II)I" } : Jvm.MethodName)) ∈ kw_tbl := kts_2 (i := 138) rfl rfl
set_option maxRecDepth 100000 in
theorem kt_379 : (Jvm.Cond.methodLink "java/util/Arrays" (150 : Nat) ({ cls := "java/lang/System", name := "arraycopy", desc := "(Ljava/lang/Object;ILjava/lang/Object;II)V" } : Jvm.MethodName)) ∈ kw_tbl := kts_2 (i := 139) rfl rfl
set_option maxRecDepth 100000 in
theorem kt_380 : (Jvm.Cond.static ({ cls := "java/lang/System", name := "arraycopy", desc := "(Ljava/lang/Object;ILjava/lang/Object;II)V" } : Jvm.MethodName)) ∈ kw_tbl := kts_2 (i := 140) rfl rfl
set_option maxRecDepth 100000 in
theorem kt_382 : (Jvm.Cond.methodLink "SafeSweeps" (147 : Nat) ({ cls := "SafeSweeps$Store", name := "add", desc := "(JI[I)I" } : Jvm.MethodName)) ∈ kw_tbl := kts_2 (i := 142) rfl rfl
set_option maxRecDepth 100000 in
theorem kt_383 : (Jvm.Cond.instanceMethod ({ cls := "SafeSweeps$Store", name := "add", desc := "(JI[I)I" } : Jvm.MethodName)) ∈ kw_tbl := kts_2 (i := 143) rfl rfl
set_option maxRecDepth 100000 in
theorem kt_384 : (Jvm.Cond.selects "SafeSweeps$Store" ({ cls := "SafeSweeps$Store", name := "add", desc := "(JI[I)I" } : Jvm.MethodName) ({ cls := "SafeSweeps$Store", name := "add", desc := "(JI[I)I" } : Jvm.MethodName)) ∈ kw_tbl := kts_2 (i := 144) rfl rfl
set_option maxRecDepth 100000 in
theorem kt_385 : (Jvm.Cond.code ({ cls := "SafeSweeps$Store", name := "add", desc := "(JI[I)I" } : Jvm.MethodName) prog_11_method_9_code (8 : Nat) (Option.some Jvm.ClassFile.FieldType.int)) ∈ kw_tbl := kts_2 (i := 145) rfl rfl
set_option maxRecDepth 100000 in
theorem kt_386 : (Jvm.Cond.methodLink "SafeSweeps$Store" (71 : Nat) ({ cls := "SafeSweeps$Journal", name := "write", desc := "(II)Z" } : Jvm.MethodName)) ∈ kw_tbl := kts_2 (i := 146) rfl rfl
set_option maxRecDepth 100000 in
theorem kt_387 : (Jvm.Cond.instanceMethod ({ cls := "SafeSweeps$Journal", name := "write", desc := "(II)Z" } : Jvm.MethodName)) ∈ kw_tbl := kts_2 (i := 147) rfl rfl
set_option maxRecDepth 100000 in
theorem kt_388 : (Jvm.Cond.selects "SafeSweeps$Journal" ({ cls := "SafeSweeps$Journal", name := "write", desc := "(II)Z" } : Jvm.MethodName) ({ cls := "SafeSweeps$Journal", name := "write", desc := "(II)Z" } : Jvm.MethodName)) ∈ kw_tbl := kts_2 (i := 148) rfl rfl
set_option maxRecDepth 100000 in
theorem kt_389 : (Jvm.Cond.code ({ cls := "SafeSweeps$Journal", name := "write", desc := "(II)Z" } : Jvm.MethodName) prog_4_method_3_code (3 : Nat) (Option.some Jvm.ClassFile.FieldType.boolean)) ∈ kw_tbl := kts_2 (i := 149) rfl rfl
set_option maxRecDepth 100000 in
theorem kt_390 : (Jvm.Cond.methodLink "SafeSweeps$Journal" (29 : Nat) ({ cls := "SafeSweeps$Journal", name := "write", desc := "()Z" } : Jvm.MethodName)) ∈ kw_tbl := kts_2 (i := 150) rfl rfl
set_option maxRecDepth 100000 in
theorem kt_391 : (Jvm.Cond.instanceMethod ({ cls := "SafeSweeps$Journal", name := "write", desc := "()Z" } : Jvm.MethodName)) ∈ kw_tbl := kts_2 (i := 151) rfl rfl
set_option maxRecDepth 100000 in
theorem kt_392 : (Jvm.Cond.selects "SafeSweeps$Journal" ({ cls := "SafeSweeps$Journal", name := "write", desc := "()Z" } : Jvm.MethodName) ({ cls := "SafeSweeps$Journal", name := "write", desc := "()Z" } : Jvm.MethodName)) ∈ kw_tbl := kts_2 (i := 152) rfl rfl
set_option maxRecDepth 100000 in
theorem kt_393 : (Jvm.Cond.code ({ cls := "SafeSweeps$Journal", name := "write", desc := "()Z" } : Jvm.MethodName) prog_4_method_2_code (1 : Nat) (Option.some Jvm.ClassFile.FieldType.boolean)) ∈ kw_tbl := kts_2 (i := 153) rfl rfl
set_option maxRecDepth 100000 in
theorem kt_394 : (Jvm.Cond.instantiable "SafeSweeps$Block" (8 : Nat)) ∈ kw_tbl := kts_2 (i := 154) rfl rfl
set_option maxRecDepth 100000 in
theorem kt_395 : (Jvm.Cond.methodLink "SafeSweeps$Store" (74 : Nat) ({ cls := "SafeSweeps$Block", name := "<init>", desc := "(JI[I)V" } : Jvm.MethodName)) ∈ kw_tbl := kts_2 (i := 155) rfl rfl
set_option maxRecDepth 100000 in
theorem kt_396 : (Jvm.Cond.instanceMethod ({ cls := "SafeSweeps$Block", name := "<init>", desc := "(JI[I)V" } : Jvm.MethodName)) ∈ kw_tbl := kts_2 (i := 156) rfl rfl
set_option maxRecDepth 100000 in
theorem kt_397 : (Jvm.Cond.code ({ cls := "SafeSweeps$Block", name := "<init>", desc := "(JI[I)V" } : Jvm.MethodName) prog_2_method_1_code (5 : Nat) (Option.none : Option Jvm.ClassFile.FieldType)) ∈ kw_tbl := kts_2 (i := 157) rfl rfl
set_option maxRecDepth 100000 in
theorem kt_398 : (Jvm.Cond.methodLink "SafeSweeps$Block" (1 : Nat) ({ cls := "java/lang/Object", name := "<init>", desc := "()V" } : Jvm.MethodName)) ∈ kw_tbl := kts_2 (i := 158) rfl rfl
set_option maxRecDepth 100000 in
theorem kt_399 : (Jvm.Cond.fieldLink "SafeSweeps$Block" (7 : Nat) "SafeSweeps$Block" "key" "J") ∈ kw_tbl := kts_2 (i := 159) rfl rfl
set_option maxRecDepth 100000 in
theorem kt_400 : (Jvm.Cond.fieldLink "SafeSweeps" (326 : Nat) "SafeSweeps$Block" "key" "J") ∈ kw_tbl := kts_2 (i := 160) rfl rfl
set_option maxRecDepth 100000 in
theorem kt_401 : (Jvm.Cond.fieldLink "SafeSweeps$Block" (13 : Nat) "SafeSweeps$Block" "size" "I") ∈ kw_tbl := kts_2 (i := 161) rfl rfl
set_option maxRecDepth 100000 in
theorem kt_402 : (Jvm.Cond.fieldLink "SafeSweeps$Mover" (93 : Nat) "SafeSweeps$Block" "size" "I") ∈ kw_tbl := kts_2 (i := 162) rfl rfl
set_option maxRecDepth 100000 in
theorem kt_403 : (Jvm.Cond.fieldLink "SafeSweeps$Store" (85 : Nat) "SafeSweeps$Block" "size" "I") ∈ kw_tbl := kts_2 (i := 163) rfl rfl
set_option maxRecDepth 100000 in
theorem kt_404 : (Jvm.Cond.fieldLink "SafeSweeps" (307 : Nat) "SafeSweeps$Block" "size" "I") ∈ kw_tbl := kts_2 (i := 164) rfl rfl
set_option maxRecDepth 100000 in
theorem kt_405 : (Jvm.Cond.fieldLink "SafeSweeps$Block" (17 : Nat) "SafeSweeps$Block" "children" "[I") ∈ kw_tbl := kts_2 (i := 165) rfl rfl
set_option maxRecDepth 100000 in
theorem kt_406 : (Jvm.Cond.fieldLink "SafeSweeps$Sweep" (94 : Nat) "SafeSweeps$Block" "children" "[I") ∈ kw_tbl := kts_2 (i := 166) rfl rfl
set_option maxRecDepth 100000 in
theorem kt_407 : (Jvm.Cond.fieldLink "SafeSweeps$Store" (101 : Nat) "SafeSweeps$Block" "children" "[I") ∈ kw_tbl := kts_2 (i := 167) rfl rfl
set_option maxRecDepth 100000 in
theorem kt_408 : (Jvm.Cond.fieldLink "SafeSweeps" (325 : Nat) "SafeSweeps$Block" "children" "[I") ∈ kw_tbl := kts_2 (i := 168) rfl rfl
set_option maxRecDepth 100000 in
theorem kt_409 : (Jvm.Cond.fieldLink "SafeSweeps$Store" (49 : Nat) "SafeSweeps$Block" "pack" "I") ∈ kw_tbl := kts_2 (i := 169) rfl rfl
set_option maxRecDepth 100000 in
theorem kt_410 : (Jvm.Cond.fieldLink "SafeSweeps" (310 : Nat) "SafeSweeps$Block" "pack" "I") ∈ kw_tbl := kts_2 (i := 170) rfl rfl
set_option maxRecDepth 100000 in
theorem kt_411 : (Jvm.Cond.fieldLink "SafeSweeps$Mover" (81 : Nat) "SafeSweeps$Block" "place" "I") ∈ kw_tbl := kts_2 (i := 171) rfl rfl
set_option maxRecDepth 100000 in
theorem kt_412 : (Jvm.Cond.fieldLink "SafeSweeps$Store" (82 : Nat) "SafeSweeps$Block" "place" "I") ∈ kw_tbl := kts_2 (i := 172) rfl rfl
set_option maxRecDepth 100000 in
theorem kt_413 : (Jvm.Cond.fieldLink "SafeSweeps" (313 : Nat) "SafeSweeps$Block" "place" "I") ∈ kw_tbl := kts_2 (i := 173) rfl rfl
set_option maxRecDepth 100000 in
theorem kt_414 : (Jvm.Cond.fieldLink "SafeSweeps$Store" (42 : Nat) "SafeSweeps$Block" "waiting" "I") ∈ kw_tbl := kts_2 (i := 174) rfl rfl
set_option maxRecDepth 100000 in
theorem kt_415 : (Jvm.Cond.fieldLink "SafeSweeps$Sweep" (101 : Nat) "SafeSweeps$Block" "waiting" "I") ∈ kw_tbl := kts_2 (i := 175) rfl rfl
set_option maxRecDepth 100000 in
theorem kt_416 : (Jvm.Cond.fieldLink "SafeSweeps" (316 : Nat) "SafeSweeps$Block" "waiting" "I") ∈ kw_tbl := kts_2 (i := 176) rfl rfl
set_option maxRecDepth 100000 in
theorem kt_417 : (Jvm.Cond.fieldLink "SafeSweeps$Store" (38 : Nat) "SafeSweeps$Block" "freed" "Z") ∈ kw_tbl := kts_2 (i := 177) rfl rfl
set_option maxRecDepth 100000 in
theorem kt_418 : (Jvm.Cond.fieldLink "SafeSweeps$Sweep" (108 : Nat) "SafeSweeps$Block" "freed" "Z") ∈ kw_tbl := kts_2 (i := 178) rfl rfl
set_option maxRecDepth 100000 in
theorem kt_419 : (Jvm.Cond.fieldLink "SafeSweeps" (302 : Nat) "SafeSweeps$Block" "freed" "Z") ∈ kw_tbl := kts_2 (i := 179) rfl rfl
set_option maxRecDepth 100000 in
theorem kt_420 : (Jvm.Cond.fieldLink "SafeSweeps$Sweep" (56 : Nat) "SafeSweeps$Block" "marked" "Z") ∈ kw_tbl := kts_2 (i := 180) rfl rfl
set_option maxRecDepth 100000 in
theorem kt_421 : (Jvm.Cond.fieldLink "SafeSweeps$Store" (115 : Nat) "SafeSweeps$Block" "marked" "Z") ∈ kw_tbl := kts_2 (i := 181) rfl rfl
set_option maxRecDepth 100000 in
theorem kt_422 : (Jvm.Cond.fieldLink "SafeSweeps" (319 : Nat) "SafeSweeps$Block" "marked" "Z") ∈ kw_tbl := kts_2 (i := 182) rfl rfl
set_option maxRecDepth 100000 in
theorem kt_423 : (Jvm.Cond.laysFinal "SafeSweeps$Block" "SafeSweeps$Block" "key" "J") ∈ kw_tbl := kts_2 (i := 183) rfl rfl
set_option maxRecDepth 100000 in
theorem kt_425 : (Jvm.Cond.laysFinal "SafeSweeps$Block" "SafeSweeps$Block" "size" "I") ∈ kw_tbl := kts_2 (i := 185) rfl rfl
set_option maxRecDepth 100000 in
theorem kt_427 : (Jvm.Cond.laysFinal "SafeSweeps$Block" "SafeSweeps$Block" "children" "[I") ∈ kw_tbl := kts_2 (i := 187) rfl rfl
set_option maxRecDepth 100000 in
theorem kt_429 : (Jvm.Cond.lays "SafeSweeps$Block" "SafeSweeps$Block" "pack" "I") ∈ kw_tbl := kts_2 (i := 189) rfl rfl
set_option maxRecDepth 100000 in
theorem kt_431 : (Jvm.Cond.lays "SafeSweeps$Block" "SafeSweeps$Block" "place" "I") ∈ kw_tbl := kts_2 (i := 191) rfl rfl
set_option maxRecDepth 100000 in
theorem kt_433 : (Jvm.Cond.lays "SafeSweeps$Block" "SafeSweeps$Block" "waiting" "I") ∈ kw_tbl := kts_2 (i := 193) rfl rfl
set_option maxRecDepth 100000 in
theorem kt_435 : (Jvm.Cond.lays "SafeSweeps$Block" "SafeSweeps$Block" "freed" "Z") ∈ kw_tbl := kts_2 (i := 195) rfl rfl
set_option maxRecDepth 100000 in
theorem kt_437 : (Jvm.Cond.lays "SafeSweeps$Block" "SafeSweeps$Block" "marked" "Z") ∈ kw_tbl := kts_2 (i := 197) rfl rfl
set_option maxRecDepth 100000 in
theorem kt_440 : (Jvm.Cond.methodLink "SafeSweeps$Store" (77 : Nat) ({ cls := "SafeSweeps$Store", name := "lay", desc := "(III)V" } : Jvm.MethodName)) ∈ kw_tbl := kts_2 (i := 200) rfl rfl
set_option maxRecDepth 100000 in
theorem kt_441 : (Jvm.Cond.instanceMethod ({ cls := "SafeSweeps$Store", name := "lay", desc := "(III)V" } : Jvm.MethodName)) ∈ kw_tbl := kts_2 (i := 201) rfl rfl
set_option maxRecDepth 100000 in
theorem kt_442 : (Jvm.Cond.selects "SafeSweeps$Store" ({ cls := "SafeSweeps$Store", name := "lay", desc := "(III)V" } : Jvm.MethodName) ({ cls := "SafeSweeps$Store", name := "lay", desc := "(III)V" } : Jvm.MethodName)) ∈ kw_tbl := kts_2 (i := 202) rfl rfl
set_option maxRecDepth 100000 in
theorem kt_443 : (Jvm.Cond.code ({ cls := "SafeSweeps$Store", name := "lay", desc := "(III)V" } : Jvm.MethodName) prog_11_method_10_code (4 : Nat) (Option.none : Option Jvm.ClassFile.FieldType)) ∈ kw_tbl := kts_2 (i := 203) rfl rfl
set_option maxRecDepth 100000 in
theorem kt_444 : (Jvm.Cond.instantiable "SafeSweeps$Pack" (3 : Nat)) ∈ kw_tbl := kts_2 (i := 204) rfl rfl
set_option maxRecDepth 100000 in
theorem kt_446 : (Jvm.Cond.instanceMethod ({ cls := "SafeSweeps$Pack", name := "<init>", desc := "()V" } : Jvm.MethodName)) ∈ kw_tbl := kts_2 (i := 206) rfl rfl
set_option maxRecDepth 100000 in
theorem kt_447 : (Jvm.Cond.code ({ cls := "SafeSweeps$Pack", name := "<init>", desc := "()V" } : Jvm.MethodName) prog_7_method_1_code (1 : Nat) (Option.none : Option Jvm.ClassFile.FieldType)) ∈ kw_tbl := kts_2 (i := 207) rfl rfl
set_option maxRecDepth 100000 in
theorem kt_448 : (Jvm.Cond.methodLink "SafeSweeps$Pack" (1 : Nat) ({ cls := "java/lang/Object", name := "<init>", desc := "()V" } : Jvm.MethodName)) ∈ kw_tbl := kts_2 (i := 208) rfl rfl
set_option maxRecDepth 100000 in
theorem kt_449 : (Jvm.Cond.fieldLink "SafeSweeps$Mover" (44 : Nat) "SafeSweeps$Pack" "all" "I") ∈ kw_tbl := kts_2 (i := 209) rfl rfl
set_option maxRecDepth 100000 in
theorem kt_450 : (Jvm.Cond.fieldLink "SafeSweeps$Store" (62 : Nat) "SafeSweeps$Pack" "all" "I") ∈ kw_tbl := kts_2 (i := 210) rfl rfl
set_option maxRecDepth 100000 in
theorem kt_451 : (Jvm.Cond.fieldLink "SafeSweeps" (336 : Nat) "SafeSweeps$Pack" "all" "I") ∈ kw_tbl := kts_2 (i := 211) rfl rfl
set_option maxRecDepth 100000 in
theorem kt_452 : (Jvm.Cond.fieldLink "SafeSweeps$Mover" (40 : Nat) "SafeSweeps$Pack" "holes" "I") ∈ kw_tbl := kts_2 (i := 212) rfl rfl
set_option maxRecDepth 100000 in
theorem kt_453 : (Jvm.Cond.fieldLink "SafeSweeps$Store" (88 : Nat) "SafeSweeps$Pack" "holes" "I") ∈ kw_tbl := kts_2 (i := 213) rfl rfl
set_option maxRecDepth 100000 in
theorem kt_454 : (Jvm.Cond.fieldLink "SafeSweeps" (339 : Nat) "SafeSweeps$Pack" "holes" "I") ∈ kw_tbl := kts_2 (i := 214) rfl rfl
set_option maxRecDepth 100000 in
theorem kt_455 : (Jvm.Cond.fieldLink "SafeSweeps$Mover" (34 : Nat) "SafeSweeps$Pack" "gone" "Z") ∈ kw_tbl := kts_2 (i := 215) rfl rfl
set_option maxRecDepth 100000 in
theorem kt_456 : (Jvm.Cond.fieldLink "SafeSweeps$Store" (59 : Nat) "SafeSweeps$Pack" "gone" "Z") ∈ kw_tbl := kts_2 (i := 216) rfl rfl
set_option maxRecDepth 100000 in
theorem kt_457 : (Jvm.Cond.fieldLink "SafeSweeps" (333 : Nat) "SafeSweeps$Pack" "gone" "Z") ∈ kw_tbl := kts_2 (i := 217) rfl rfl
set_option maxRecDepth 100000 in
theorem kt_458 : (Jvm.Cond.lays "SafeSweeps$Pack" "SafeSweeps$Pack" "all" "I") ∈ kw_tbl := kts_2 (i := 218) rfl rfl
set_option maxRecDepth 100000 in
theorem kt_460 : (Jvm.Cond.lays "SafeSweeps$Pack" "SafeSweeps$Pack" "holes" "I") ∈ kw_tbl := kts_2 (i := 220) rfl rfl
set_option maxRecDepth 100000 in
theorem kt_462 : (Jvm.Cond.lays "SafeSweeps$Pack" "SafeSweeps$Pack" "gone" "Z") ∈ kw_tbl := kts_2 (i := 222) rfl rfl
set_option maxRecDepth 100000 in
theorem kt_465 : (Jvm.Cond.methodLink "SafeSweeps" (151 : Nat) ({ cls := "SafeSweeps", name := "losePower", desc := "()I" } : Jvm.MethodName)) ∈ kw_tbl := kts_2 (i := 225) rfl rfl
set_option maxRecDepth 100000 in
theorem kt_467 : (Jvm.Cond.instanceMethod ({ cls := "SafeSweeps", name := "losePower", desc := "()I" } : Jvm.MethodName)) ∈ kw_tbl := kts_2 (i := 227) rfl rfl
set_option maxRecDepth 100000 in
theorem kt_468 : (Jvm.Cond.code ({ cls := "SafeSweeps", name := "losePower", desc := "()I" } : Jvm.MethodName) prog_1_method_30_code (2 : Nat) (Option.some Jvm.ClassFile.FieldType.int)) ∈ kw_tbl := kts_2 (i := 228) rfl rfl
set_option maxRecDepth 100000 in
theorem kt_469 : (Jvm.Cond.methodLink "SafeSweeps" (155 : Nat) ({ cls := "SafeSweeps$Saver", name := "use", desc := "(I)V" } : Jvm.MethodName)) ∈ kw_tbl := kts_2 (i := 229) rfl rfl
set_option maxRecDepth 100000 in
theorem kt_470 : (Jvm.Cond.instanceMethod ({ cls := "SafeSweeps$Saver", name := "use", desc := "(I)V" } : Jvm.MethodName)) ∈ kw_tbl := kts_2 (i := 230) rfl rfl
set_option maxRecDepth 100000 in
theorem kt_471 : (Jvm.Cond.selects "SafeSweeps$Saver" ({ cls := "SafeSweeps$Saver", name := "use", desc := "(I)V" } : Jvm.MethodName) ({ cls := "SafeSweeps$Saver", name := "use", desc := "(I)V" } : Jvm.MethodName)) ∈ kw_tbl := kts_2 (i := 231) rfl rfl
set_option maxRecDepth 100000 in
theorem kt_472 : (Jvm.Cond.code ({ cls := "SafeSweeps$Saver", name := "use", desc := "(I)V" } : Jvm.MethodName) prog_9_method_7_code (2 : Nat) (Option.none : Option Jvm.ClassFile.FieldType)) ∈ kw_tbl := kts_2 (i := 232) rfl rfl
set_option maxRecDepth 100000 in
theorem kt_473 : (Jvm.Cond.methodLink "SafeSweeps$Saver" (40 : Nat) ({ cls := "SafeSweeps$Saver", name := "uses", desc := "(I)Z" } : Jvm.MethodName)) ∈ kw_tbl := kts_2 (i := 233) rfl rfl
set_option maxRecDepth 100000 in
theorem kt_474 : (Jvm.Cond.methodLink "SafeSweeps" (131 : Nat) ({ cls := "SafeSweeps", name := "saveFound", desc := "(LSafeSweeps$Saver;I)I" } : Jvm.MethodName)) ∈ kw_tbl := kts_2 (i := 234) rfl rfl
set_option maxRecDepth 100000 in
theorem kt_476 : (Jvm.Cond.instanceMethod ({ cls := "SafeSweeps", name := "saveFound", desc := "(LSafeSweeps$Saver;I)I" } : Jvm.MethodName)) ∈ kw_tbl := kts_2 (i := 236) rfl rfl
set_option maxRecDepth 100000 in
theorem kt_477 : (Jvm.Cond.code ({ cls := "SafeSweeps", name := "saveFound", desc := "(LSafeSweeps$Saver;I)I" } : Jvm.MethodName) prog_1_method_7_code (3 : Nat) (Option.some Jvm.ClassFile.FieldType.int)) ∈ kw_tbl := kts_2 (i := 237) rfl rfl
set_option maxRecDepth 100000 in
theorem kt_478 : (Jvm.Cond.methodLink "SafeSweeps" (159 : Nat) ({ cls := "SafeSweeps$Saver", name := "canUse", desc := "(I)Z" } : Jvm.MethodName)) ∈ kw_tbl := kts_2 (i := 238) rfl rfl
set_option maxRecDepth 100000 in
theorem kt_479 : (Jvm.Cond.instanceMethod ({ cls := "SafeSweeps$Saver", name := "canUse", desc := "(I)Z" } : Jvm.MethodName)) ∈ kw_tbl := kts_2 (i := 239) rfl rfl
set_option maxRecDepth 100000 in
theorem kt_480 : (Jvm.Cond.selects "SafeSweeps$Saver" ({ cls := "SafeSweeps$Saver", name := "canUse", desc := "(I)Z" } : Jvm.MethodName) ({ cls := "SafeSweeps$Saver", name := "canUse", desc := "(I)Z" } : Jvm.MethodName)) ∈ kw_tbl := kts_3 (i := 0) rfl rfl
set_option maxRecDepth 100000 in
theorem kt_481 : (Jvm.Cond.code ({ cls := "SafeSweeps$Saver", name := "canUse", desc := "(I)Z" } : Jvm.MethodName) prog_9_method_6_code (2 : Nat) (Option.some Jvm.ClassFile.FieldType.boolean)) ∈ kw_tbl := kts_3 (i := 1) rfl rfl
set_option maxRecDepth 100000 in
theorem kt_482 : (Jvm.Cond.methodLink "SafeSweeps" (162 : Nat) ({ cls := "SafeSweeps", name := "takeFor", desc := "(LSafeSweeps$Saver;I)I" } : Jvm.MethodName)) ∈ kw_tbl := kts_3 (i := 2) rfl rfl
set_option maxRecDepth 100000 in
theorem kt_484 : (Jvm.Cond.instanceMethod ({ cls := "SafeSweeps", name := "takeFor", desc := "(LSafeSweeps$Saver;I)I" } : Jvm.MethodName)) ∈ kw_tbl := kts_3 (i := 4) rfl rfl
set_option maxRecDepth 100000 in
theorem kt_485 : (Jvm.Cond.code ({ cls := "SafeSweeps", name := "takeFor", desc := "(LSafeSweeps$Saver;I)I" } : Jvm.MethodName) prog_1_method_9_code (4 : Nat) (Option.some Jvm.ClassFile.FieldType.int)) ∈ kw_tbl := kts_3 (i := 5) rfl rfl
set_option maxRecDepth 100000 in
theorem kt_486 : (Jvm.Cond.methodLink "SafeSweeps" (165 : Nat) ({ cls := "SafeSweeps$Store", name := "reachNothing", desc := "()V" } : Jvm.MethodName)) ∈ kw_tbl := kts_3 (i := 6) rfl rfl
set_option maxRecDepth 100000 in
theorem kt_487 : (Jvm.Cond.instanceMethod ({ cls := "SafeSweeps$Store", name := "reachNothing", desc := "()V" } : Jvm.MethodName)) ∈ kw_tbl := kts_3 (i := 7) rfl rfl
set_option maxRecDepth 100000 in
theorem kt_488 : (Jvm.Cond.selects "SafeSweeps$Store" ({ cls := "SafeSweeps$Store", name := "reachNothing", desc := "()V" } : Jvm.MethodName) ({ cls := "SafeSweeps$Store", name := "reachNothing", desc := "()V" } : Jvm.MethodName)) ∈ kw_tbl := kts_3 (i := 8) rfl rfl
set_option maxRecDepth 100000 in
theorem kt_489 : (Jvm.Cond.code ({ cls := "SafeSweeps$Store", name := "reachNothing", desc := "()V" } : Jvm.MethodName) prog_11_method_13_code (2 : Nat) (Option.none : Option Jvm.ClassFile.FieldType)) ∈ kw_tbl := kts_3 (i := 9) rfl rfl
set_option maxRecDepth 100000 in
theorem kt_490 : (Jvm.Cond.methodLink "SafeSweeps" (168 : Nat) ({ cls := "SafeSweeps$Store", name := "startFrom", desc := "(I)V" } : Jvm.MethodName)) ∈ kw_tbl := kts_3 (i := 10) rfl rfl
set_option maxRecDepth 100000 in
theorem kt_491 : (Jvm.Cond.instanceMethod ({ cls := "SafeSweeps$Store", name := "startFrom", desc := "(I)V" } : Jvm.MethodName)) ∈ kw_tbl := kts_3 (i := 11) rfl rfl
set_option maxRecDepth 100000 in
theorem kt_492 : (Jvm.Cond.selects "SafeSweeps$Store" ({ cls := "SafeSweeps$Store", name := "startFrom", desc := "(I)V" } : Jvm.MethodName) ({ cls := "SafeSweeps$Store", name := "startFrom", desc := "(I)V" } : Jvm.MethodName)) ∈ kw_tbl := kts_3 (i := 12) rfl rfl
set_option maxRecDepth 100000 in
theorem kt_493 : (Jvm.Cond.code ({ cls := "SafeSweeps$Store", name := "startFrom", desc := "(I)V" } : Jvm.MethodName) prog_11_method_14_code (2 : Nat) (Option.none : Option Jvm.ClassFile.FieldType)) ∈ kw_tbl := kts_3 (i := 13) rfl rfl
set_option maxRecDepth 100000 in
theorem kt_494 : (Jvm.Cond.methodLink "SafeSweeps" (171 : Nat) ({ cls := "SafeSweeps$Store", name := "reachOn", desc := "()V" } : Jvm.MethodName)) ∈ kw_tbl := kts_3 (i := 14) rfl rfl
set_option maxRecDepth 100000 in
theorem kt_495 : (Jvm.Cond.instanceMethod ({ cls := "SafeSweeps$Store", name := "reachOn", desc := "()V" } : Jvm.MethodName)) ∈ kw_tbl := kts_3 (i := 15) rfl rfl
set_option maxRecDepth 100000 in
theorem kt_496 : (Jvm.Cond.selects "SafeSweeps$Store" ({ cls := "SafeSweeps$Store", name := "reachOn", desc := "()V" } : Jvm.MethodName) ({ cls := "SafeSweeps$Store", name := "reachOn", desc := "()V" } : Jvm.MethodName)) ∈ kw_tbl := kts_3 (i := 16) rfl rfl
set_option maxRecDepth 100000 in
theorem kt_497 : (Jvm.Cond.code ({ cls := "SafeSweeps$Store", name := "reachOn", desc := "()V" } : Jvm.MethodName) prog_11_method_17_code (2 : Nat) (Option.none : Option Jvm.ClassFile.FieldType)) ∈ kw_tbl := kts_3 (i := 17) rfl rfl
set_option maxRecDepth 100000 in
theorem kt_498 : (Jvm.Cond.methodLink "SafeSweeps$Store" (105 : Nat) ({ cls := "SafeSweeps$Store", name := "startFromAll", desc := "([II)V" } : Jvm.MethodName)) ∈ kw_tbl := kts_3 (i := 18) rfl rfl
set_option maxRecDepth 100000 in
theorem kt_499 : (Jvm.Cond.instanceMethod ({ cls := "SafeSweeps$Store", name := "startFromAll", desc := "([II)V" } : Jvm.MethodName)) ∈ kw_tbl := kts_3 (i := 19) rfl rfl
set_option maxRecDepth 100000 in
theorem kt_500 : (Jvm.Cond.selects "SafeSweeps$Store" ({ cls := "SafeSweeps$Store", name := "startFromAll", desc := "([II)V" } : Jvm.MethodName) ({ cls := "SafeSweeps$Store", name := "startFromAll", desc := "([II)V" } : Jvm.MethodName)) ∈ kw_tbl := kts_3 (i := 20) rfl rfl
set_option maxRecDepth 100000 in
theorem kt_501 : (Jvm.Cond.code ({ cls := "SafeSweeps$Store", name := "startFromAll", desc := "([II)V" } : Jvm.MethodName) prog_11_method_15_code (4 : Nat) (Option.none : Option Jvm.ClassFile.FieldType)) ∈ kw_tbl := kts_3 (i := 21) rfl rfl
set_option maxRecDepth 100000 in
theorem kt_502 : (Jvm.Cond.methodLink "SafeSweeps$Store" (97 : Nat) ({ cls := "SafeSweeps$Store", name := "startFrom", desc := "(I)V" } : Jvm.MethodName)) ∈ kw_tbl := kts_3 (i := 22) rfl rfl
set_option maxRecDepth 100000 in
theorem kt_503 : (Jvm.Cond.methodLink "SafeSweeps" (174 : Nat) ({ cls := "SafeSweeps$Store", name := "reviveReached", desc := "()I" } : Jvm.MethodName)) ∈ kw_tbl := kts_3 (i := 23) rfl rfl
set_option maxRecDepth 100000 in
theorem kt_504 : (Jvm.Cond.instanceMethod ({ cls := "SafeSweeps$Store", name := "reviveReached", desc := "()I" } : Jvm.MethodName)) ∈ kw_tbl := kts_3 (i := 24) rfl rfl
set_option maxRecDepth 100000 in
theorem kt_505 : (Jvm.Cond.selects "SafeSweeps$Store" ({ cls := "SafeSweeps$Store", name := "reviveReached", desc := "()I" } : Jvm.MethodName) ({ cls := "SafeSweeps$Store", name := "reviveReached", desc := "()I" } : Jvm.MethodName)) ∈ kw_tbl := kts_3 (i := 25) rfl rfl
set_option maxRecDepth 100000 in
theorem kt_506 : (Jvm.Cond.code ({ cls := "SafeSweeps$Store", name := "reviveReached", desc := "()I" } : Jvm.MethodName) prog_11_method_18_code (3 : Nat) (Option.some Jvm.ClassFile.FieldType.int)) ∈ kw_tbl := kts_3 (i := 26) rfl rfl
set_option maxRecDepth 100000 in
theorem kt_507 : (Jvm.Cond.methodLink "SafeSweeps$Store" (109 : Nat) ({ cls := "SafeSweeps$Store", name := "await", desc := "(II)Z" } : Jvm.MethodName)) ∈ kw_tbl := kts_3 (i := 27) rfl rfl
set_option maxRecDepth 100000 in
theorem kt_508 : (Jvm.Cond.instanceMethod ({ cls := "SafeSweeps$Store", name := "await", desc := "(II)Z" } : Jvm.MethodName)) ∈ kw_tbl := kts_3 (i := 28) rfl rfl
set_option maxRecDepth 100000 in
theorem kt_509 : (Jvm.Cond.selects "SafeSweeps$Store" ({ cls := "SafeSweeps$Store", name := "await", desc := "(II)Z" } : Jvm.MethodName) ({ cls := "SafeSweeps$Store", name := "await", desc := "(II)Z" } : Jvm.MethodName)) ∈ kw_tbl := kts_3 (i := 29) rfl rfl
set_option maxRecDepth 100000 in
theorem kt_510 : (Jvm.Cond.code ({ cls := "SafeSweeps$Store", name := "await", desc := "(II)Z" } : Jvm.MethodName) prog_11_method_12_code (3 : Nat) (Option.some Jvm.ClassFile.FieldType.boolean)) ∈ kw_tbl := kts_3 (i := 30) rfl rfl
set_option maxRecDepth 100000 in
theorem kt_511 : (Jvm.Cond.methodLink "SafeSweeps$Store" (94 : Nat) ({ cls := "SafeSweeps$Journal", name := "write", desc := "()Z" } : Jvm.MethodName)) ∈ kw_tbl := kts_3 (i := 31) rfl rfl
set_option maxRecDepth 100000 in
theorem kt_512 : (Jvm.Cond.methodLink "SafeSweeps" (177 : Nat) ({ cls := "SafeSweeps$Sweep", name := "spareReached", desc := "(I)V" } : Jvm.MethodName)) ∈ kw_tbl := kts_3 (i := 32) rfl rfl
set_option maxRecDepth 100000 in
theorem kt_513 : (Jvm.Cond.instanceMethod ({ cls := "SafeSweeps$Sweep", name := "spareReached", desc := "(I)V" } : Jvm.MethodName)) ∈ kw_tbl := kts_3 (i := 33) rfl rfl
set_option maxRecDepth 100000 in
theorem kt_514 : (Jvm.Cond.selects "SafeSweeps$Sweep" ({ cls := "SafeSweeps$Sweep", name := "spareReached", desc := "(I)V" } : Jvm.MethodName) ({ cls := "SafeSweeps$Sweep", name := "spareReached", desc := "(I)V" } : Jvm.MethodName)) ∈ kw_tbl := kts_3 (i := 34) rfl rfl
set_option maxRecDepth 100000 in
theorem kt_515 : (Jvm.Cond.code ({ cls := "SafeSweeps$Sweep", name := "spareReached", desc := "(I)V" } : Jvm.MethodName) prog_12_method_5_code (2 : Nat) (Option.none : Option Jvm.ClassFile.FieldType)) ∈ kw_tbl := kts_3 (i := 35) rfl rfl
set_option maxRecDepth 100000 in
theorem kt_516 : (Jvm.Cond.methodLink "SafeSweeps$Sweep" (66 : Nat) ({ cls := "SafeSweeps$Store", name := "markReached", desc := "()V" } : Jvm.MethodName)) ∈ kw_tbl := kts_3 (i := 36) rfl rfl
set_option maxRecDepth 100000 in
theorem kt_517 : (Jvm.Cond.instanceMethod ({ cls := "SafeSweeps$Store", name := "markReached", desc := "()V" } : Jvm.MethodName)) ∈ kw_tbl := kts_3 (i := 37) rfl rfl
set_option maxRecDepth 100000 in
theorem kt_518 : (Jvm.Cond.selects "SafeSweeps$Store" ({ cls := "SafeSweeps$Store", name := "markReached", desc := "()V" } : Jvm.MethodName) ({ cls := "SafeSweeps$Store", name := "markReached", desc := "()V" } : Jvm.MethodName)) ∈ kw_tbl := kts_3 (i := 38) rfl rfl
set_option maxRecDepth 100000 in
theorem kt_519 : (Jvm.Cond.code ({ cls := "SafeSweeps$Store", name := "markReached", desc := "()V" } : Jvm.MethodName) prog_11_method_19_code (2 : Nat) (Option.none : Option Jvm.ClassFile.FieldType)) ∈ kw_tbl := kts_3 (i := 39) rfl rfl
set_option maxRecDepth 100000 in
theorem kt_520 : (Jvm.Cond.methodLink "SafeSweeps$Sweep" (62 : Nat) ({ cls := "SafeSweeps$Sweep", name := "lineUp", desc := "(I)V" } : Jvm.MethodName)) ∈ kw_tbl := kts_3 (i := 40) rfl rfl
set_option maxRecDepth 100000 in
theorem kt_521 : (Jvm.Cond.instanceMethod ({ cls := "SafeSweeps$Sweep", name := "lineUp", desc := "(I)V" } : Jvm.MethodName)) ∈ kw_tbl := kts_3 (i := 41) rfl rfl
set_option maxRecDepth 100000 in
theorem kt_522 : (Jvm.Cond.selects "SafeSweeps$Sweep" ({ cls := "SafeSweeps$Sweep", name := "lineUp", desc := "(I)V" } : Jvm.MethodName) ({ cls := "SafeSweeps$Sweep", name := "lineUp", desc := "(I)V" } : Jvm.MethodName)) ∈ kw_tbl := kts_3 (i := 42) rfl rfl
set_option maxRecDepth 100000 in
theorem kt_523 : (Jvm.Cond.code ({ cls := "SafeSweeps$Sweep", name := "lineUp", desc := "(I)V" } : Jvm.MethodName) prog_12_method_3_code (2 : Nat) (Option.none : Option Jvm.ClassFile.FieldType)) ∈ kw_tbl := kts_3 (i := 43) rfl rfl
set_option maxRecDepth 100000 in
theorem kt_524 : (Jvm.Cond.methodLink "SafeSweepsLaw" (43 : Nat) ({ cls := "SafeSweeps", name := "take", desc := "(II)I" } : Jvm.MethodName)) ∈ kw_tbl := kts_3 (i := 44) rfl rfl
set_option maxRecDepth 100000 in
theorem kt_525 : (Jvm.Cond.instanceMethod ({ cls := "SafeSweeps", name := "take", desc := "(II)I" } : Jvm.MethodName)) ∈ kw_tbl := kts_3 (i := 45) rfl rfl
set_option maxRecDepth 100000 in
theorem kt_526 : (Jvm.Cond.selects "SafeSweeps" ({ cls := "SafeSweeps", name := "take", desc := "(II)I" } : Jvm.MethodName) ({ cls := "SafeSweeps", name := "take", desc := "(II)I" } : Jvm.MethodName)) ∈ kw_tbl := kts_3 (i := 46) rfl rfl
set_option maxRecDepth 100000 in
theorem kt_527 : (Jvm.Cond.code ({ cls := "SafeSweeps", name := "take", desc := "(II)I" } : Jvm.MethodName) prog_1_method_8_code (4 : Nat) (Option.some Jvm.ClassFile.FieldType.int)) ∈ kw_tbl := kts_3 (i := 47) rfl rfl
set_option maxRecDepth 100000 in
theorem kt_528 : (Jvm.Cond.methodLink "SafeSweepsLaw" (47 : Nat) ({ cls := "SafeSweeps", name := "commit", desc := "(II)I" } : Jvm.MethodName)) ∈ kw_tbl := kts_3 (i := 48) rfl rfl
set_option maxRecDepth 100000 in
theorem kt_529 : (Jvm.Cond.instanceMethod ({ cls := "SafeSweeps", name := "commit", desc := "(II)I" } : Jvm.MethodName)) ∈ kw_tbl := kts_3 (i := 49) rfl rfl
set_option maxRecDepth 100000 in
theorem kt_530 : (Jvm.Cond.selects "SafeSweeps" ({ cls := "SafeSweeps", name := "commit", desc := "(II)I" } : Jvm.MethodName) ({ cls := "SafeSweeps", name := "commit", desc := "(II)I" } : Jvm.MethodName)) ∈ kw_tbl := kts_3 (i := 50) rfl rfl
set_option maxRecDepth 100000 in
theorem kt_531 : (Jvm.Cond.code ({ cls := "SafeSweeps", name := "commit", desc := "(II)I" } : Jvm.MethodName) prog_1_method_10_code (5 : Nat) (Option.some Jvm.ClassFile.FieldType.int)) ∈ kw_tbl := kts_3 (i := 51) rfl rfl
set_option maxRecDepth 100000 in
theorem kt_532 : (Jvm.Cond.methodLink "SafeSweeps" (186 : Nat) ({ cls := "SafeSweeps", name := "snapshotsThere", desc := "()I" } : Jvm.MethodName)) ∈ kw_tbl := kts_3 (i := 52) rfl rfl
set_option maxRecDepth 100000 in
theorem kt_534 : (Jvm.Cond.instanceMethod ({ cls := "SafeSweeps", name := "snapshotsThere", desc := "()I" } : Jvm.MethodName)) ∈ kw_tbl := kts_3 (i := 54) rfl rfl
set_option maxRecDepth 100000 in
theorem kt_535 : (Jvm.Cond.code ({ cls := "SafeSweeps", name := "snapshotsThere", desc := "()I" } : Jvm.MethodName) prog_1_method_22_code (3 : Nat) (Option.some Jvm.ClassFile.FieldType.int)) ∈ kw_tbl := kts_3 (i := 55) rfl rfl
set_option maxRecDepth 100000 in
theorem kt_536 : (Jvm.Cond.methodLink "SafeSweeps" (189 : Nat) ({ cls := "SafeSweeps$Journal", name := "write", desc := "(II)Z" } : Jvm.MethodName)) ∈ kw_tbl := kts_3 (i := 56) rfl rfl
set_option maxRecDepth 100000 in
theorem kt_537 : (Jvm.Cond.instantiable "SafeSweeps$Snapshot" (4 : Nat)) ∈ kw_tbl := kts_3 (i := 57) rfl rfl
set_option maxRecDepth 100000 in
theorem kt_538 : (Jvm.Cond.methodLink "SafeSweeps" (196 : Nat) ({ cls := "SafeSweeps$Snapshot", name := "<init>", desc := "(JI[I)V" } : Jvm.MethodName)) ∈ kw_tbl := kts_3 (i := 58) rfl rfl
set_option maxRecDepth 100000 in
theorem kt_539 : (Jvm.Cond.instanceMethod ({ cls := "SafeSweeps$Snapshot", name := "<init>", desc := "(JI[I)V" } : Jvm.MethodName)) ∈ kw_tbl := kts_3 (i := 59) rfl rfl
set_option maxRecDepth 100000 in
theorem kt_540 : (Jvm.Cond.code ({ cls := "SafeSweeps$Snapshot", name := "<init>", desc := "(JI[I)V" } : Jvm.MethodName) prog_10_method_1_code (5 : Nat) (Option.none : Option Jvm.ClassFile.FieldType)) ∈ kw_tbl := kts_3 (i := 60) rfl rfl
set_option maxRecDepth 100000 in
theorem kt_541 : (Jvm.Cond.methodLink "SafeSweeps$Snapshot" (1 : Nat) ({ cls := "java/lang/Object", name := "<init>", desc := "()V" } : Jvm.MethodName)) ∈ kw_tbl := kts_3 (i := 61) rfl rfl
set_option maxRecDepth 100000 in
theorem kt_542 : (Jvm.Cond.fieldLink "SafeSweeps$Snapshot" (7 : Nat) "SafeSweeps$Snapshot" "time" "J") ∈ kw_tbl := kts_3 (i := 62) rfl rfl
set_option maxRecDepth 100000 in
theorem kt_543 : (Jvm.Cond.fieldLink "SafeSweeps$Rules" (32 : Nat) "SafeSweeps$Snapshot" "time" "J") ∈ kw_tbl := kts_3 (i := 63) rfl rfl
set_option maxRecDepth 100000 in
theorem kt_544 : (Jvm.Cond.fieldLink "SafeSweeps" (348 : Nat) "SafeSweeps$Snapshot" "time" "J") ∈ kw_tbl := kts_3 (i := 64) rfl rfl
set_option maxRecDepth 100000 in
theorem kt_545 : (Jvm.Cond.fieldLink "SafeSweeps$Snapshot" (13 : Nat) "SafeSweeps$Snapshot" "tag" "I") ∈ kw_tbl := kts_3 (i := 65) rfl rfl
set_option maxRecDepth 100000 in
theorem kt_546 : (Jvm.Cond.fieldLink "SafeSweeps$Rules" (24 : Nat) "SafeSweeps$Snapshot" "tag" "I") ∈ kw_tbl := kts_3 (i := 66) rfl rfl
set_option maxRecDepth 100000 in
theorem kt_547 : (Jvm.Cond.fieldLink "SafeSweeps" (345 : Nat) "SafeSweeps$Snapshot" "tag" "I") ∈ kw_tbl := kts_3 (i := 67) rfl rfl
set_option maxRecDepth 100000 in
theorem kt_548 : (Jvm.Cond.fieldLink "SafeSweeps$Snapshot" (17 : Nat) "SafeSweeps$Snapshot" "roots" "[I") ∈ kw_tbl := kts_3 (i := 68) rfl rfl
set_option maxRecDepth 100000 in
theorem kt_549 : (Jvm.Cond.fieldLink "SafeSweeps" (238 : Nat) "SafeSweeps$Snapshot" "roots" "[I") ∈ kw_tbl := kts_3 (i := 69) rfl rfl
set_option maxRecDepth 100000 in
theorem kt_550 : (Jvm.Cond.fieldLink "SafeSweeps$Rules" (18 : Nat) "SafeSweeps$Snapshot" "gone" "Z") ∈ kw_tbl := kts_3 (i := 70) rfl rfl
set_option maxRecDepth 100000 in
theorem kt_551 : (Jvm.Cond.fieldLink "SafeSweeps" (226 : Nat) "SafeSweeps$Snapshot" "gone" "Z") ∈ kw_tbl := kts_3 (i := 71) rfl rfl
set_option maxRecDepth 100000 in
theorem kt_552 : (Jvm.Cond.laysFinal "SafeSweeps$Snapshot" "SafeSweeps$Snapshot" "time" "J") ∈ kw_tbl := kts_3 (i := 72) rfl rfl
set_option maxRecDepth 100000 in
theorem kt_554 : (Jvm.Cond.laysFinal "SafeSweeps$Snapshot" "SafeSweeps$Snapshot" "tag" "I") ∈ kw_tbl := kts_3 (i := 74) rfl rfl
set_option maxRecDepth 100000 in
theorem kt_556 : (Jvm.Cond.laysFinal "SafeSweeps$Snapshot" "SafeSweeps$Snapshot" "roots" "[I") ∈ kw_tbl := kts_3 (i := 76) rfl rfl
set_option maxRecDepth 100000 in
theorem kt_558 : (Jvm.Cond.lays "SafeSweeps$Snapshot" "SafeSweeps$Snapshot" "gone" "Z") ∈ kw_tbl := kts_3 (i := 78) rfl rfl
set_option maxRecDepth 100000 in
theorem kt_561 : (Jvm.Cond.methodLink "SafeSweepsLaw" (51 : Nat) ({ cls := "SafeSweeps", name := "give", desc := "(I)I" } : Jvm.MethodName)) ∈ kw_tbl := kts_3 (i := 81) rfl rfl
set_option maxRecDepth 100000 in
theorem kt_562 : (Jvm.Cond.instanceMethod ({ cls := "SafeSweeps", name := "give", desc := "(I)I" } : Jvm.MethodName)) ∈ kw_tbl := kts_3 (i := 82) rfl rfl
set_option maxRecDepth 100000 in
theorem kt_563 : (Jvm.Cond.selects "SafeSweeps" ({ cls := "SafeSweeps", name := "give", desc := "(I)I" } : Jvm.MethodName) ({ cls := "SafeSweeps", name := "give", desc := "(I)I" } : Jvm.MethodName)) ∈ kw_tbl := kts_3 (i := 83) rfl rfl
set_option maxRecDepth 100000 in
theorem kt_564 : (Jvm.Cond.code ({ cls := "SafeSweeps", name := "give", desc := "(I)I" } : Jvm.MethodName) prog_1_method_11_code (3 : Nat) (Option.some Jvm.ClassFile.FieldType.int)) ∈ kw_tbl := kts_3 (i := 84) rfl rfl
set_option maxRecDepth 100000 in
theorem kt_565 : (Jvm.Cond.methodLink "SafeSweepsLaw" (55 : Nat) ({ cls := "SafeSweeps", name := "drop", desc := "(I)I" } : Jvm.MethodName)) ∈ kw_tbl := kts_3 (i := 85) rfl rfl
set_option maxRecDepth 100000 in
theorem kt_566 : (Jvm.Cond.instanceMethod ({ cls := "SafeSweeps", name := "drop", desc := "(I)I" } : Jvm.MethodName)) ∈ kw_tbl := kts_3 (i := 86) rfl rfl
set_option maxRecDepth 100000 in
theorem kt_567 : (Jvm.Cond.selects "SafeSweeps" ({ cls := "SafeSweeps", name := "drop", desc := "(I)I" } : Jvm.MethodName) ({ cls := "SafeSweeps", name := "drop", desc := "(I)I" } : Jvm.MethodName)) ∈ kw_tbl := kts_3 (i := 87) rfl rfl
set_option maxRecDepth 100000 in
theorem kt_568 : (Jvm.Cond.code ({ cls := "SafeSweeps", name := "drop", desc := "(I)I" } : Jvm.MethodName) prog_1_method_16_code (2 : Nat) (Option.some Jvm.ClassFile.FieldType.int)) ∈ kw_tbl := kts_3 (i := 88) rfl rfl
set_option maxRecDepth 100000 in
theorem kt_569 : (Jvm.Cond.methodLink "SafeSweeps" (203 : Nat) ({ cls := "SafeSweeps", name := "snapshotIsThere", desc := "(I)Z" } : Jvm.MethodName)) ∈ kw_tbl := kts_3 (i := 89) rfl rfl
set_option maxRecDepth 100000 in
theorem kt_571 : (Jvm.Cond.instanceMethod ({ cls := "SafeSweeps", name := "snapshotIsThere", desc := "(I)Z" } : Jvm.MethodName)) ∈ kw_tbl := kts_3 (i := 91) rfl rfl
set_option maxRecDepth 100000 in
theorem kt_572 : (Jvm.Cond.code ({ cls := "SafeSweeps", name := "snapshotIsThere", desc := "(I)Z" } : Jvm.MethodName) prog_1_method_20_code (2 : Nat) (Option.some Jvm.ClassFile.FieldType.boolean)) ∈ kw_tbl := kts_3 (i := 92) rfl rfl
set_option maxRecDepth 100000 in
theorem kt_573 : (Jvm.Cond.methodLink "SafeSweeps" (206 : Nat) ({ cls := "SafeSweeps", name := "removeSnapshot", desc := "(I)Z" } : Jvm.MethodName)) ∈ kw_tbl := kts_3 (i := 93) rfl rfl
set_option maxRecDepth 100000 in
theorem kt_575 : (Jvm.Cond.instanceMethod ({ cls := "SafeSweeps", name := "removeSnapshot", desc := "(I)Z" } : Jvm.MethodName)) ∈ kw_tbl := kts_3 (i := 95) rfl rfl
set_option maxRecDepth 100000 in
theorem kt_576 : (Jvm.Cond.code ({ cls := "SafeSweeps", name := "removeSnapshot", desc := "(I)Z" } : Jvm.MethodName) prog_1_method_23_code (2 : Nat) (Option.some Jvm.ClassFile.FieldType.boolean)) ∈ kw_tbl := kts_3 (i := 96) rfl rfl
set_option maxRecDepth 100000 in
theorem kt_577 : (Jvm.Cond.methodLink "SafeSweepsLaw" (59 : Nat) ({ cls := "SafeSweeps", name := "rule", desc := "(II)I" } : Jvm.MethodName)) ∈ kw_tbl := kts_3 (i := 97) rfl rfl
set_option maxRecDepth 100000 in
theorem kt_578 : (Jvm.Cond.instanceMethod ({ cls := "SafeSweeps", name := "rule", desc := "(II)I" } : Jvm.MethodName)) ∈ kw_tbl := kts_3 (i := 98) rfl rfl
set_option maxRecDepth 100000 in
theorem kt_579 : (Jvm.Cond.selects "SafeSweeps" ({ cls := "SafeSweeps", name := "rule", desc := "(II)I" } : Jvm.MethodName) ({ cls := "SafeSweeps", name := "rule", desc := "(II)I" } : Jvm.MethodName)) ∈ kw_tbl := kts_3 (i := 99) rfl rfl
set_option maxRecDepth 100000 in
theorem kt_580 : (Jvm.Cond.code ({ cls := "SafeSweeps", name := "rule", desc := "(II)I" } : Jvm.MethodName) prog_1_method_17_code (4 : Nat) (Option.some Jvm.ClassFile.FieldType.int)) ∈ kw_tbl := kts_3 (i := 100) rfl rfl
set_option maxRecDepth 100000 in
theorem kt_581 : (Jvm.Cond.methodLink "SafeSweeps" (209 : Nat) ({ cls := "SafeSweeps$Rules", name := "greatest", desc := "(I)I" } : Jvm.MethodName)) ∈ kw_tbl := kts_3 (i := 101) rfl rfl
set_option maxRecDepth 100000 in
theorem kt_582 : (Jvm.Cond.static ({ cls := "SafeSweeps$Rules", name := "greatest", desc := "(I)I" } : Jvm.MethodName)) ∈ kw_tbl := kts_3 (i := 102) rfl rfl
set_option maxRecDepth 100000 in
theorem kt_583 : (Jvm.Cond.code ({ cls := "SafeSweeps$Rules", name := "greatest", desc := "(I)I" } : Jvm.MethodName) prog_8_method_2_code (1 : Nat) (Option.some Jvm.ClassFile.FieldType.int)) ∈ kw_tbl := kts_3 (i := 103) rfl rfl
set_option maxRecDepth 100000 in
theorem kt_584 : (Jvm.Cond.methodLink "SafeSweepsLaw" (63 : Nat) ({ cls := "SafeSweeps", name := "keeps", desc := "(I)I" } : Jvm.MethodName)) ∈ kw_tbl := kts_3 (i := 104) rfl rfl
set_option maxRecDepth 100000 in
theorem kt_585 : (Jvm.Cond.instanceMethod ({ cls := "SafeSweeps", name := "keeps", desc := "(I)I" } : Jvm.MethodName)) ∈ kw_tbl := kts_3 (i := 105) rfl rfl
set_option maxRecDepth 100000 in
theorem kt_586 : (Jvm.Cond.selects "SafeSweeps" ({ cls := "SafeSweeps", name := "keeps", desc := "(I)I" } : Jvm.MethodName) ({ cls := "SafeSweeps", name := "keeps", desc := "(I)I" } : Jvm.MethodName)) ∈ kw_tbl := kts_3 (i := 106) rfl rfl
set_option maxRecDepth 100000 in
theorem kt_587 : (Jvm.Cond.code ({ cls := "SafeSweeps", name := "keeps", desc := "(I)I" } : Jvm.MethodName) prog_1_method_18_code (2 : Nat) (Option.some Jvm.ClassFile.FieldType.int)) ∈ kw_tbl := kts_3 (i := 107) rfl rfl
set_option maxRecDepth 100000 in
theorem kt_588 : (Jvm.Cond.methodLink "SafeSweeps" (216 : Nat) ({ cls := "SafeSweeps$Rules", name := "judge", desc := "([LSafeSweeps$Snapshot;I)V" } : Jvm.MethodName)) ∈ kw_tbl := kts_3 (i := 108) rfl rfl
set_option maxRecDepth 100000 in
theorem kt_589 : (Jvm.Cond.instanceMethod ({ cls := "SafeSweeps$Rules", name := "judge", desc := "([LSafeSweeps$Snapshot;I)V" } : Jvm.MethodName)) ∈ kw_tbl := kts_3 (i := 109) rfl rfl
set_option maxRecDepth 100000 in
theorem kt_590 : (Jvm.Cond.selects "SafeSweeps$Rules" ({ cls := "SafeSweeps$Rules", name := "judge", desc := "([LSafeSweeps$Snapshot;I)V" } : Jvm.MethodName) ({ cls := "SafeSweeps$Rules", name := "judge", desc := "([LSafeSweeps$Snapshot;I)V" } : Jvm.MethodName)) ∈ kw_tbl := kts_3 (i := 110) rfl rfl
set_option maxRecDepth 100000 in
theorem kt_591 : (Jvm.Cond.code ({ cls := "SafeSweeps$Rules", name := "judge", desc := "([LSafeSweeps$Snapshot;I)V" } : Jvm.MethodName) prog_8_method_3_code (5 : Nat) (Option.none : Option Jvm.ClassFile.FieldType)) ∈ kw_tbl := kts_3 (i := 111) rfl rfl
set_option maxRecDepth 100000 in
theorem kt_592 : (Jvm.Cond.methodLink "SafeSweeps$Rules" (28 : Nat) ({ cls := "SafeSweeps$Rules", name := "judgeBy", desc := "(I[LSafeSweeps$Snapshot;I)V" } : Jvm.MethodName)) ∈ kw_tbl := kts_3 (i := 112) rfl rfl
set_option maxRecDepth 100000 in
theorem kt_593 : (Jvm.Cond.instanceMethod ({ cls := "SafeSweeps$Rules", name := "judgeBy", desc := "(I[LSafeSweeps$Snapshot;I)V" } : Jvm.MethodName)) ∈ kw_tbl := kts_3 (i := 113) rfl rfl
set_option maxRecDepth 100000 in
theorem kt_594 : (Jvm.Cond.selects "SafeSweeps$Rules" ({ cls := "SafeSweeps$Rules", name := "judgeBy", desc := "(I[LSafeSweeps$Snapshot;I)V" } : Jvm.MethodName) ({ cls := "SafeSweeps$Rules", name := "judgeBy", desc := "(I[LSafeSweeps$Snapshot;I)V" } : Jvm.MethodName)) ∈ kw_tbl := kts_3 (i := 114) rfl rfl
set_option maxRecDepth 100000 in
theorem kt_595 : (Jvm.Cond.code ({ cls := "SafeSweeps$Rules", name := "judgeBy", desc := "(I[LSafeSweeps$Snapshot;I)V" } : Jvm.MethodName) prog_8_method_4_code (10 : Nat) (Option.none : Option Jvm.ClassFile.FieldType)) ∈ kw_tbl := kts_3 (i := 115) rfl rfl
set_option maxRecDepth 100000 in
theorem kt_596 : (Jvm.Cond.methodLink "SafeSweeps$Rules" (36 : Nat) ({ cls := "SafeSweeps$Calendar", name := "dayOf", desc := "(J)J" } : Jvm.MethodName)) ∈ kw_tbl := kts_3 (i := 116) rfl rfl
set_option maxRecDepth 100000 in
theorem kt_597 : (Jvm.Cond.static ({ cls := "SafeSweeps$Calendar", name := "dayOf", desc := "(J)J" } : Jvm.MethodName)) ∈ kw_tbl := kts_3 (i := 117) rfl rfl
set_option maxRecDepth 100000 in
theorem kt_598 : (Jvm.Cond.code ({ cls := "SafeSweeps$Calendar", name := "dayOf", desc := "(J)J" } : Jvm.MethodName) prog_3_method_2_code (2 : Nat) (Option.some Jvm.ClassFile.FieldType.long)) ∈ kw_tbl := kts_3 (i := 118) rfl rfl
set_option maxRecDepth 100000 in
theorem kt_599 : (Jvm.Cond.constantLong "SafeSweeps$Calendar" (9 : Nat) (86400 : Int64)) ∈ kw_tbl := kts_3 (i := 119) rfl rfl
set_option maxRecDepth 100000 in
theorem kt_600 : (Jvm.Cond.methodLink "SafeSweeps$Calendar" (11 : Nat) ({ cls := "java/lang/Math", name := "floorDiv", desc := "(JJ)J" } : Jvm.MethodName)) ∈ kw_tbl := kts_3 (i := 120) rfl rfl
set_option maxRecDepth 100000 in
theorem kt_601 : (Jvm.Cond.static ({ cls := "java/lang/Math", name := "floorDiv", desc := "(JJ)J" } : Jvm.MethodName)) ∈ kw_tbl := kts_3 (i := 121) rfl rfl
set_option maxRecDepth 100000 in
theorem kt_602 : (Jvm.Cond.code ({ cls := "java/lang/Math", name := "floorDiv", desc := "(JJ)J" } : Jvm.MethodName) prog_16_method_49_code (6 : Nat) (Option.some Jvm.ClassFile.FieldType.long)) ∈ kw_tbl := kts_3 (i := 122) rfl rfl
set_option maxRecDepth 100000 in
theorem kt_603 : (Jvm.Cond.methodLink "SafeSweeps$Rules" (42 : Nat) ({ cls := "SafeSweeps$Rules", name := "periodOf", desc := "(IIJ)J" } : Jvm.MethodName)) ∈ kw_tbl := kts_3 (i := 123) rfl rfl
set_option maxRecDepth 100000 in
theorem kt_604 : (Jvm.Cond.static ({ cls := "SafeSweeps$Rules", name := "periodOf", desc := "(IIJ)J" } : Jvm.MethodName)) ∈ kw_tbl := kts_3 (i := 124) rfl rfl
set_option maxRecDepth 100000 in
theorem kt_605 : (Jvm.Cond.code ({ cls := "SafeSweeps$Rules", name := "periodOf", desc := "(IIJ)J" } : Jvm.MethodName) prog_8_method_5_code (4 : Nat) (Option.some Jvm.ClassFile.FieldType.long)) ∈ kw_tbl := kts_3 (i := 125) rfl rfl
set_option maxRecDepth 100000 in
theorem kt_606 : (Jvm.Cond.methodLink "SafeSweeps$Rules" (46 : Nat) ({ cls := "SafeSweeps$Calendar", name := "weekOf", desc := "(J)J" } : Jvm.MethodName)) ∈ kw_tbl := kts_3 (i := 126) rfl rfl
set_option maxRecDepth 100000 in
theorem kt_607 : (Jvm.Cond.static ({ cls := "SafeSweeps$Calendar", name := "weekOf", desc := "(J)J" } : Jvm.MethodName)) ∈ kw_tbl := kts_3 (i := 127) rfl rfl
set_option maxRecDepth 100000 in
theorem kt_608 : (Jvm.Cond.code ({ cls := "SafeSweeps$Calendar", name := "weekOf", desc := "(J)J" } : Jvm.MethodName) prog_3_method_3_code (2 : Nat) (Option.some Jvm.ClassFile.FieldType.long)) ∈ kw_tbl := kts_3 (i := 128) rfl rfl
set_option maxRecDepth 100000 in
theorem kt_609 : (Jvm.Cond.constantLong "SafeSweeps$Calendar" (17 : Nat) (3 : Int64)) ∈ kw_tbl := kts_3 (i := 129) rfl rfl
set_option maxRecDepth 100000 in
theorem kt_610 : (Jvm.Cond.constantLong "SafeSweeps$Calendar" (19 : Nat) (7 : Int64)) ∈ kw_tbl := kts_3 (i := 130) rfl rfl
set_option maxRecDepth 100000 in
theorem kt_611 : (Jvm.Cond.methodLink "SafeSweeps$Rules" (49 : Nat) ({ cls := "SafeSweeps$Calendar", name := "monthsUpTo", desc := "(J)J" } : Jvm.MethodName)) ∈ kw_tbl := kts_3 (i := 131) rfl rfl
set_option maxRecDepth 100000 in
theorem kt_612 : (Jvm.Cond.static ({ cls := "SafeSweeps$Calendar", name := "monthsUpTo", desc := "(J)J" } : Jvm.MethodName)) ∈ kw_tbl := kts_3 (i := 132) rfl rfl
set_option maxRecDepth 100000 in
theorem kt_613 : (Jvm.Cond.code ({ cls := "SafeSweeps$Calendar", name := "monthsUpTo", desc := "(J)J" } : Jvm.MethodName) prog_3_method_8_code (10 : Nat) (Option.some Jvm.ClassFile.FieldType.long)) ∈ kw_tbl := kts_3 (i := 133) rfl rfl
set_option maxRecDepth 100000 in
theorem kt_614 : (Jvm.Cond.constantLong "SafeSweeps$Calendar" (30 : Nat) (719468 : Int64)) ∈ kw_tbl := kts_3 (i := 134) rfl rfl
set_option maxRecDepth 100000 in
theorem kt_615 : (Jvm.Cond.constantLong "SafeSweeps$Calendar" (32 : Nat) (146097 : Int64)) ∈ kw_tbl := kts_3 (i := 135) rfl rfl
set_option maxRecDepth 100000 in
theorem kt_616 : (Jvm.Cond.methodLink "SafeSweeps$Calendar" (34 : Nat) ({ cls := "SafeSweeps$Calendar", name := "marchYearOfEra", desc := "(J)J" } : Jvm.MethodName)) ∈ kw_tbl := kts_3 (i := 136) rfl rfl
set_option maxRecDepth 100000 in
theorem kt_617 : (Jvm.Cond.static ({ cls := "SafeSweeps$Calendar", name := "marchYearOfEra", desc := "(J)J" } : Jvm.MethodName)) ∈ kw_tbl := kts_3 (i := 137) rfl rfl
set_option maxRecDepth 100000 in
theorem kt_618 : (Jvm.Cond.code ({ cls := "SafeSweeps$Calendar", name := "marchYearOfEra", desc := "(J)J" } : Jvm.MethodName) prog_3_method_9_code (4 : Nat) (Option.some Jvm.ClassFile.FieldType.long)) ∈ kw_tbl := kts_3 (i := 138) rfl rfl
set_option maxRecDepth 100000 in
theorem kt_619 : (Jvm.Cond.constantLong "SafeSweeps$Calendar" (50 : Nat) (1460 : Int64)) ∈ kw_tbl := kts_3 (i := 139) rfl rfl
set_option maxRecDepth 100000 in
theorem kt_620 : (Jvm.Cond.constantLong "SafeSweeps$Calendar" (52 : Nat) (36524 : Int64)) ∈ kw_tbl := kts_3 (i := 140) rfl rfl
set_option maxRecDepth 100000 in
theorem kt_621 : (Jvm.Cond.constantLong "SafeSweeps$Calendar" (54 : Nat) (146096 : Int64)) ∈ kw_tbl := kts_3 (i := 141) rfl rfl
set_option maxRecDepth 100000 in
theorem kt_622 : (Jvm.Cond.constantLong "SafeSweeps$Calendar" (56 : Nat) (365 : Int64)) ∈ kw_tbl := kts_3 (i := 142) rfl rfl
set_option maxRecDepth 100000 in
theorem kt_623 : (Jvm.Cond.constantLong "SafeSweeps$Calendar" (28 : Nat) (12 : Int64)) ∈ kw_tbl := kts_3 (i := 143) rfl rfl
set_option maxRecDepth 100000 in
theorem kt_624 : (Jvm.Cond.constantLong "SafeSweeps$Calendar" (46 : Nat) (400 : Int64)) ∈ kw_tbl := kts_3 (i := 144) rfl rfl
set_option maxRecDepth 100000 in
theorem kt_625 : (Jvm.Cond.methodLink "SafeSweeps$Calendar" (37 : Nat) ({ cls := "SafeSweeps$Calendar", name := "dayOfMarchYear", desc := "(JJ)J" } : Jvm.MethodName)) ∈ kw_tbl := kts_3 (i := 145) rfl rfl
set_option maxRecDepth 100000 in
theorem kt_626 : (Jvm.Cond.static ({ cls := "SafeSweeps$Calendar", name := "dayOfMarchYear", desc := "(JJ)J" } : Jvm.MethodName)) ∈ kw_tbl := kts_3 (i := 146) rfl rfl
set_option maxRecDepth 100000 in
theorem kt_627 : (Jvm.Cond.code ({ cls := "SafeSweeps$Calendar", name := "dayOfMarchYear", desc := "(JJ)J" } : Jvm.MethodName) prog_3_method_10_code (4 : Nat) (Option.some Jvm.ClassFile.FieldType.long)) ∈ kw_tbl := kts_3 (i := 147) rfl rfl
set_option maxRecDepth 100000 in
theorem kt_628 : (Jvm.Cond.constantLong "SafeSweeps$Calendar" (58 : Nat) (4 : Int64)) ∈ kw_tbl := kts_3 (i := 148) rfl rfl
set_option maxRecDepth 100000 in
theorem kt_629 : (Jvm.Cond.constantLong "SafeSweeps$Calendar" (60 : Nat) (100 : Int64)) ∈ kw_tbl := kts_3 (i := 149) rfl rfl
set_option maxRecDepth 100000 in
theorem kt_630 : (Jvm.Cond.methodLink "SafeSweeps$Calendar" (40 : Nat) ({ cls := "SafeSweeps$Calendar", name := "marchMonth", desc := "(J)J" } : Jvm.MethodName)) ∈ kw_tbl := kts_3 (i := 150) rfl rfl
set_option maxRecDepth 100000 in
theorem kt_631 : (Jvm.Cond.static ({ cls := "SafeSweeps$Calendar", name := "marchMonth", desc := "(J)J" } : Jvm.MethodName)) ∈ kw_tbl := kts_3 (i := 151) rfl rfl
set_option maxRecDepth 100000 in
theorem kt_632 : (Jvm.Cond.code ({ cls := "SafeSweeps$Calendar", name := "marchMonth", desc := "(J)J" } : Jvm.MethodName) prog_3_method_11_code (2 : Nat) (Option.some Jvm.ClassFile.FieldType.long)) ∈ kw_tbl := kts_3 (i := 152) rfl rfl
set_option maxRecDepth 100000 in
theorem kt_633 : (Jvm.Cond.constantLong "SafeSweeps$Calendar" (62 : Nat) (5 : Int64)) ∈ kw_tbl := kts_3 (i := 153) rfl rfl
set_option maxRecDepth 100000 in
theorem kt_634 : (Jvm.Cond.constantLong "SafeSweeps$Calendar" (48 : Nat) (2 : Int64)) ∈ kw_tbl := kts_3 (i := 154) rfl rfl
set_option maxRecDepth 100000 in
theorem kt_635 : (Jvm.Cond.constantLong "SafeSweeps$Calendar" (64 : Nat) (153 : Int64)) ∈ kw_tbl := kts_3 (i := 155) rfl rfl
set_option maxRecDepth 100000 in
theorem kt_636 : (Jvm.Cond.methodLink "SafeSweeps$Rules" (52 : Nat) ({ cls := "SafeSweeps$Calendar", name := "yearOf", desc := "(J)J" } : Jvm.MethodName)) ∈ kw_tbl := kts_3 (i := 156) rfl rfl
set_option maxRecDepth 100000 in
theorem kt_637 : (Jvm.Cond.static ({ cls := "SafeSweeps$Calendar", name := "yearOf", desc := "(J)J" } : Jvm.MethodName)) ∈ kw_tbl := kts_3 (i := 157) rfl rfl
set_option maxRecDepth 100000 in
theorem kt_638 : (Jvm.Cond.code ({ cls := "SafeSweeps$Calendar", name := "yearOf", desc := "(J)J" } : Jvm.MethodName) prog_3_method_5_code (2 : Nat) (Option.some Jvm.ClassFile.FieldType.long)) ∈ kw_tbl := kts_3 (i := 158) rfl rfl
set_option maxRecDepth 100000 in
theorem kt_639 : (Jvm.Cond.methodLink "SafeSweeps$Calendar" (24 : Nat) ({ cls := "SafeSweeps$Calendar", name := "monthsUpTo", desc := "(J)J" } : Jvm.MethodName)) ∈ kw_tbl := kts_3 (i := 159) rfl rfl
set_option maxRecDepth 100000 in
theorem kt_640 : (Jvm.Cond.methodLink "SafeSweepsLaw" (67 : Nat) ({ cls := "SafeSweeps", name := "prune", desc := "(Z)I" } : Jvm.MethodName)) ∈ kw_tbl := kts_3 (i := 160) rfl rfl
set_option maxRecDepth 100000 in
theorem kt_641 : (Jvm.Cond.instanceMethod ({ cls := "SafeSweeps", name := "prune", desc := "(Z)I" } : Jvm.MethodName)) ∈ kw_tbl := kts_3 (i := 161) rfl rfl
set_option maxRecDepth 100000 in
theorem kt_642 : (Jvm.Cond.selects "SafeSweeps" ({ cls := "SafeSweeps", name := "prune", desc := "(Z)I" } : Jvm.MethodName) ({ cls := "SafeSweeps", name := "prune", desc := "(Z)I" } : Jvm.MethodName)) ∈ kw_tbl := kts_3 (i := 162) rfl rfl
set_option maxRecDepth 100000 in
theorem kt_643 : (Jvm.Cond.code ({ cls := "SafeSweeps", name := "prune", desc := "(Z)I" } : Jvm.MethodName) prog_1_method_19_code (5 : Nat) (Option.some Jvm.ClassFile.FieldType.int)) ∈ kw_tbl := kts_3 (i := 163) rfl rfl
set_option maxRecDepth 100000 in
theorem kt_644 : (Jvm.Cond.methodLink "SafeSweeps" (223 : Nat) ({ cls := "SafeSweeps", name := "snapshotIsUnkept", desc := "(I)Z" } : Jvm.MethodName)) ∈ kw_tbl := kts_3 (i := 164) rfl rfl
set_option maxRecDepth 100000 in
theorem kt_646 : (Jvm.Cond.instanceMethod ({ cls := "SafeSweeps", name := "snapshotIsUnkept", desc := "(I)Z" } : Jvm.MethodName)) ∈ kw_tbl := kts_3 (i := 166) rfl rfl
set_option maxRecDepth 100000 in
theorem kt_647 : (Jvm.Cond.code ({ cls := "SafeSweeps", name := "snapshotIsUnkept", desc := "(I)Z" } : Jvm.MethodName) prog_1_method_21_code (2 : Nat) (Option.some Jvm.ClassFile.FieldType.boolean)) ∈ kw_tbl := kts_3 (i := 167) rfl rfl
set_option maxRecDepth 100000 in
theorem kt_648 : (Jvm.Cond.methodLink "SafeSweepsLaw" (72 : Nat) ({ cls := "SafeSweeps", name := "sweep", desc := "()I" } : Jvm.MethodName)) ∈ kw_tbl := kts_3 (i := 168) rfl rfl
set_option maxRecDepth 100000 in
theorem kt_649 : (Jvm.Cond.instanceMethod ({ cls := "SafeSweeps", name := "sweep", desc := "()I" } : Jvm.MethodName)) ∈ kw_tbl := kts_3 (i := 169) rfl rfl
set_option maxRecDepth 100000 in
theorem kt_650 : (Jvm.Cond.selects "SafeSweeps" ({ cls := "SafeSweeps", name := "sweep", desc := "()I" } : Jvm.MethodName) ({ cls := "SafeSweeps", name := "sweep", desc := "()I" } : Jvm.MethodName)) ∈ kw_tbl := kts_3 (i := 170) rfl rfl
set_option maxRecDepth 100000 in
theorem kt_651 : (Jvm.Cond.code ({ cls := "SafeSweeps", name := "sweep", desc := "()I" } : Jvm.MethodName) prog_1_method_24_code (2 : Nat) (Option.some Jvm.ClassFile.FieldType.int)) ∈ kw_tbl := kts_3 (i := 171) rfl rfl
set_option maxRecDepth 100000 in
theorem kt_652 : (Jvm.Cond.methodLink "SafeSweeps" (232 : Nat) ({ cls := "SafeSweeps$Journal", name := "write", desc := "()Z" } : Jvm.MethodName)) ∈ kw_tbl := kts_3 (i := 172) rfl rfl
set_option maxRecDepth 100000 in
theorem kt_653 : (Jvm.Cond.methodLink "SafeSweeps" (235 : Nat) ({ cls := "SafeSweeps$Sweep", name := "prepare", desc := "()V" } : Jvm.MethodName)) ∈ kw_tbl := kts_3 (i := 173) rfl rfl
set_option maxRecDepth 100000 in
theorem kt_654 : (Jvm.Cond.instanceMethod ({ cls := "SafeSweeps$Sweep", name := "prepare", desc := "()V" } : Jvm.MethodName)) ∈ kw_tbl := kts_3 (i := 174) rfl rfl
set_option maxRecDepth 100000 in
theorem kt_655 : (Jvm.Cond.selects "SafeSweeps$Sweep" ({ cls := "SafeSweeps$Sweep", name := "prepare", desc := "()V" } : Jvm.MethodName) ({ cls := "SafeSweeps$Sweep", name := "prepare", desc := "()V" } : Jvm.MethodName)) ∈ kw_tbl := kts_3 (i := 175) rfl rfl
set_option maxRecDepth 100000 in
theorem kt_656 : (Jvm.Cond.code ({ cls := "SafeSweeps$Sweep", name := "prepare", desc := "()V" } : Jvm.MethodName) prog_12_method_2_code (2 : Nat) (Option.none : Option Jvm.ClassFile.FieldType)) ∈ kw_tbl := kts_3 (i := 176) rfl rfl
set_option maxRecDepth 100000 in
theorem kt_657 : (Jvm.Cond.methodLink "SafeSweeps" (241 : Nat) ({ cls := "SafeSweeps$Sweep", name := "lineUpAll", desc := "([II)V" } : Jvm.MethodName)) ∈ kw_tbl := kts_3 (i := 177) rfl rfl
set_option maxRecDepth 100000 in
theorem kt_658 : (Jvm.Cond.instanceMethod ({ cls := "SafeSweeps$Sweep", name := "lineUpAll", desc := "([II)V" } : Jvm.MethodName)) ∈ kw_tbl := kts_3 (i := 178) rfl rfl
set_option maxRecDepth 100000 in
theorem kt_659 : (Jvm.Cond.selects "SafeSweeps$Sweep" ({ cls := "SafeSweeps$Sweep", name := "lineUpAll", desc := "([II)V" } : Jvm.MethodName) ({ cls := "SafeSweeps$Sweep", name := "lineUpAll", desc := "([II)V" } : Jvm.MethodName)) ∈ kw_tbl := kts_3 (i := 179) rfl rfl
set_option maxRecDepth 100000 in
theorem kt_660 : (Jvm.Cond.code ({ cls := "SafeSweeps$Sweep", name := "lineUpAll", desc := "([II)V" } : Jvm.MethodName) prog_12_method_4_code (4 : Nat) (Option.none : Option Jvm.ClassFile.FieldType)) ∈ kw_tbl := kts_3 (i := 180) rfl rfl
set_option maxRecDepth 100000 in
theorem kt_661 : (Jvm.Cond.methodLink "SafeSweeps" (245 : Nat) ({ cls := "SafeSweeps", name := "lineUpOrDismiss", desc := "(LSafeSweeps$Saver;)V" } : Jvm.MethodName)) ∈ kw_tbl := kts_3 (i := 181) rfl rfl
set_option maxRecDepth 100000 in
theorem kt_663 : (Jvm.Cond.instanceMethod ({ cls := "SafeSweeps", name := "lineUpOrDismiss", desc := "(LSafeSweeps$Saver;)V" } : Jvm.MethodName)) ∈ kw_tbl := kts_3 (i := 183) rfl rfl
set_option maxRecDepth 100000 in
theorem kt_664 : (Jvm.Cond.code ({ cls := "SafeSweeps", name := "lineUpOrDismiss", desc := "(LSafeSweeps$Saver;)V" } : Jvm.MethodName) prog_1_method_25_code (2 : Nat) (Option.none : Option Jvm.ClassFile.FieldType)) ∈ kw_tbl := kts_3 (i := 184) rfl rfl
set_option maxRecDepth 100000 in
theorem kt_665 : (Jvm.Cond.methodLink "SafeSweeps" (249 : Nat) ({ cls := "SafeSweeps$Sweep", name := "settle", desc := "()V" } : Jvm.MethodName)) ∈ kw_tbl := kts_3 (i := 185) rfl rfl
set_option maxRecDepth 100000 in
theorem kt_666 : (Jvm.Cond.instanceMethod ({ cls := "SafeSweeps$Sweep", name := "settle", desc := "()V" } : Jvm.MethodName)) ∈ kw_tbl := kts_3 (i := 186) rfl rfl
set_option maxRecDepth 100000 in
theorem kt_667 : (Jvm.Cond.selects "SafeSweeps$Sweep" ({ cls := "SafeSweeps$Sweep", name := "settle", desc := "()V" } : Jvm.MethodName) ({ cls := "SafeSweeps$Sweep", name := "settle", desc := "()V" } : Jvm.MethodName)) ∈ kw_tbl := kts_3 (i := 187) rfl rfl
set_option maxRecDepth 100000 in
theorem kt_668 : (Jvm.Cond.code ({ cls := "SafeSweeps$Sweep", name := "settle", desc := "()V" } : Jvm.MethodName) prog_12_method_7_code (1 : Nat) (Option.none : Option Jvm.ClassFile.FieldType)) ∈ kw_tbl := kts_3 (i := 188) rfl rfl
set_option maxRecDepth 100000 in
theorem kt_669 : (Jvm.Cond.methodLink "SafeSweepsLaw" (77 : Nat) ({ cls := "SafeSweeps", name := "step", desc := "(I)I" } : Jvm.MethodName)) ∈ kw_tbl := kts_3 (i := 189) rfl rfl
set_option maxRecDepth 100000 in
theorem kt_670 : (Jvm.Cond.instanceMethod ({ cls := "SafeSweeps", name := "step", desc := "(I)I" } : Jvm.MethodName)) ∈ kw_tbl := kts_3 (i := 190) rfl rfl
set_option maxRecDepth 100000 in
theorem kt_671 : (Jvm.Cond.selects "SafeSweeps" ({ cls := "SafeSweeps", name := "step", desc := "(I)I" } : Jvm.MethodName) ({ cls := "SafeSweeps", name := "step", desc := "(I)I" } : Jvm.MethodName)) ∈ kw_tbl := kts_3 (i := 191) rfl rfl
set_option maxRecDepth 100000 in
theorem kt_672 : (Jvm.Cond.code ({ cls := "SafeSweeps", name := "step", desc := "(I)I" } : Jvm.MethodName) prog_1_method_26_code (3 : Nat) (Option.some Jvm.ClassFile.FieldType.int)) ∈ kw_tbl := kts_3 (i := 192) rfl rfl
set_option maxRecDepth 100000 in
theorem kt_673 : (Jvm.Cond.methodLink "SafeSweeps" (255 : Nat) ({ cls := "SafeSweeps$Sweep", name := "advance", desc := "()Z" } : Jvm.MethodName)) ∈ kw_tbl := kts_3 (i := 193) rfl rfl
set_option maxRecDepth 100000 in
theorem kt_674 : (Jvm.Cond.instanceMethod ({ cls := "SafeSweeps$Sweep", name := "advance", desc := "()Z" } : Jvm.MethodName)) ∈ kw_tbl := kts_3 (i := 194) rfl rfl
set_option maxRecDepth 100000 in
theorem kt_675 : (Jvm.Cond.selects "SafeSweeps$Sweep" ({ cls := "SafeSweeps$Sweep", name := "advance", desc := "()Z" } : Jvm.MethodName) ({ cls := "SafeSweeps$Sweep", name := "advance", desc := "()Z" } : Jvm.MethodName)) ∈ kw_tbl := kts_3 (i := 195) rfl rfl
set_option maxRecDepth 100000 in
theorem kt_676 : (Jvm.Cond.code ({ cls := "SafeSweeps$Sweep", name := "advance", desc := "()Z" } : Jvm.MethodName) prog_12_method_6_code (2 : Nat) (Option.some Jvm.ClassFile.FieldType.boolean)) ∈ kw_tbl := kts_3 (i := 196) rfl rfl
set_option maxRecDepth 100000 in
theorem kt_677 : (Jvm.Cond.methodLink "SafeSweeps$Sweep" (69 : Nat) ({ cls := "SafeSweeps$Sweep", name := "markFirst", desc := "()V" } : Jvm.MethodName)) ∈ kw_tbl := kts_3 (i := 197) rfl rfl
set_option maxRecDepth 100000 in
theorem kt_678 : (Jvm.Cond.instanceMethod ({ cls := "SafeSweeps$Sweep", name := "markFirst", desc := "()V" } : Jvm.MethodName)) ∈ kw_tbl := kts_3 (i := 198) rfl rfl
set_option maxRecDepth 100000 in
theorem kt_679 : (Jvm.Cond.selects "SafeSweeps$Sweep" ({ cls := "SafeSweeps$Sweep", name := "markFirst", desc := "()V" } : Jvm.MethodName) ({ cls := "SafeSweeps$Sweep", name := "markFirst", desc := "()V" } : Jvm.MethodName)) ∈ kw_tbl := kts_3 (i := 199) rfl rfl
set_option maxRecDepth 100000 in
theorem kt_680 : (Jvm.Cond.code ({ cls := "SafeSweeps$Sweep", name := "markFirst", desc := "()V" } : Jvm.MethodName) prog_12_method_8_code (2 : Nat) (Option.none : Option Jvm.ClassFile.FieldType)) ∈ kw_tbl := kts_3 (i := 200) rfl rfl
set_option maxRecDepth 100000 in
theorem kt_681 : (Jvm.Cond.methodLink "SafeSweeps$Sweep" (97 : Nat) ({ cls := "SafeSweeps$Sweep", name := "lineUpAll", desc := "([II)V" } : Jvm.MethodName)) ∈ kw_tbl := kts_3 (i := 201) rfl rfl
set_option maxRecDepth 100000 in
theorem kt_682 : (Jvm.Cond.methodLink "SafeSweeps$Sweep" (72 : Nat) ({ cls := "SafeSweeps$Sweep", name := "clearNext", desc := "()Z" } : Jvm.MethodName)) ∈ kw_tbl := kts_3 (i := 202) rfl rfl
set_option maxRecDepth 100000 in
theorem kt_683 : (Jvm.Cond.instanceMethod ({ cls := "SafeSweeps$Sweep", name := "clearNext", desc := "()Z" } : Jvm.MethodName)) ∈ kw_tbl := kts_3 (i := 203) rfl rfl
set_option maxRecDepth 100000 in
theorem kt_684 : (Jvm.Cond.selects "SafeSweeps$Sweep" ({ cls := "SafeSweeps$Sweep", name := "clearNext", desc := "()Z" } : Jvm.MethodName) ({ cls := "SafeSweeps$Sweep", name := "clearNext", desc := "()Z" } : Jvm.MethodName)) ∈ kw_tbl := kts_3 (i := 204) rfl rfl
set_option maxRecDepth 100000 in
theorem kt_685 : (Jvm.Cond.code ({ cls := "SafeSweeps$Sweep", name := "clearNext", desc := "()Z" } : Jvm.MethodName) prog_12_method_9_code (3 : Nat) (Option.some Jvm.ClassFile.FieldType.boolean)) ∈ kw_tbl := kts_3 (i := 205) rfl rfl
set_option maxRecDepth 100000 in
theorem kt_686 : (Jvm.Cond.methodLink "SafeSweeps$Sweep" (104 : Nat) ({ cls := "SafeSweeps$Store", name := "await", desc := "(II)Z" } : Jvm.MethodName)) ∈ kw_tbl := kts_3 (i := 206) rfl rfl
set_option maxRecDepth 100000 in
theorem kt_687 : (Jvm.Cond.methodLink "SafeSweeps$Sweep" (76 : Nat) ({ cls := "SafeSweeps$Sweep", name := "chooseNext", desc := "()Z" } : Jvm.MethodName)) ∈ kw_tbl := kts_3 (i := 207) rfl rfl
set_option maxRecDepth 100000 in
theorem kt_688 : (Jvm.Cond.instanceMethod ({ cls := "SafeSweeps$Sweep", name := "chooseNext", desc := "()Z" } : Jvm.MethodName)) ∈ kw_tbl := kts_3 (i := 208) rfl rfl
set_option maxRecDepth 100000 in
theorem kt_689 : (Jvm.Cond.selects "SafeSweeps$Sweep" ({ cls := "SafeSweeps$Sweep", name := "chooseNext", desc := "()Z" } : Jvm.MethodName) ({ cls := "SafeSweeps$Sweep", name := "chooseNext", desc := "()Z" } : Jvm.MethodName)) ∈ kw_tbl := kts_3 (i := 209) rfl rfl
set_option maxRecDepth 100000 in
theorem kt_690 : (Jvm.Cond.code ({ cls := "SafeSweeps$Sweep", name := "chooseNext", desc := "()Z" } : Jvm.MethodName) prog_12_method_10_code (3 : Nat) (Option.some Jvm.ClassFile.FieldType.boolean)) ∈ kw_tbl := kts_3 (i := 210) rfl rfl
set_option maxRecDepth 100000 in
theorem kt_691 : (Jvm.Cond.methodLink "SafeSweeps$Sweep" (111 : Nat) ({ cls := "SafeSweeps$Store", name := "free", desc := "(I)Z" } : Jvm.MethodName)) ∈ kw_tbl := kts_3 (i := 211) rfl rfl
set_option maxRecDepth 100000 in
theorem kt_692 : (Jvm.Cond.instanceMethod ({ cls := "SafeSweeps$Store", name := "free", desc := "(I)Z" } : Jvm.MethodName)) ∈ kw_tbl := kts_3 (i := 212) rfl rfl
set_option maxRecDepth 100000 in
theorem kt_693 : (Jvm.Cond.selects "SafeSweeps$Store" ({ cls := "SafeSweeps$Store", name := "free", desc := "(I)Z" } : Jvm.MethodName) ({ cls := "SafeSweeps$Store", name := "free", desc := "(I)Z" } : Jvm.MethodName)) ∈ kw_tbl := kts_3 (i := 213) rfl rfl
set_option maxRecDepth 100000 in
theorem kt_694 : (Jvm.Cond.code ({ cls := "SafeSweeps$Store", name := "free", desc := "(I)Z" } : Jvm.MethodName) prog_11_method_11_code (3 : Nat) (Option.some Jvm.ClassFile.FieldType.boolean)) ∈ kw_tbl := kts_3 (i := 214) rfl rfl
set_option maxRecDepth 100000 in
theorem kt_695 : (Jvm.Cond.methodLink "SafeSweeps$Sweep" (79 : Nat) ({ cls := "SafeSweeps$Sweep", name := "packNext", desc := "()Z" } : Jvm.MethodName)) ∈ kw_tbl := kts_3 (i := 215) rfl rfl
set_option maxRecDepth 100000 in
theorem kt_696 : (Jvm.Cond.instanceMethod ({ cls := "SafeSweeps$Sweep", name := "packNext", desc := "()Z" } : Jvm.MethodName)) ∈ kw_tbl := kts_3 (i := 216) rfl rfl
set_option maxRecDepth 100000 in
theorem kt_697 : (Jvm.Cond.selects "SafeSweeps$Sweep" ({ cls := "SafeSweeps$Sweep", name := "packNext", desc := "()Z" } : Jvm.MethodName) ({ cls := "SafeSweeps$Sweep", name := "packNext", desc := "()Z" } : Jvm.MethodName)) ∈ kw_tbl := kts_3 (i := 217) rfl rfl
set_option maxRecDepth 100000 in
theorem kt_698 : (Jvm.Cond.code ({ cls := "SafeSweeps$Sweep", name := "packNext", desc := "()Z" } : Jvm.MethodName) prog_12_method_11_code (2 : Nat) (Option.some Jvm.ClassFile.FieldType.boolean)) ∈ kw_tbl := kts_3 (i := 218) rfl rfl
set_option maxRecDepth 100000 in
theorem kt_699 : (Jvm.Cond.methodLink "SafeSweeps$Sweep" (115 : Nat) ({ cls := "SafeSweeps$Mover", name := "isDue", desc := "(II)Z" } : Jvm.MethodName)) ∈ kw_tbl := kts_3 (i := 219) rfl rfl
set_option maxRecDepth 100000 in
theorem kt_700 : (Jvm.Cond.instanceMethod ({ cls := "SafeSweeps$Mover", name := "isDue", desc := "(II)Z" } : Jvm.MethodName)) ∈ kw_tbl := kts_3 (i := 220) rfl rfl
set_option maxRecDepth 100000 in
theorem kt_701 : (Jvm.Cond.selects "SafeSweeps$Mover" ({ cls := "SafeSweeps$Mover", name := "isDue", desc := "(II)Z" } : Jvm.MethodName) ({ cls := "SafeSweeps$Mover", name := "isDue", desc := "(II)Z" } : Jvm.MethodName)) ∈ kw_tbl := kts_3 (i := 221) rfl rfl
set_option maxRecDepth 100000 in
theorem kt_702 : (Jvm.Cond.code ({ cls := "SafeSweeps$Mover", name := "isDue", desc := "(II)Z" } : Jvm.MethodName) prog_6_method_2_code (4 : Nat) (Option.some Jvm.ClassFile.FieldType.boolean)) ∈ kw_tbl := kts_3 (i := 222) rfl rfl
set_option maxRecDepth 100000 in
theorem kt_703 : (Jvm.Cond.methodLink "SafeSweeps$Sweep" (118 : Nat) ({ cls := "SafeSweeps$Mover", name := "packAnew", desc := "(I)Z" } : Jvm.MethodName)) ∈ kw_tbl := kts_3 (i := 223) rfl rfl
set_option maxRecDepth 100000 in
theorem kt_704 : (Jvm.Cond.instanceMethod ({ cls := "SafeSweeps$Mover", name := "packAnew", desc := "(I)Z" } : Jvm.MethodName)) ∈ kw_tbl := kts_3 (i := 224) rfl rfl
set_option maxRecDepth 100000 in
theorem kt_705 : (Jvm.Cond.selects "SafeSweeps$Mover" ({ cls := "SafeSweeps$Mover", name := "packAnew", desc := "(I)Z" } : Jvm.MethodName) ({ cls := "SafeSweeps$Mover", name := "packAnew", desc := "(I)Z" } : Jvm.MethodName)) ∈ kw_tbl := kts_3 (i := 225) rfl rfl
set_option maxRecDepth 100000 in
theorem kt_706 : (Jvm.Cond.code ({ cls := "SafeSweeps$Mover", name := "packAnew", desc := "(I)Z" } : Jvm.MethodName) prog_6_method_3_code (3 : Nat) (Option.some Jvm.ClassFile.FieldType.boolean)) ∈ kw_tbl := kts_3 (i := 226) rfl rfl
set_option maxRecDepth 100000 in
theorem kt_707 : (Jvm.Cond.methodLink "SafeSweeps$Mover" (47 : Nat) ({ cls := "SafeSweeps$Mover", name := "collect", desc := "(I)V" } : Jvm.MethodName)) ∈ kw_tbl := kts_3 (i := 227) rfl rfl
set_option maxRecDepth 100000 in
theorem kt_708 : (Jvm.Cond.instanceMethod ({ cls := "SafeSweeps$Mover", name := "collect", desc := "(I)V" } : Jvm.MethodName)) ∈ kw_tbl := kts_3 (i := 228) rfl rfl
set_option maxRecDepth 100000 in
theorem kt_709 : (Jvm.Cond.selects "SafeSweeps$Mover" ({ cls := "SafeSweeps$Mover", name := "collect", desc := "(I)V" } : Jvm.MethodName) ({ cls := "SafeSweeps$Mover", name := "collect", desc := "(I)V" } : Jvm.MethodName)) ∈ kw_tbl := kts_3 (i := 229) rfl rfl
set_option maxRecDepth 100000 in
theorem kt_710 : (Jvm.Cond.code ({ cls := "SafeSweeps$Mover", name := "collect", desc := "(I)V" } : Jvm.MethodName) prog_6_method_4_code (3 : Nat) (Option.none : Option Jvm.ClassFile.FieldType)) ∈ kw_tbl := kts_3 (i := 230) rfl rfl
set_option maxRecDepth 100000 in
theorem kt_711 : (Jvm.Cond.methodLink "SafeSweeps$Mover" (70 : Nat) ({ cls := "SafeSweeps$Store", name := "liesIn", desc := "(II)Z" } : Jvm.MethodName)) ∈ kw_tbl := kts_3 (i := 231) rfl rfl
set_option maxRecDepth 100000 in
theorem kt_712 : (Jvm.Cond.instanceMethod ({ cls := "SafeSweeps$Store", name := "liesIn", desc := "(II)Z" } : Jvm.MethodName)) ∈ kw_tbl := kts_3 (i := 232) rfl rfl
set_option maxRecDepth 100000 in
theorem kt_713 : (Jvm.Cond.selects "SafeSweeps$Store" ({ cls := "SafeSweeps$Store", name := "liesIn", desc := "(II)Z" } : Jvm.MethodName) ({ cls := "SafeSweeps$Store", name := "liesIn", desc := "(II)Z" } : Jvm.MethodName)) ∈ kw_tbl := kts_3 (i := 233) rfl rfl
set_option maxRecDepth 100000 in
theorem kt_714 : (Jvm.Cond.code ({ cls := "SafeSweeps$Store", name := "liesIn", desc := "(II)Z" } : Jvm.MethodName) prog_11_method_5_code (3 : Nat) (Option.some Jvm.ClassFile.FieldType.boolean)) ∈ kw_tbl := kts_3 (i := 234) rfl rfl
set_option maxRecDepth 100000 in
theorem kt_715 : (Jvm.Cond.methodLink "SafeSweeps$Mover" (74 : Nat) ({ cls := "SafeSweeps$Mover", name := "insertByPlace", desc := "(I)V" } : Jvm.MethodName)) ∈ kw_tbl := kts_3 (i := 235) rfl rfl
set_option maxRecDepth 100000 in
theorem kt_716 : (Jvm.Cond.instanceMethod ({ cls := "SafeSweeps$Mover", name := "insertByPlace", desc := "(I)V" } : Jvm.MethodName)) ∈ kw_tbl := kts_3 (i := 236) rfl rfl
set_option maxRecDepth 100000 in
theorem kt_717 : (Jvm.Cond.selects "SafeSweeps$Mover" ({ cls := "SafeSweeps$Mover", name := "insertByPlace", desc := "(I)V" } : Jvm.MethodName) ({ cls := "SafeSweeps$Mover", name := "insertByPlace", desc := "(I)V" } : Jvm.MethodName)) ∈ kw_tbl := kts_3 (i := 237) rfl rfl
set_option maxRecDepth 100000 in
theorem kt_718 : (Jvm.Cond.code ({ cls := "SafeSweeps$Mover", name := "insertByPlace", desc := "(I)V" } : Jvm.MethodName) prog_6_method_5_code (4 : Nat) (Option.none : Option Jvm.ClassFile.FieldType)) ∈ kw_tbl := kts_3 (i := 238) rfl rfl
set_option maxRecDepth 100000 in
theorem kt_719 : (Jvm.Cond.methodLink "SafeSweeps$Mover" (51 : Nat) ({ cls := "SafeSweeps$Mover", name := "plan", desc := "(I)Z" } : Jvm.MethodName)) ∈ kw_tbl := kts_3 (i := 239) rfl rfl
set_option maxRecDepth 100000 in
theorem kt_720 : (Jvm.Cond.instanceMethod ({ cls := "SafeSweeps$Mover", name := "plan", desc := "(I)Z" } : Jvm.MethodName)) ∈ kw_tbl := kts_4 (i := 0) rfl rfl
set_option maxRecDepth 100000 in
theorem kt_721 : (Jvm.Cond.selects "SafeSweeps$Mover" ({ cls := "SafeSweeps$Mover", name := "plan", desc := "(I)Z" } : Jvm.MethodName) ({ cls := "SafeSweeps$Mover", name := "plan", desc := "(I)Z" } : Jvm.MethodName)) ∈ kw_tbl := kts_4 (i := 1) rfl rfl
set_option maxRecDepth 100000 in
theorem kt_722 : (Jvm.Cond.code ({ cls := "SafeSweeps$Mover", name := "plan", desc := "(I)Z" } : Jvm.MethodName) prog_6_method_6_code (6 : Nat) (Option.some Jvm.ClassFile.FieldType.boolean)) ∈ kw_tbl := kts_4 (i := 2) rfl rfl
set_option maxRecDepth 100000 in
theorem kt_723 : (Jvm.Cond.methodLink "SafeSweeps$Mover" (89 : Nat) ({ cls := "SafeSweeps$Store", name := "filledOfLatest", desc := "(I)I" } : Jvm.MethodName)) ∈ kw_tbl := kts_4 (i := 3) rfl rfl
set_option maxRecDepth 100000 in
theorem kt_724 : (Jvm.Cond.methodLink "SafeSweeps$Mover" (58 : Nat) ({ cls := "SafeSweeps$Journal", name := "write", desc := "()Z" } : Jvm.MethodName)) ∈ kw_tbl := kts_4 (i := 4) rfl rfl
set_option maxRecDepth 100000 in
theorem kt_725 : (Jvm.Cond.methodLink "SafeSweeps$Mover" (64 : Nat) ({ cls := "SafeSweeps$Mover", name := "carryOut", desc := "(I)V" } : Jvm.MethodName)) ∈ kw_tbl := kts_4 (i := 5) rfl rfl
set_option maxRecDepth 100000 in
theorem kt_726 : (Jvm.Cond.instanceMethod ({ cls := "SafeSweeps$Mover", name := "carryOut", desc := "(I)V" } : Jvm.MethodName)) ∈ kw_tbl := kts_4 (i := 6) rfl rfl
set_option maxRecDepth 100000 in
theorem kt_727 : (Jvm.Cond.selects "SafeSweeps$Mover" ({ cls := "SafeSweeps$Mover", name := "carryOut", desc := "(I)V" } : Jvm.MethodName) ({ cls := "SafeSweeps$Mover", name := "carryOut", desc := "(I)V" } : Jvm.MethodName)) ∈ kw_tbl := kts_4 (i := 7) rfl rfl
set_option maxRecDepth 100000 in
theorem kt_728 : (Jvm.Cond.code ({ cls := "SafeSweeps$Mover", name := "carryOut", desc := "(I)V" } : Jvm.MethodName) prog_6_method_7_code (3 : Nat) (Option.none : Option Jvm.ClassFile.FieldType)) ∈ kw_tbl := kts_4 (i := 8) rfl rfl
set_option maxRecDepth 100000 in
theorem kt_729 : (Jvm.Cond.methodLink "SafeSweeps$Mover" (99 : Nat) ({ cls := "SafeSweeps$Store", name := "lay", desc := "(III)V" } : Jvm.MethodName)) ∈ kw_tbl := kts_4 (i := 9) rfl rfl
set_option maxRecDepth 100000 in
theorem kt_730 : (Jvm.Cond.methodLink "SafeSweeps$Sweep" (82 : Nat) ({ cls := "SafeSweeps$Sweep", name := "settle", desc := "()V" } : Jvm.MethodName)) ∈ kw_tbl := kts_4 (i := 10) rfl rfl
set_option maxRecDepth 100000 in
theorem kt_731 : (Jvm.Cond.methodLink "SafeSweepsLaw" (81 : Nat) ({ cls := "SafeSweeps", name := "share", desc := "(I)I" } : Jvm.MethodName)) ∈ kw_tbl := kts_4 (i := 11) rfl rfl
set_option maxRecDepth 100000 in
theorem kt_732 : (Jvm.Cond.instanceMethod ({ cls := "SafeSweeps", name := "share", desc := "(I)I" } : Jvm.MethodName)) ∈ kw_tbl := kts_4 (i := 12) rfl rfl
set_option maxRecDepth 100000 in
theorem kt_733 : (Jvm.Cond.selects "SafeSweeps" ({ cls := "SafeSweeps", name := "share", desc := "(I)I" } : Jvm.MethodName) ({ cls := "SafeSweeps", name := "share", desc := "(I)I" } : Jvm.MethodName)) ∈ kw_tbl := kts_4 (i := 13) rfl rfl
set_option maxRecDepth 100000 in
theorem kt_734 : (Jvm.Cond.code ({ cls := "SafeSweeps", name := "share", desc := "(I)I" } : Jvm.MethodName) prog_1_method_27_code (3 : Nat) (Option.some Jvm.ClassFile.FieldType.int)) ∈ kw_tbl := kts_4 (i := 14) rfl rfl
set_option maxRecDepth 100000 in
theorem kt_735 : (Jvm.Cond.methodLink "SafeSweepsLaw" (85 : Nat) ({ cls := "SafeSweeps", name := "cut", desc := "(I)I" } : Jvm.MethodName)) ∈ kw_tbl := kts_4 (i := 15) rfl rfl
set_option maxRecDepth 100000 in
theorem kt_736 : (Jvm.Cond.instanceMethod ({ cls := "SafeSweeps", name := "cut", desc := "(I)I" } : Jvm.MethodName)) ∈ kw_tbl := kts_4 (i := 16) rfl rfl
set_option maxRecDepth 100000 in
theorem kt_737 : (Jvm.Cond.selects "SafeSweeps" ({ cls := "SafeSweeps", name := "cut", desc := "(I)I" } : Jvm.MethodName) ({ cls := "SafeSweeps", name := "cut", desc := "(I)I" } : Jvm.MethodName)) ∈ kw_tbl := kts_4 (i := 17) rfl rfl
set_option maxRecDepth 100000 in
theorem kt_738 : (Jvm.Cond.code ({ cls := "SafeSweeps", name := "cut", desc := "(I)I" } : Jvm.MethodName) prog_1_method_28_code (2 : Nat) (Option.some Jvm.ClassFile.FieldType.int)) ∈ kw_tbl := kts_4 (i := 18) rfl rfl
set_option maxRecDepth 100000 in
theorem kt_739 : (Jvm.Cond.methodLink "SafeSweepsLaw" (89 : Nat) ({ cls := "SafeSweeps", name := "open", desc := "()I" } : Jvm.MethodName)) ∈ kw_tbl := kts_4 (i := 19) rfl rfl
set_option maxRecDepth 100000 in
theorem kt_740 : (Jvm.Cond.instanceMethod ({ cls := "SafeSweeps", name := "open", desc := "()I" } : Jvm.MethodName)) ∈ kw_tbl := kts_4 (i := 20) rfl rfl
set_option maxRecDepth 100000 in
theorem kt_741 : (Jvm.Cond.selects "SafeSweeps" ({ cls := "SafeSweeps", name := "open", desc := "()I" } : Jvm.MethodName) ({ cls := "SafeSweeps", name := "open", desc := "()I" } : Jvm.MethodName)) ∈ kw_tbl := kts_4 (i := 21) rfl rfl
set_option maxRecDepth 100000 in
theorem kt_742 : (Jvm.Cond.code ({ cls := "SafeSweeps", name := "open", desc := "()I" } : Jvm.MethodName) prog_1_method_29_code (1 : Nat) (Option.some Jvm.ClassFile.FieldType.int)) ∈ kw_tbl := kts_4 (i := 22) rfl rfl
set_option maxRecDepth 100000 in
theorem kt_743 : (Jvm.Cond.methodLink "SafeSweeps" (264 : Nat) ({ cls := "SafeSweeps$Store", name := "blocksWaiting", desc := "()I" } : Jvm.MethodName)) ∈ kw_tbl := kts_4 (i := 23) rfl rfl
set_option maxRecDepth 100000 in
theorem kt_744 : (Jvm.Cond.instanceMethod ({ cls := "SafeSweeps$Store", name := "blocksWaiting", desc := "()I" } : Jvm.MethodName)) ∈ kw_tbl := kts_4 (i := 24) rfl rfl
set_option maxRecDepth 100000 in
theorem kt_745 : (Jvm.Cond.selects "SafeSweeps$Store" ({ cls := "SafeSweeps$Store", name := "blocksWaiting", desc := "()I" } : Jvm.MethodName) ({ cls := "SafeSweeps$Store", name := "blocksWaiting", desc := "()I" } : Jvm.MethodName)) ∈ kw_tbl := kts_4 (i := 25) rfl rfl
set_option maxRecDepth 100000 in
theorem kt_746 : (Jvm.Cond.code ({ cls := "SafeSweeps$Store", name := "blocksWaiting", desc := "()I" } : Jvm.MethodName) prog_11_method_3_code (3 : Nat) (Option.some Jvm.ClassFile.FieldType.int)) ∈ kw_tbl := kts_4 (i := 26) rfl rfl
set_option maxRecDepth 100000 in
theorem kt_747 : (Jvm.Cond.methodLink "SafeSweepsLaw" (93 : Nat) ({ cls := "SafeSweeps", name := "follow", desc := "(II)I" } : Jvm.MethodName)) ∈ kw_tbl := kts_4 (i := 27) rfl rfl
set_option maxRecDepth 100000 in
theorem kt_748 : (Jvm.Cond.instanceMethod ({ cls := "SafeSweeps", name := "follow", desc := "(II)I" } : Jvm.MethodName)) ∈ kw_tbl := kts_4 (i := 28) rfl rfl
set_option maxRecDepth 100000 in
theorem kt_749 : (Jvm.Cond.selects "SafeSweeps" ({ cls := "SafeSweeps", name := "follow", desc := "(II)I" } : Jvm.MethodName) ({ cls := "SafeSweeps", name := "follow", desc := "(II)I" } : Jvm.MethodName)) ∈ kw_tbl := kts_4 (i := 29) rfl rfl
set_option maxRecDepth 100000 in
theorem kt_750 : (Jvm.Cond.code ({ cls := "SafeSweeps", name := "follow", desc := "(II)I" } : Jvm.MethodName) prog_1_method_31_code (3 : Nat) (Option.some Jvm.ClassFile.FieldType.int)) ∈ kw_tbl := kts_4 (i := 30) rfl rfl
set_option maxRecDepth 100000 in
theorem kt_751 : (Jvm.Cond.methodLink "SafeSweeps" (267 : Nat) ({ cls := "SafeSweeps$Mirror", name := "repeat", desc := "(LSafeSweeps$Journal;I)V" } : Jvm.MethodName)) ∈ kw_tbl := kts_4 (i := 31) rfl rfl
set_option maxRecDepth 100000 in
theorem kt_752 : (Jvm.Cond.instanceMethod ({ cls := "SafeSweeps$Mirror", name := "repeat", desc := "(LSafeSweeps$Journal;I)V" } : Jvm.MethodName)) ∈ kw_tbl := kts_4 (i := 32) rfl rfl
set_option maxRecDepth 100000 in
theorem kt_753 : (Jvm.Cond.selects "SafeSweeps$Mirror" ({ cls := "SafeSweeps$Mirror", name := "repeat", desc := "(LSafeSweeps$Journal;I)V" } : Jvm.MethodName) ({ cls := "SafeSweeps$Mirror", name := "repeat", desc := "(LSafeSweeps$Journal;I)V" } : Jvm.MethodName)) ∈ kw_tbl := kts_4 (i := 33) rfl rfl
set_option maxRecDepth 100000 in
theorem kt_754 : (Jvm.Cond.code ({ cls := "SafeSweeps$Mirror", name := "repeat", desc := "(LSafeSweeps$Journal;I)V" } : Jvm.MethodName) prog_5_method_2_code (7 : Nat) (Option.none : Option Jvm.ClassFile.FieldType)) ∈ kw_tbl := kts_4 (i := 34) rfl rfl
set_option maxRecDepth 100000 in
theorem kt_755 : (Jvm.Cond.methodLink "SafeSweeps$Mirror" (27 : Nat) ({ cls := "java/lang/Math", name := "min", desc := "(II)I" } : Jvm.MethodName)) ∈ kw_tbl := kts_4 (i := 35) rfl rfl
set_option maxRecDepth 100000 in
theorem kt_756 : (Jvm.Cond.methodLink "SafeSweepsLaw" (97 : Nat) ({ cls := "SafeSweeps", name := "count", desc := "(I)I" } : Jvm.MethodName)) ∈ kw_tbl := kts_4 (i := 36) rfl rfl
set_option maxRecDepth 100000 in
theorem kt_757 : (Jvm.Cond.instanceMethod ({ cls := "SafeSweeps", name := "count", desc := "(I)I" } : Jvm.MethodName)) ∈ kw_tbl := kts_4 (i := 37) rfl rfl
set_option maxRecDepth 100000 in
theorem kt_758 : (Jvm.Cond.selects "SafeSweeps" ({ cls := "SafeSweeps", name := "count", desc := "(I)I" } : Jvm.MethodName) ({ cls := "SafeSweeps", name := "count", desc := "(I)I" } : Jvm.MethodName)) ∈ kw_tbl := kts_4 (i := 38) rfl rfl
set_option maxRecDepth 100000 in
theorem kt_759 : (Jvm.Cond.code ({ cls := "SafeSweeps", name := "count", desc := "(I)I" } : Jvm.MethodName) prog_1_method_32_code (2 : Nat) (Option.some Jvm.ClassFile.FieldType.int)) ∈ kw_tbl := kts_4 (i := 39) rfl rfl
set_option maxRecDepth 100000 in
theorem kt_760 : (Jvm.Cond.methodLink "SafeSweeps" (289 : Nat) ({ cls := "SafeSweeps", name := "saversHere", desc := "()I" } : Jvm.MethodName)) ∈ kw_tbl := kts_4 (i := 40) rfl rfl
set_option maxRecDepth 100000 in
theorem kt_762 : (Jvm.Cond.instanceMethod ({ cls := "SafeSweeps", name := "saversHere", desc := "()I" } : Jvm.MethodName)) ∈ kw_tbl := kts_4 (i := 42) rfl rfl
set_option maxRecDepth 100000 in
theorem kt_763 : (Jvm.Cond.code ({ cls := "SafeSweeps", name := "saversHere", desc := "()I" } : Jvm.MethodName) prog_1_method_14_code (3 : Nat) (Option.some Jvm.ClassFile.FieldType.int)) ∈ kw_tbl := kts_4 (i := 43) rfl rfl
set_option maxRecDepth 100000 in
theorem kt_764 : (Jvm.Cond.methodLink "SafeSweepsLaw" (101 : Nat) ({ cls := "SafeSweeps", name := "block", desc := "(II)I" } : Jvm.MethodName)) ∈ kw_tbl := kts_4 (i := 44) rfl rfl
set_option maxRecDepth 100000 in
theorem kt_765 : (Jvm.Cond.instanceMethod ({ cls := "SafeSweeps", name := "block", desc := "(II)I" } : Jvm.MethodName)) ∈ kw_tbl := kts_4 (i := 45) rfl rfl
set_option maxRecDepth 100000 in
theorem kt_766 : (Jvm.Cond.selects "SafeSweeps" ({ cls := "SafeSweeps", name := "block", desc := "(II)I" } : Jvm.MethodName) ({ cls := "SafeSweeps", name := "block", desc := "(II)I" } : Jvm.MethodName)) ∈ kw_tbl := kts_4 (i := 46) rfl rfl
set_option maxRecDepth 100000 in
theorem kt_767 : (Jvm.Cond.code ({ cls := "SafeSweeps", name := "block", desc := "(II)I" } : Jvm.MethodName) prog_1_method_33_code (4 : Nat) (Option.some Jvm.ClassFile.FieldType.int)) ∈ kw_tbl := kts_4 (i := 47) rfl rfl
set_option maxRecDepth 100000 in
theorem kt_768 : (Jvm.Cond.methodLink "SafeSweeps" (322 : Nat) ({ cls := "SafeSweeps", name := "saversThatUse", desc := "(I)I" } : Jvm.MethodName)) ∈ kw_tbl := kts_4 (i := 48) rfl rfl
set_option maxRecDepth 100000 in
theorem kt_770 : (Jvm.Cond.instanceMethod ({ cls := "SafeSweeps", name := "saversThatUse", desc := "(I)I" } : Jvm.MethodName)) ∈ kw_tbl := kts_4 (i := 50) rfl rfl
set_option maxRecDepth 100000 in
theorem kt_771 : (Jvm.Cond.code ({ cls := "SafeSweeps", name := "saversThatUse", desc := "(I)I" } : Jvm.MethodName) prog_1_method_15_code (4 : Nat) (Option.some Jvm.ClassFile.FieldType.int)) ∈ kw_tbl := kts_4 (i := 51) rfl rfl
set_option maxRecDepth 100000 in
theorem kt_772 : (Jvm.Cond.methodLink "SafeSweepsLaw" (105 : Nat) ({ cls := "SafeSweeps", name := "key", desc := "(I)J" } : Jvm.MethodName)) ∈ kw_tbl := kts_4 (i := 52) rfl rfl
set_option maxRecDepth 100000 in
theorem kt_773 : (Jvm.Cond.instanceMethod ({ cls := "SafeSweeps", name := "key", desc := "(I)J" } : Jvm.MethodName)) ∈ kw_tbl := kts_4 (i := 53) rfl rfl
set_option maxRecDepth 100000 in
theorem kt_774 : (Jvm.Cond.selects "SafeSweeps" ({ cls := "SafeSweeps", name := "key", desc := "(I)J" } : Jvm.MethodName) ({ cls := "SafeSweeps", name := "key", desc := "(I)J" } : Jvm.MethodName)) ∈ kw_tbl := kts_4 (i := 54) rfl rfl
set_option maxRecDepth 100000 in
theorem kt_775 : (Jvm.Cond.code ({ cls := "SafeSweeps", name := "key", desc := "(I)J" } : Jvm.MethodName) prog_1_method_34_code (2 : Nat) (Option.some Jvm.ClassFile.FieldType.long)) ∈ kw_tbl := kts_4 (i := 55) rfl rfl
set_option maxRecDepth 100000 in
theorem kt_776 : (Jvm.Cond.methodLink "SafeSweepsLaw" (110 : Nat) ({ cls := "SafeSweeps", name := "pack", desc := "(II)I" } : Jvm.MethodName)) ∈ kw_tbl := kts_4 (i := 56) rfl rfl
set_option maxRecDepth 100000 in
theorem kt_777 : (Jvm.Cond.instanceMethod ({ cls := "SafeSweeps", name := "pack", desc := "(II)I" } : Jvm.MethodName)) ∈ kw_tbl := kts_4 (i := 57) rfl rfl
set_option maxRecDepth 100000 in
theorem kt_778 : (Jvm.Cond.selects "SafeSweeps" ({ cls := "SafeSweeps", name := "pack", desc := "(II)I" } : Jvm.MethodName) ({ cls := "SafeSweeps", name := "pack", desc := "(II)I" } : Jvm.MethodName)) ∈ kw_tbl := kts_4 (i := 58) rfl rfl
set_option maxRecDepth 100000 in
theorem kt_779 : (Jvm.Cond.code ({ cls := "SafeSweeps", name := "pack", desc := "(II)I" } : Jvm.MethodName) prog_1_method_35_code (4 : Nat) (Option.some Jvm.ClassFile.FieldType.int)) ∈ kw_tbl := kts_4 (i := 59) rfl rfl
set_option maxRecDepth 100000 in
theorem kt_780 : (Jvm.Cond.methodLink "SafeSweeps" (342 : Nat) ({ cls := "SafeSweeps$Store", name := "blocksIn", desc := "(I)I" } : Jvm.MethodName)) ∈ kw_tbl := kts_4 (i := 60) rfl rfl
set_option maxRecDepth 100000 in
theorem kt_781 : (Jvm.Cond.instanceMethod ({ cls := "SafeSweeps$Store", name := "blocksIn", desc := "(I)I" } : Jvm.MethodName)) ∈ kw_tbl := kts_4 (i := 61) rfl rfl
set_option maxRecDepth 100000 in
theorem kt_782 : (Jvm.Cond.selects "SafeSweeps$Store" ({ cls := "SafeSweeps$Store", name := "blocksIn", desc := "(I)I" } : Jvm.MethodName) ({ cls := "SafeSweeps$Store", name := "blocksIn", desc := "(I)I" } : Jvm.MethodName)) ∈ kw_tbl := kts_4 (i := 62) rfl rfl
set_option maxRecDepth 100000 in
theorem kt_783 : (Jvm.Cond.code ({ cls := "SafeSweeps$Store", name := "blocksIn", desc := "(I)I" } : Jvm.MethodName) prog_11_method_4_code (4 : Nat) (Option.some Jvm.ClassFile.FieldType.int)) ∈ kw_tbl := kts_4 (i := 63) rfl rfl
set_option maxRecDepth 100000 in
theorem kt_784 : (Jvm.Cond.methodLink "SafeSweeps$Store" (45 : Nat) ({ cls := "SafeSweeps$Store", name := "liesIn", desc := "(II)Z" } : Jvm.MethodName)) ∈ kw_tbl := kts_4 (i := 64) rfl rfl
set_option maxRecDepth 100000 in
theorem kt_785 : (Jvm.Cond.methodLink "SafeSweepsLaw" (114 : Nat) ({ cls := "SafeSweeps", name := "snapshot", desc := "(II)I" } : Jvm.MethodName)) ∈ kw_tbl := kts_4 (i := 65) rfl rfl
set_option maxRecDepth 100000 in
theorem kt_786 : (Jvm.Cond.instanceMethod ({ cls := "SafeSweeps", name := "snapshot", desc := "(II)I" } : Jvm.MethodName)) ∈ kw_tbl := kts_4 (i := 66) rfl rfl
set_option maxRecDepth 100000 in
theorem kt_787 : (Jvm.Cond.selects "SafeSweeps" ({ cls := "SafeSweeps", name := "snapshot", desc := "(II)I" } : Jvm.MethodName) ({ cls := "SafeSweeps", name := "snapshot", desc := "(II)I" } : Jvm.MethodName)) ∈ kw_tbl := kts_4 (i := 67) rfl rfl
set_option maxRecDepth 100000 in
theorem kt_788 : (Jvm.Cond.code ({ cls := "SafeSweeps", name := "snapshot", desc := "(II)I" } : Jvm.MethodName) prog_1_method_36_code (4 : Nat) (Option.some Jvm.ClassFile.FieldType.int)) ∈ kw_tbl := kts_4 (i := 68) rfl rfl
set_option maxRecDepth 100000 in
theorem kt_789 : (Jvm.Cond.methodLink "SafeSweepsLaw" (118 : Nat) ({ cls := "SafeSweeps", name := "time", desc := "(I)J" } : Jvm.MethodName)) ∈ kw_tbl := kts_4 (i := 69) rfl rfl
set_option maxRecDepth 100000 in
theorem kt_790 : (Jvm.Cond.instanceMethod ({ cls := "SafeSweeps", name := "time", desc := "(I)J" } : Jvm.MethodName)) ∈ kw_tbl := kts_4 (i := 70) rfl rfl
set_option maxRecDepth 100000 in
theorem kt_791 : (Jvm.Cond.selects "SafeSweeps" ({ cls := "SafeSweeps", name := "time", desc := "(I)J" } : Jvm.MethodName) ({ cls := "SafeSweeps", name := "time", desc := "(I)J" } : Jvm.MethodName)) ∈ kw_tbl := kts_4 (i := 71) rfl rfl
set_option maxRecDepth 100000 in
theorem kt_792 : (Jvm.Cond.code ({ cls := "SafeSweeps", name := "time", desc := "(I)J" } : Jvm.MethodName) prog_1_method_37_code (2 : Nat) (Option.some Jvm.ClassFile.FieldType.long)) ∈ kw_tbl := kts_4 (i := 72) rfl rfl
set_option maxRecDepth 100000 in
theorem kt_793 : (Jvm.Cond.methodLink "SafeSweepsLaw" (122 : Nat) ({ cls := "SafeSweeps", name := "saver", desc := "(II)I" } : Jvm.MethodName)) ∈ kw_tbl := kts_4 (i := 73) rfl rfl
set_option maxRecDepth 100000 in
theorem kt_794 : (Jvm.Cond.instanceMethod ({ cls := "SafeSweeps", name := "saver", desc := "(II)I" } : Jvm.MethodName)) ∈ kw_tbl := kts_4 (i := 74) rfl rfl
set_option maxRecDepth 100000 in
theorem kt_795 : (Jvm.Cond.selects "SafeSweeps" ({ cls := "SafeSweeps", name := "saver", desc := "(II)I" } : Jvm.MethodName) ({ cls := "SafeSweeps", name := "saver", desc := "(II)I" } : Jvm.MethodName)) ∈ kw_tbl := kts_4 (i := 75) rfl rfl
set_option maxRecDepth 100000 in
theorem kt_796 : (Jvm.Cond.code ({ cls := "SafeSweeps", name := "saver", desc := "(II)I" } : Jvm.MethodName) prog_1_method_38_code (4 : Nat) (Option.some Jvm.ClassFile.FieldType.int)) ∈ kw_tbl := kts_4 (i := 76) rfl rfl
set_option maxRecDepth 100000 in
theorem kt_797 : (Jvm.Cond.methodLink "SafeSweepsLaw" (126 : Nat) ({ cls := "SafeSweeps", name := "swept", desc := "(I)I" } : Jvm.MethodName)) ∈ kw_tbl := kts_4 (i := 77) rfl rfl
set_option maxRecDepth 100000 in
theorem kt_798 : (Jvm.Cond.instanceMethod ({ cls := "SafeSweeps", name := "swept", desc := "(I)I" } : Jvm.MethodName)) ∈ kw_tbl := kts_4 (i := 78) rfl rfl
set_option maxRecDepth 100000 in
theorem kt_799 : (Jvm.Cond.selects "SafeSweeps" ({ cls := "SafeSweeps", name := "swept", desc := "(I)I" } : Jvm.MethodName) ({ cls := "SafeSweeps", name := "swept", desc := "(I)I" } : Jvm.MethodName)) ∈ kw_tbl := kts_4 (i := 79) rfl rfl
set_option maxRecDepth 100000 in
theorem kt_800 : (Jvm.Cond.code ({ cls := "SafeSweeps", name := "swept", desc := "(I)I" } : Jvm.MethodName) prog_1_method_39_code (3 : Nat) (Option.some Jvm.ClassFile.FieldType.int)) ∈ kw_tbl := kts_4 (i := 80) rfl rfl
set_option maxRecDepth 100000 in
theorem kt_801 : (Jvm.Cond.methodLink "SafeSweepsLaw" (130 : Nat) ({ cls := "SafeSweeps", name := "calendar", desc := "(JI)I" } : Jvm.MethodName)) ∈ kw_tbl := kts_4 (i := 81) rfl rfl
set_option maxRecDepth 100000 in
theorem kt_802 : (Jvm.Cond.instanceMethod ({ cls := "SafeSweeps", name := "calendar", desc := "(JI)I" } : Jvm.MethodName)) ∈ kw_tbl := kts_4 (i := 82) rfl rfl
set_option maxRecDepth 100000 in
theorem kt_803 : (Jvm.Cond.selects "SafeSweeps" ({ cls := "SafeSweeps", name := "calendar", desc := "(JI)I" } : Jvm.MethodName) ({ cls := "SafeSweeps", name := "calendar", desc := "(JI)I" } : Jvm.MethodName)) ∈ kw_tbl := kts_4 (i := 83) rfl rfl
set_option maxRecDepth 100000 in
theorem kt_804 : (Jvm.Cond.code ({ cls := "SafeSweeps", name := "calendar", desc := "(JI)I" } : Jvm.MethodName) prog_1_method_40_code (6 : Nat) (Option.some Jvm.ClassFile.FieldType.int)) ∈ kw_tbl := kts_4 (i := 84) rfl rfl
set_option maxRecDepth 100000 in
theorem kt_805 : (Jvm.Cond.constantLong "SafeSweeps" (363 : Nat) (-1000000000000 : Int64)) ∈ kw_tbl := kts_4 (i := 85) rfl rfl
set_option maxRecDepth 100000 in
theorem kt_806 : (Jvm.Cond.methodLink "SafeSweeps" (365 : Nat) ({ cls := "SafeSweeps$Calendar", name := "dayOf", desc := "(J)J" } : Jvm.MethodName)) ∈ kw_tbl := kts_4 (i := 86) rfl rfl
set_option maxRecDepth 100000 in
theorem kt_807 : (Jvm.Cond.methodLink "SafeSweeps" (371 : Nat) ({ cls := "SafeSweeps$Calendar", name := "yearOf", desc := "(J)J" } : Jvm.MethodName)) ∈ kw_tbl := kts_4 (i := 87) rfl rfl
set_option maxRecDepth 100000 in
theorem kt_808 : (Jvm.Cond.methodLink "SafeSweeps" (374 : Nat) ({ cls := "SafeSweeps$Calendar", name := "monthOf", desc := "(J)I" } : Jvm.MethodName)) ∈ kw_tbl := kts_4 (i := 88) rfl rfl
set_option maxRecDepth 100000 in
theorem kt_809 : (Jvm.Cond.static ({ cls := "SafeSweeps$Calendar", name := "monthOf", desc := "(J)I" } : Jvm.MethodName)) ∈ kw_tbl := kts_4 (i := 89) rfl rfl
set_option maxRecDepth 100000 in
theorem kt_810 : (Jvm.Cond.code ({ cls := "SafeSweeps$Calendar", name := "monthOf", desc := "(J)I" } : Jvm.MethodName) prog_3_method_6_code (2 : Nat) (Option.some Jvm.ClassFile.FieldType.int)) ∈ kw_tbl := kts_4 (i := 90) rfl rfl
set_option maxRecDepth 100000 in
theorem kt_811 : (Jvm.Cond.methodLink "SafeSweeps$Calendar" (21 : Nat) ({ cls := "java/lang/Math", name := "floorMod", desc := "(JJ)J" } : Jvm.MethodName)) ∈ kw_tbl := kts_4 (i := 91) rfl rfl
set_option maxRecDepth 100000 in
theorem kt_812 : (Jvm.Cond.static ({ cls := "java/lang/Math", name := "floorMod", desc := "(JJ)J" } : Jvm.MethodName)) ∈ kw_tbl := kts_4 (i := 92) rfl rfl
set_option maxRecDepth 100000 in
theorem kt_813 : (Jvm.Cond.code ({ cls := "java/lang/Math", name := "floorMod", desc := "(JJ)J" } : Jvm.MethodName) prog_16_method_52_code (6 : Nat) (Option.some Jvm.ClassFile.FieldType.long)) ∈ kw_tbl := kts_4 (i := 93) rfl rfl
set_option maxRecDepth 100000 in
theorem kt_814 : (Jvm.Cond.methodLink "SafeSweeps" (378 : Nat) ({ cls := "SafeSweeps$Calendar", name := "dayOfMonth", desc := "(J)I" } : Jvm.MethodName)) ∈ kw_tbl := kts_4 (i := 94) rfl rfl
set_option maxRecDepth 100000 in
theorem kt_815 : (Jvm.Cond.static ({ cls := "SafeSweeps$Calendar", name := "dayOfMonth", desc := "(J)I" } : Jvm.MethodName)) ∈ kw_tbl := kts_4 (i := 95) rfl rfl
set_option maxRecDepth 100000 in
theorem kt_816 : (Jvm.Cond.code ({ cls := "SafeSweeps$Calendar", name := "dayOfMonth", desc := "(J)I" } : Jvm.MethodName) prog_3_method_7_code (6 : Nat) (Option.some Jvm.ClassFile.FieldType.int)) ∈ kw_tbl := kts_4 (i := 96) rfl rfl
set_option maxRecDepth 100000 in
theorem kt_817 : (Jvm.Cond.methodLink "SafeSweeps$Calendar" (43 : Nat) ({ cls := "SafeSweeps$Calendar", name := "daysBeforeMarchMonth", desc := "(J)J" } : Jvm.MethodName)) ∈ kw_tbl := kts_4 (i := 97) rfl rfl
set_option maxRecDepth 100000 in
theorem kt_818 : (Jvm.Cond.static ({ cls := "SafeSweeps$Calendar", name := "daysBeforeMarchMonth", desc := "(J)J" } : Jvm.MethodName)) ∈ kw_tbl := kts_4 (i := 98) rfl rfl
set_option maxRecDepth 100000 in
theorem kt_819 : (Jvm.Cond.code ({ cls := "SafeSweeps$Calendar", name := "daysBeforeMarchMonth", desc := "(J)J" } : Jvm.MethodName) prog_3_method_12_code (2 : Nat) (Option.some Jvm.ClassFile.FieldType.long)) ∈ kw_tbl := kts_4 (i := 99) rfl rfl
set_option maxRecDepth 100000 in
theorem kt_820 : (Jvm.Cond.methodLink "SafeSweeps" (381 : Nat) ({ cls := "SafeSweeps$Calendar", name := "dayOfWeek", desc := "(J)I" } : Jvm.MethodName)) ∈ kw_tbl := kts_4 (i := 100) rfl rfl
set_option maxRecDepth 100000 in
theorem kt_821 : (Jvm.Cond.static ({ cls := "SafeSweeps$Calendar", name := "dayOfWeek", desc := "(J)I" } : Jvm.MethodName)) ∈ kw_tbl := kts_4 (i := 101) rfl rfl
set_option maxRecDepth 100000 in
theorem kt_822 : (Jvm.Cond.code ({ cls := "SafeSweeps$Calendar", name := "dayOfWeek", desc := "(J)I" } : Jvm.MethodName) prog_3_method_4_code (2 : Nat) (Option.some Jvm.ClassFile.FieldType.int)) ∈ kw_tbl := kts_4 (i := 102) rfl rfl
set_option maxRecDepth 100000 in
theorem kt_823 : (Jvm.Cond.methodLink "SafeSweepsLaw" (135 : Nat) ({ cls := "SafeSweeps", name := "mirrored", desc := "(II)I" } : Jvm.MethodName)) ∈ kw_tbl := kts_4 (i := 103) rfl rfl
set_option maxRecDepth 100000 in
theorem kt_824 : (Jvm.Cond.instanceMethod ({ cls := "SafeSweeps", name := "mirrored", desc := "(II)I" } : Jvm.MethodName)) ∈ kw_tbl := kts_4 (i := 104) rfl rfl
set_option maxRecDepth 100000 in
theorem kt_825 : (Jvm.Cond.selects "SafeSweeps" ({ cls := "SafeSweeps", name := "mirrored", desc := "(II)I" } : Jvm.MethodName) ({ cls := "SafeSweeps", name := "mirrored", desc := "(II)I" } : Jvm.MethodName)) ∈ kw_tbl := kts_4 (i := 105) rfl rfl
set_option maxRecDepth 100000 in
theorem kt_826 : (Jvm.Cond.code ({ cls := "SafeSweeps", name := "mirrored", desc := "(II)I" } : Jvm.MethodName) prog_1_method_41_code (4 : Nat) (Option.some Jvm.ClassFile.FieldType.int)) ∈ kw_tbl := kts_4 (i := 106) rfl rfl
set_option maxRecDepth 100000 in
theorem kt_827 : (Jvm.Cond.methodLink "SafeSweeps" (387 : Nat) ({ cls := "SafeSweeps$Mirror", name := "held", desc := "([Z)I" } : Jvm.MethodName)) ∈ kw_tbl := kts_4 (i := 107) rfl rfl
set_option maxRecDepth 100000 in
theorem kt_828 : (Jvm.Cond.static ({ cls := "SafeSweeps$Mirror", name := "held", desc := "([Z)I" } : Jvm.MethodName)) ∈ kw_tbl := kts_4 (i := 108) rfl rfl
set_option maxRecDepth 100000 in
theorem kt_829 : (Jvm.Cond.code ({ cls := "SafeSweeps$Mirror", name := "held", desc := "([Z)I" } : Jvm.MethodName) prog_5_method_5_code (3 : Nat) (Option.some Jvm.ClassFile.FieldType.int)) ∈ kw_tbl := kts_4 (i := 109) rfl rfl
set_option maxRecDepth 100000 in
theorem kt_830 : (Jvm.Cond.methodLink "SafeSweeps" (393 : Nat) ({ cls := "SafeSweeps", name := "brokenSnapshots", desc := "(LSafeSweeps$Mirror;)I" } : Jvm.MethodName)) ∈ kw_tbl := kts_4 (i := 110) rfl rfl
set_option maxRecDepth 100000 in
theorem kt_832 : (Jvm.Cond.instanceMethod ({ cls := "SafeSweeps", name := "brokenSnapshots", desc := "(LSafeSweeps$Mirror;)I" } : Jvm.MethodName)) ∈ kw_tbl := kts_4 (i := 112) rfl rfl
set_option maxRecDepth 100000 in
theorem kt_833 : (Jvm.Cond.code ({ cls := "SafeSweeps", name := "brokenSnapshots", desc := "(LSafeSweeps$Mirror;)I" } : Jvm.MethodName) prog_1_method_42_code (4 : Nat) (Option.some Jvm.ClassFile.FieldType.int)) ∈ kw_tbl := kts_4 (i := 113) rfl rfl
set_option maxRecDepth 100000 in
theorem kt_834 : (Jvm.Cond.methodLink "SafeSweeps" (397 : Nat) ({ cls := "SafeSweeps$Store", name := "startFromAll", desc := "([II)V" } : Jvm.MethodName)) ∈ kw_tbl := kts_4 (i := 114) rfl rfl
set_option maxRecDepth 100000 in
theorem kt_835 : (Jvm.Cond.methodLink "SafeSweeps" (400 : Nat) ({ cls := "SafeSweeps$Store", name := "reachedOutside", desc := "([Z)I" } : Jvm.MethodName)) ∈ kw_tbl := kts_4 (i := 115) rfl rfl
set_option maxRecDepth 100000 in
theorem kt_836 : (Jvm.Cond.instanceMethod ({ cls := "SafeSweeps$Store", name := "reachedOutside", desc := "([Z)I" } : Jvm.MethodName)) ∈ kw_tbl := kts_4 (i := 116) rfl rfl
set_option maxRecDepth 100000 in
theorem kt_837 : (Jvm.Cond.selects "SafeSweeps$Store" ({ cls := "SafeSweeps$Store", name := "reachedOutside", desc := "([Z)I" } : Jvm.MethodName) ({ cls := "SafeSweeps$Store", name := "reachedOutside", desc := "([Z)I" } : Jvm.MethodName)) ∈ kw_tbl := kts_4 (i := 117) rfl rfl
set_option maxRecDepth 100000 in
theorem kt_838 : (Jvm.Cond.code ({ cls := "SafeSweeps$Store", name := "reachedOutside", desc := "([Z)I" } : Jvm.MethodName) prog_11_method_20_code (4 : Nat) (Option.some Jvm.ClassFile.FieldType.int)) ∈ kw_tbl := kts_4 (i := 118) rfl rfl
set_option maxRecDepth 100000 in
theorem kt_839 : (Jvm.Cond.methodLink "SafeSweepsLaw" (139 : Nat) ({ cls := "SafeSweeps", name := "has", desc := "(II)Z" } : Jvm.MethodName)) ∈ kw_tbl := kts_4 (i := 119) rfl rfl
set_option maxRecDepth 100000 in
theorem kt_840 : (Jvm.Cond.instanceMethod ({ cls := "SafeSweeps", name := "has", desc := "(II)Z" } : Jvm.MethodName)) ∈ kw_tbl := kts_4 (i := 120) rfl rfl
set_option maxRecDepth 100000 in
theorem kt_841 : (Jvm.Cond.selects "SafeSweeps" ({ cls := "SafeSweeps", name := "has", desc := "(II)Z" } : Jvm.MethodName) ({ cls := "SafeSweeps", name := "has", desc := "(II)Z" } : Jvm.MethodName)) ∈ kw_tbl := kts_4 (i := 121) rfl rfl
set_option maxRecDepth 100000 in
theorem kt_842 : (Jvm.Cond.code ({ cls := "SafeSweeps", name := "has", desc := "(II)Z" } : Jvm.MethodName) prog_1_method_43_code (3 : Nat) (Option.some Jvm.ClassFile.FieldType.boolean)) ∈ kw_tbl := kts_4 (i := 122) rfl rfl
set_option maxRecDepth 100000 in
theorem kt_843 : (Jvm.Cond.methodLink "SafeSweepsLaw" (144 : Nat) ({ cls := "SafeSweeps", name := "audit", desc := "()I" } : Jvm.MethodName)) ∈ kw_tbl := kts_4 (i := 123) rfl rfl
set_option maxRecDepth 100000 in
theorem kt_844 : (Jvm.Cond.instanceMethod ({ cls := "SafeSweeps", name := "audit", desc := "()I" } : Jvm.MethodName)) ∈ kw_tbl := kts_4 (i := 124) rfl rfl
set_option maxRecDepth 100000 in
theorem kt_845 : (Jvm.Cond.selects "SafeSweeps" ({ cls := "SafeSweeps", name := "audit", desc := "()I" } : Jvm.MethodName) ({ cls := "SafeSweeps", name := "audit", desc := "()I" } : Jvm.MethodName)) ∈ kw_tbl := kts_4 (i := 125) rfl rfl
set_option maxRecDepth 100000 in
theorem kt_846 : (Jvm.Cond.code ({ cls := "SafeSweeps", name := "audit", desc := "()I" } : Jvm.MethodName) prog_1_method_44_code (3 : Nat) (Option.some Jvm.ClassFile.FieldType.int)) ∈ kw_tbl := kts_4 (i := 126) rfl rfl
set_option maxRecDepth 100000 in
theorem kt_847 : (Jvm.Cond.methodLink "SafeSweeps" (403 : Nat) ({ cls := "SafeSweeps", name := "reachedButFreed", desc := "()I" } : Jvm.MethodName)) ∈ kw_tbl := kts_4 (i := 127) rfl rfl
set_option maxRecDepth 100000 in
theorem kt_849 : (Jvm.Cond.instanceMethod ({ cls := "SafeSweeps", name := "reachedButFreed", desc := "()I" } : Jvm.MethodName)) ∈ kw_tbl := kts_4 (i := 129) rfl rfl
set_option maxRecDepth 100000 in
theorem kt_850 : (Jvm.Cond.code ({ cls := "SafeSweeps", name := "reachedButFreed", desc := "()I" } : Jvm.MethodName) prog_1_method_45_code (2 : Nat) (Option.some Jvm.ClassFile.FieldType.int)) ∈ kw_tbl := kts_4 (i := 130) rfl rfl
set_option maxRecDepth 100000 in
theorem kt_851 : (Jvm.Cond.methodLink "SafeSweeps" (418 : Nat) ({ cls := "SafeSweeps$Store", name := "startFromThere", desc := "()V" } : Jvm.MethodName)) ∈ kw_tbl := kts_4 (i := 131) rfl rfl
set_option maxRecDepth 100000 in
theorem kt_852 : (Jvm.Cond.instanceMethod ({ cls := "SafeSweeps$Store", name := "startFromThere", desc := "()V" } : Jvm.MethodName)) ∈ kw_tbl := kts_4 (i := 132) rfl rfl
set_option maxRecDepth 100000 in
theorem kt_853 : (Jvm.Cond.selects "SafeSweeps$Store" ({ cls := "SafeSweeps$Store", name := "startFromThere", desc := "()V" } : Jvm.MethodName) ({ cls := "SafeSweeps$Store", name := "startFromThere", desc := "()V" } : Jvm.MethodName)) ∈ kw_tbl := kts_4 (i := 133) rfl rfl
set_option maxRecDepth 100000 in
theorem kt_854 : (Jvm.Cond.code ({ cls := "SafeSweeps$Store", name := "startFromThere", desc := "()V" } : Jvm.MethodName) prog_11_method_16_code (2 : Nat) (Option.none : Option Jvm.ClassFile.FieldType)) ∈ kw_tbl := kts_4 (i := 134) rfl rfl
set_option maxRecDepth 100000 in
theorem kt_855 : (Jvm.Cond.methodLink "SafeSweeps" (421 : Nat) ({ cls := "SafeSweeps$Store", name := "reachedButFreed", desc := "()I" } : Jvm.MethodName)) ∈ kw_tbl := kts_4 (i := 135) rfl rfl
set_option maxRecDepth 100000 in
theorem kt_856 : (Jvm.Cond.instanceMethod ({ cls := "SafeSweeps$Store", name := "reachedButFreed", desc := "()I" } : Jvm.MethodName)) ∈ kw_tbl := kts_4 (i := 136) rfl rfl
set_option maxRecDepth 100000 in
theorem kt_857 : (Jvm.Cond.selects "SafeSweeps$Store" ({ cls := "SafeSweeps$Store", name := "reachedButFreed", desc := "()I" } : Jvm.MethodName) ({ cls := "SafeSweeps$Store", name := "reachedButFreed", desc := "()I" } : Jvm.MethodName)) ∈ kw_tbl := kts_4 (i := 137) rfl rfl
set_option maxRecDepth 100000 in
theorem kt_858 : (Jvm.Cond.code ({ cls := "SafeSweeps$Store", name := "reachedButFreed", desc := "()I" } : Jvm.MethodName) prog_11_method_21_code (3 : Nat) (Option.some Jvm.ClassFile.FieldType.int)) ∈ kw_tbl := kts_4 (i := 138) rfl rfl
set_option maxRecDepth 100000 in
theorem kt_859 : (Jvm.Cond.methodLink "SafeSweeps" (406 : Nat) ({ cls := "SafeSweeps$Store", name := "misplacedBlocks", desc := "()I" } : Jvm.MethodName)) ∈ kw_tbl := kts_4 (i := 139) rfl rfl
set_option maxRecDepth 100000 in
theorem kt_860 : (Jvm.Cond.instanceMethod ({ cls := "SafeSweeps$Store", name := "misplacedBlocks", desc := "()I" } : Jvm.MethodName)) ∈ kw_tbl := kts_4 (i := 140) rfl rfl
set_option maxRecDepth 100000 in
theorem kt_861 : (Jvm.Cond.selects "SafeSweeps$Store" ({ cls := "SafeSweeps$Store", name := "misplacedBlocks", desc := "()I" } : Jvm.MethodName) ({ cls := "SafeSweeps$Store", name := "misplacedBlocks", desc := "()I" } : Jvm.MethodName)) ∈ kw_tbl := kts_4 (i := 141) rfl rfl
set_option maxRecDepth 100000 in
theorem kt_862 : (Jvm.Cond.code ({ cls := "SafeSweeps$Store", name := "misplacedBlocks", desc := "()I" } : Jvm.MethodName) prog_11_method_22_code (5 : Nat) (Option.some Jvm.ClassFile.FieldType.int)) ∈ kw_tbl := kts_4 (i := 142) rfl rfl
set_option maxRecDepth 100000 in
theorem kt_863 : (Jvm.Cond.methodLink "SafeSweeps$Store" (118 : Nat) ({ cls := "SafeSweeps$Store", name := "liesOverLater", desc := "(I)Z" } : Jvm.MethodName)) ∈ kw_tbl := kts_4 (i := 143) rfl rfl
set_option maxRecDepth 100000 in
theorem kt_864 : (Jvm.Cond.instanceMethod ({ cls := "SafeSweeps$Store", name := "liesOverLater", desc := "(I)Z" } : Jvm.MethodName)) ∈ kw_tbl := kts_4 (i := 144) rfl rfl
set_option maxRecDepth 100000 in
theorem kt_865 : (Jvm.Cond.selects "SafeSweeps$Store" ({ cls := "SafeSweeps$Store", name := "liesOverLater", desc := "(I)Z" } : Jvm.MethodName) ({ cls := "SafeSweeps$Store", name := "liesOverLater", desc := "(I)Z" } : Jvm.MethodName)) ∈ kw_tbl := kts_4 (i := 145) rfl rfl
set_option maxRecDepth 100000 in
theorem kt_866 : (Jvm.Cond.code ({ cls := "SafeSweeps$Store", name := "liesOverLater", desc := "(I)Z" } : Jvm.MethodName) prog_11_method_23_code (5 : Nat) (Option.some Jvm.ClassFile.FieldType.boolean)) ∈ kw_tbl := kts_4 (i := 146) rfl rfl
set_option maxRecDepth 100000 in
theorem kt_867 : (Jvm.Cond.methodLink "SafeSweeps" (409 : Nat) ({ cls := "SafeSweeps$Store", name := "unevenPacks", desc := "()I" } : Jvm.MethodName)) ∈ kw_tbl := kts_4 (i := 147) rfl rfl
set_option maxRecDepth 100000 in
theorem kt_868 : (Jvm.Cond.instanceMethod ({ cls := "SafeSweeps$Store", name := "unevenPacks", desc := "()I" } : Jvm.MethodName)) ∈ kw_tbl := kts_4 (i := 148) rfl rfl
set_option maxRecDepth 100000 in
theorem kt_869 : (Jvm.Cond.selects "SafeSweeps$Store" ({ cls := "SafeSweeps$Store", name := "unevenPacks", desc := "()I" } : Jvm.MethodName) ({ cls := "SafeSweeps$Store", name := "unevenPacks", desc := "()I" } : Jvm.MethodName)) ∈ kw_tbl := kts_4 (i := 149) rfl rfl
set_option maxRecDepth 100000 in
theorem kt_870 : (Jvm.Cond.code ({ cls := "SafeSweeps$Store", name := "unevenPacks", desc := "()I" } : Jvm.MethodName) prog_11_method_24_code (5 : Nat) (Option.some Jvm.ClassFile.FieldType.int)) ∈ kw_tbl := kts_4 (i := 150) rfl rfl
set_option maxRecDepth 100000 in
theorem kt_871 : (Jvm.Cond.methodLink "SafeSweeps" (412 : Nat) ({ cls := "SafeSweeps$Mirror", name := "forget", desc := "()V" } : Jvm.MethodName)) ∈ kw_tbl := kts_4 (i := 151) rfl rfl
set_option maxRecDepth 100000 in
theorem kt_872 : (Jvm.Cond.instanceMethod ({ cls := "SafeSweeps$Mirror", name := "forget", desc := "()V" } : Jvm.MethodName)) ∈ kw_tbl := kts_4 (i := 152) rfl rfl
set_option maxRecDepth 100000 in
theorem kt_873 : (Jvm.Cond.selects "SafeSweeps$Mirror" ({ cls := "SafeSweeps$Mirror", name := "forget", desc := "()V" } : Jvm.MethodName) ({ cls := "SafeSweeps$Mirror", name := "forget", desc := "()V" } : Jvm.MethodName)) ∈ kw_tbl := kts_4 (i := 153) rfl rfl
set_option maxRecDepth 100000 in
theorem kt_874 : (Jvm.Cond.code ({ cls := "SafeSweeps$Mirror", name := "forget", desc := "()V" } : Jvm.MethodName) prog_5_method_3_code (2 : Nat) (Option.none : Option Jvm.ClassFile.FieldType)) ∈ kw_tbl := kts_4 (i := 154) rfl rfl
set_option maxRecDepth 100000 in
theorem kt_875 : (Jvm.Cond.methodLink "SafeSweeps" (415 : Nat) ({ cls := "SafeSweeps$Mirror", name := "differences", desc := "(LSafeSweeps$Mirror;)I" } : Jvm.MethodName)) ∈ kw_tbl := kts_4 (i := 155) rfl rfl
set_option maxRecDepth 100000 in
theorem kt_876 : (Jvm.Cond.instanceMethod ({ cls := "SafeSweeps$Mirror", name := "differences", desc := "(LSafeSweeps$Mirror;)I" } : Jvm.MethodName)) ∈ kw_tbl := kts_4 (i := 156) rfl rfl
set_option maxRecDepth 100000 in
theorem kt_877 : (Jvm.Cond.selects "SafeSweeps$Mirror" ({ cls := "SafeSweeps$Mirror", name := "differences", desc := "(LSafeSweeps$Mirror;)I" } : Jvm.MethodName) ({ cls := "SafeSweeps$Mirror", name := "differences", desc := "(LSafeSweeps$Mirror;)I" } : Jvm.MethodName)) ∈ kw_tbl := kts_4 (i := 157) rfl rfl
set_option maxRecDepth 100000 in
theorem kt_878 : (Jvm.Cond.code ({ cls := "SafeSweeps$Mirror", name := "differences", desc := "(LSafeSweeps$Mirror;)I" } : Jvm.MethodName) prog_5_method_4_code (4 : Nat) (Option.some Jvm.ClassFile.FieldType.int)) ∈ kw_tbl := kts_4 (i := 158) rfl rfl
set_option maxRecDepth 100000 in
theorem kt_879 : (Jvm.Cond.methodLink "SafeSweepsLaw" (9 : Nat) ({ cls := "SafeSweepsLaw", name := "cell", desc := "([II)I" } : Jvm.MethodName)) ∈ kw_tbl := kts_4 (i := 159) rfl rfl
set_option maxRecDepth 100000 in
theorem kt_880 : (Jvm.Cond.static ({ cls := "SafeSweepsLaw", name := "cell", desc := "([II)I" } : Jvm.MethodName)) ∈ kw_tbl := kts_4 (i := 160) rfl rfl
set_option maxRecDepth 100000 in
theorem kt_881 : (Jvm.Cond.code ({ cls := "SafeSweepsLaw", name := "cell", desc := "([II)I" } : Jvm.MethodName) method_2_code (2 : Nat) (Option.some Jvm.ClassFile.FieldType.int)) ∈ kw_tbl := kts_4 (i := 161) rfl rfl
set_option maxRecDepth 100000 in
theorem kt_882 : (Jvm.Cond.classLink "SafeSweepsLaw" (18 : Nat) "SafeSweepsModel") ∈ kw_tbl := kts_4 (i := 162) rfl rfl
set_option maxRecDepth 100000 in
theorem kt_883 : (Jvm.Cond.instantiable "SafeSweepsModel" (54 : Nat)) ∈ kw_tbl := kts_4 (i := 163) rfl rfl
set_option maxRecDepth 100000 in
theorem kt_884 : (Jvm.Cond.methodLink "SafeSweepsLaw" (20 : Nat) ({ cls := "SafeSweepsModel", name := "<init>", desc := "(I)V" } : Jvm.MethodName)) ∈ kw_tbl := kts_4 (i := 164) rfl rfl
set_option maxRecDepth 100000 in
theorem kt_885 : (Jvm.Cond.instanceMethod ({ cls := "SafeSweepsModel", name := "<init>", desc := "(I)V" } : Jvm.MethodName)) ∈ kw_tbl := kts_4 (i := 165) rfl rfl
set_option maxRecDepth 100000 in
theorem kt_886 : (Jvm.Cond.code ({ cls := "SafeSweepsModel", name := "<init>", desc := "(I)V" } : Jvm.MethodName) prog_14_method_1_code (2 : Nat) (Option.none : Option Jvm.ClassFile.FieldType)) ∈ kw_tbl := kts_4 (i := 166) rfl rfl
set_option maxRecDepth 100000 in
theorem kt_887 : (Jvm.Cond.methodLink "SafeSweepsModel" (1 : Nat) ({ cls := "java/lang/Object", name := "<init>", desc := "()V" } : Jvm.MethodName)) ∈ kw_tbl := kts_4 (i := 167) rfl rfl
set_option maxRecDepth 100000 in
theorem kt_888 : (Jvm.Cond.constantLong "SafeSweepsModel" (7 : Nat) (-10000000000 : Int64)) ∈ kw_tbl := kts_4 (i := 168) rfl rfl
set_option maxRecDepth 100000 in
theorem kt_889 : (Jvm.Cond.fieldLink "SafeSweepsModel" (124 : Nat) "SafeSweepsModel" "capacity" "I") ∈ kw_tbl := kts_4 (i := 169) rfl rfl
set_option maxRecDepth 100000 in
theorem kt_890 : (Jvm.Cond.fieldLink "SafeSweepsModel" (9 : Nat) "SafeSweepsModel" "now" "J") ∈ kw_tbl := kts_4 (i := 170) rfl rfl
set_option maxRecDepth 100000 in
theorem kt_891 : (Jvm.Cond.fieldLink "SafeSweepsModel" (127 : Nat) "SafeSweepsModel" "down" "Z") ∈ kw_tbl := kts_4 (i := 171) rfl rfl
set_option maxRecDepth 100000 in
theorem kt_892 : (Jvm.Cond.fieldLink "SafeSweepsModel" (15 : Nat) "SafeSweepsModel" "cutAt" "I") ∈ kw_tbl := kts_4 (i := 172) rfl rfl
set_option maxRecDepth 100000 in
theorem kt_893 : (Jvm.Cond.fieldLink "SafeSweepsModel" (134 : Nat) "SafeSweepsModel" "writes" "I") ∈ kw_tbl := kts_4 (i := 173) rfl rfl
set_option maxRecDepth 100000 in
theorem kt_894 : (Jvm.Cond.fieldLink "SafeSweepsModel" (156 : Nat) "SafeSweepsModel" "blocks" "I") ∈ kw_tbl := kts_4 (i := 174) rfl rfl
set_option maxRecDepth 100000 in
theorem kt_895 : (Jvm.Cond.fieldLink "SafeSweepsModel" (19 : Nat) "SafeSweepsModel" "keys" "[J") ∈ kw_tbl := kts_4 (i := 175) rfl rfl
set_option maxRecDepth 100000 in
theorem kt_896 : (Jvm.Cond.fieldLink "SafeSweepsModel" (23 : Nat) "SafeSweepsModel" "sizes" "[I") ∈ kw_tbl := kts_4 (i := 176) rfl rfl
set_option maxRecDepth 100000 in
theorem kt_897 : (Jvm.Cond.fieldLink "SafeSweepsModel" (27 : Nat) "SafeSweepsModel" "childMany" "[I") ∈ kw_tbl := kts_4 (i := 177) rfl rfl
set_option maxRecDepth 100000 in
theorem kt_898 : (Jvm.Cond.fieldLink "SafeSweepsModel" (30 : Nat) "SafeSweepsModel" "childOf" "[I") ∈ kw_tbl := kts_4 (i := 178) rfl rfl
set_option maxRecDepth 100000 in
theorem kt_899 : (Jvm.Cond.fieldLink "SafeSweepsModel" (33 : Nat) "SafeSweepsModel" "there" "[Z") ∈ kw_tbl := kts_4 (i := 179) rfl rfl
set_option maxRecDepth 100000 in
theorem kt_900 : (Jvm.Cond.fieldLink "SafeSweepsModel" (37 : Nat) "SafeSweepsModel" "packOf" "[I") ∈ kw_tbl := kts_4 (i := 180) rfl rfl
set_option maxRecDepth 100000 in
theorem kt_901 : (Jvm.Cond.fieldLink "SafeSweepsModel" (40 : Nat) "SafeSweepsModel" "placeOf" "[I") ∈ kw_tbl := kts_4 (i := 181) rfl rfl
set_option maxRecDepth 100000 in
theorem kt_902 : (Jvm.Cond.fieldLink "SafeSweepsModel" (43 : Nat) "SafeSweepsModel" "waits" "[I") ∈ kw_tbl := kts_4 (i := 182) rfl rfl
set_option maxRecDepth 100000 in
theorem kt_903 : (Jvm.Cond.fieldLink "SafeSweepsModel" (212 : Nat) "SafeSweepsModel" "revived" "I") ∈ kw_tbl := kts_4 (i := 183) rfl rfl
set_option maxRecDepth 100000 in
theorem kt_904 : (Jvm.Cond.fieldLink "SafeSweepsModel" (285 : Nat) "SafeSweepsModel" "freed" "I") ∈ kw_tbl := kts_4 (i := 184) rfl rfl
set_option maxRecDepth 100000 in
theorem kt_905 : (Jvm.Cond.fieldLink "SafeSweepsModel" (178 : Nat) "SafeSweepsModel" "packs" "I") ∈ kw_tbl := kts_4 (i := 185) rfl rfl
set_option maxRecDepth 100000 in
theorem kt_906 : (Jvm.Cond.fieldLink "SafeSweepsModel" (46 : Nat) "SafeSweepsModel" "isGone" "[Z") ∈ kw_tbl := kts_4 (i := 186) rfl rfl
set_option maxRecDepth 100000 in
theorem kt_907 : (Jvm.Cond.fieldLink "SafeSweepsModel" (49 : Nat) "SafeSweepsModel" "all" "[I") ∈ kw_tbl := kts_4 (i := 187) rfl rfl
set_option maxRecDepth 100000 in
theorem kt_908 : (Jvm.Cond.fieldLink "SafeSweepsModel" (298 : Nat) "SafeSweepsModel" "packedAnew" "I") ∈ kw_tbl := kts_4 (i := 188) rfl rfl
set_option maxRecDepth 100000 in
theorem kt_909 : (Jvm.Cond.fieldLink "SafeSweepsModel" (52 : Nat) "SafeSweepsModel" "sharePercent" "I") ∈ kw_tbl := kts_4 (i := 189) rfl rfl
set_option maxRecDepth 100000 in
theorem kt_910 : (Jvm.Cond.fieldLink "SafeSweepsModel" (218 : Nat) "SafeSweepsModel" "snapshots" "I") ∈ kw_tbl := kts_4 (i := 190) rfl rfl
set_option maxRecDepth 100000 in
theorem kt_911 : (Jvm.Cond.fieldLink "SafeSweepsModel" (55 : Nat) "SafeSweepsModel" "isKept" "[Z") ∈ kw_tbl := kts_4 (i := 191) rfl rfl
set_option maxRecDepth 100000 in
theorem kt_912 : (Jvm.Cond.fieldLink "SafeSweepsModel" (58 : Nat) "SafeSweepsModel" "times" "[J") ∈ kw_tbl := kts_4 (i := 192) rfl rfl
set_option maxRecDepth 100000 in
theorem kt_913 : (Jvm.Cond.fieldLink "SafeSweepsModel" (61 : Nat) "SafeSweepsModel" "tags" "[I") ∈ kw_tbl := kts_4 (i := 193) rfl rfl
set_option maxRecDepth 100000 in
theorem kt_914 : (Jvm.Cond.fieldLink "SafeSweepsModel" (64 : Nat) "SafeSweepsModel" "rootMany" "[I") ∈ kw_tbl := kts_4 (i := 194) rfl rfl
set_option maxRecDepth 100000 in
theorem kt_915 : (Jvm.Cond.fieldLink "SafeSweepsModel" (67 : Nat) "SafeSweepsModel" "rootOf" "[I") ∈ kw_tbl := kts_4 (i := 195) rfl rfl
set_option maxRecDepth 100000 in
theorem kt_916 : (Jvm.Cond.fieldLink "SafeSweepsModel" (137 : Nat) "SafeSweepsModel" "history" "I") ∈ kw_tbl := kts_4 (i := 196) rfl rfl
set_option maxRecDepth 100000 in
theorem kt_917 : (Jvm.Cond.fieldLink "SafeSweepsModel" (70 : Nat) "SafeSweepsModel" "didKind" "[I") ∈ kw_tbl := kts_4 (i := 197) rfl rfl
set_option maxRecDepth 100000 in
theorem kt_918 : (Jvm.Cond.fieldLink "SafeSweepsModel" (73 : Nat) "SafeSweepsModel" "didWhat" "[I") ∈ kw_tbl := kts_4 (i := 198) rfl rfl
set_option maxRecDepth 100000 in
theorem kt_919 : (Jvm.Cond.fieldLink "SafeSweepsModel" (76 : Nat) "SafeSweepsModel" "mirrorDid" "[I") ∈ kw_tbl := kts_4 (i := 199) rfl rfl
set_option maxRecDepth 100000 in
theorem kt_920 : (Jvm.Cond.fieldLink "SafeSweepsModel" (79 : Nat) "SafeSweepsModel" "saves" "[Z") ∈ kw_tbl := kts_4 (i := 200) rfl rfl
set_option maxRecDepth 100000 in
theorem kt_921 : (Jvm.Cond.fieldLink "SafeSweepsModel" (82 : Nat) "SafeSweepsModel" "lease" "[I") ∈ kw_tbl := kts_4 (i := 201) rfl rfl
set_option maxRecDepth 100000 in
theorem kt_922 : (Jvm.Cond.fieldLink "SafeSweepsModel" (85 : Nat) "SafeSweepsModel" "until" "[J") ∈ kw_tbl := kts_4 (i := 202) rfl rfl
set_option maxRecDepth 100000 in
theorem kt_923 : (Jvm.Cond.fieldLink "SafeSweepsModel" (88 : Nat) "SafeSweepsModel" "useMany" "[I") ∈ kw_tbl := kts_4 (i := 203) rfl rfl
set_option maxRecDepth 100000 in
theorem kt_924 : (Jvm.Cond.fieldLink "SafeSweepsModel" (91 : Nat) "SafeSweepsModel" "useOf" "[I") ∈ kw_tbl := kts_4 (i := 204) rfl rfl
set_option maxRecDepth 100000 in
theorem kt_925 : (Jvm.Cond.fieldLink "SafeSweepsModel" (94 : Nat) "SafeSweepsModel" "rowMany" "[I") ∈ kw_tbl := kts_4 (i := 205) rfl rfl
set_option maxRecDepth 100000 in
theorem kt_926 : (Jvm.Cond.fieldLink "SafeSweepsModel" (97 : Nat) "SafeSweepsModel" "rowOf" "[I") ∈ kw_tbl := kts_4 (i := 206) rfl rfl
set_option maxRecDepth 100000 in
theorem kt_927 : (Jvm.Cond.fieldLink "SafeSweepsModel" (100 : Nat) "SafeSweepsModel" "rules" "[I") ∈ kw_tbl := kts_4 (i := 207) rfl rfl
set_option maxRecDepth 100000 in
theorem kt_928 : (Jvm.Cond.fieldLink "SafeSweepsModel" (276 : Nat) "SafeSweepsModel" "sweeps" "I") ∈ kw_tbl := kts_4 (i := 208) rfl rfl
set_option maxRecDepth 100000 in
theorem kt_929 : (Jvm.Cond.fieldLink "SafeSweepsModel" (131 : Nat) "SafeSweepsModel" "phase" "I") ∈ kw_tbl := kts_4 (i := 209) rfl rfl
set_option maxRecDepth 100000 in
theorem kt_930 : (Jvm.Cond.fieldLink "SafeSweepsModel" (103 : Nat) "SafeSweepsModel" "isMarked" "[Z") ∈ kw_tbl := kts_4 (i := 210) rfl rfl
set_option maxRecDepth 100000 in
theorem kt_931 : (Jvm.Cond.fieldLink "SafeSweepsModel" (106 : Nat) "SafeSweepsModel" "row" "[I") ∈ kw_tbl := kts_4 (i := 211) rfl rfl
set_option maxRecDepth 100000 in
theorem kt_932 : (Jvm.Cond.fieldLink "SafeSweepsModel" (264 : Nat) "SafeSweepsModel" "rowFrom" "I") ∈ kw_tbl := kts_4 (i := 212) rfl rfl
set_option maxRecDepth 100000 in
theorem kt_933 : (Jvm.Cond.fieldLink "SafeSweepsModel" (215 : Nat) "SafeSweepsModel" "rowTo" "I") ∈ kw_tbl := kts_4 (i := 213) rfl rfl
set_option maxRecDepth 100000 in
theorem kt_934 : (Jvm.Cond.fieldLink "SafeSweepsModel" (270 : Nat) "SafeSweepsModel" "end" "I") ∈ kw_tbl := kts_4 (i := 214) rfl rfl
set_option maxRecDepth 100000 in
theorem kt_935 : (Jvm.Cond.fieldLink "SafeSweepsModel" (267 : Nat) "SafeSweepsModel" "at" "I") ∈ kw_tbl := kts_4 (i := 215) rfl rfl
set_option maxRecDepth 100000 in
theorem kt_936 : (Jvm.Cond.fieldLink "SafeSweepsModel" (273 : Nat) "SafeSweepsModel" "packEnd" "I") ∈ kw_tbl := kts_4 (i := 216) rfl rfl
set_option maxRecDepth 100000 in
theorem kt_937 : (Jvm.Cond.fieldLink "SafeSweepsModel" (205 : Nat) "SafeSweepsModel" "revivedNow" "I") ∈ kw_tbl := kts_4 (i := 217) rfl rfl
set_option maxRecDepth 100000 in
theorem kt_938 : (Jvm.Cond.fieldLink "SafeSweepsModel" (109 : Nat) "SafeSweepsModel" "reach" "[Z") ∈ kw_tbl := kts_4 (i := 218) rfl rfl
set_option maxRecDepth 100000 in
theorem kt_939 : (Jvm.Cond.fieldLink "SafeSweepsModel" (112 : Nat) "SafeSweepsModel" "isToGo" "[Z") ∈ kw_tbl := kts_4 (i := 219) rfl rfl
set_option maxRecDepth 100000 in
theorem kt_940 : (Jvm.Cond.fieldLink "SafeSweepsModel" (115 : Nat) "SafeSweepsModel" "moved" "[I") ∈ kw_tbl := kts_4 (i := 220) rfl rfl
set_option maxRecDepth 100000 in
theorem kt_941 : (Jvm.Cond.fieldLink "SafeSweepsModel" (118 : Nat) "SafeSweepsModel" "toPack" "[I") ∈ kw_tbl := kts_4 (i := 221) rfl rfl
set_option maxRecDepth 100000 in
theorem kt_942 : (Jvm.Cond.fieldLink "SafeSweepsModel" (121 : Nat) "SafeSweepsModel" "toPlace" "[I") ∈ kw_tbl := kts_4 (i := 222) rfl rfl
set_option maxRecDepth 100000 in
theorem kt_943 : (Jvm.Cond.laysFinal "SafeSweepsModel" "SafeSweepsModel" "capacity" "I") ∈ kw_tbl := kts_4 (i := 223) rfl rfl
set_option maxRecDepth 100000 in
theorem kt_945 : (Jvm.Cond.lays "SafeSweepsModel" "SafeSweepsModel" "now" "J") ∈ kw_tbl := kts_4 (i := 225) rfl rfl
set_option maxRecDepth 100000 in
theorem kt_947 : (Jvm.Cond.lays "SafeSweepsModel" "SafeSweepsModel" "down" "Z") ∈ kw_tbl := kts_4 (i := 227) rfl rfl
set_option maxRecDepth 100000 in
theorem kt_949 : (Jvm.Cond.lays "SafeSweepsModel" "SafeSweepsModel" "cutAt" "I") ∈ kw_tbl := kts_4 (i := 229) rfl rfl
set_option maxRecDepth 100000 in
theorem kt_951 : (Jvm.Cond.lays "SafeSweepsModel" "SafeSweepsModel" "writes" "I") ∈ kw_tbl := kts_4 (i := 231) rfl rfl
set_option maxRecDepth 100000 in
theorem kt_953 : (Jvm.Cond.lays "SafeSweepsModel" "SafeSweepsModel" "blocks" "I") ∈ kw_tbl := kts_4 (i := 233) rfl rfl
set_option maxRecDepth 100000 in
theorem kt_955 : (Jvm.Cond.laysFinal "SafeSweepsModel" "SafeSweepsModel" "keys" "[J") ∈ kw_tbl := kts_4 (i := 235) rfl rfl
set_option maxRecDepth 100000 in
theorem kt_957 : (Jvm.Cond.laysFinal "SafeSweepsModel" "SafeSweepsModel" "sizes" "[I") ∈ kw_tbl := kts_4 (i := 237) rfl rfl
set_option maxRecDepth 100000 in
theorem kt_959 : (Jvm.Cond.laysFinal "SafeSweepsModel" "SafeSweepsModel" "childMany" "[I") ∈ kw_tbl := kts_4 (i := 239) rfl rfl
set_option maxRecDepth 100000 in
theorem kt_961 : (Jvm.Cond.laysFinal "SafeSweepsModel" "SafeSweepsModel" "childOf" "[I") ∈ kw_tbl := kts_5 (i := 1) rfl rfl
set_option maxRecDepth 100000 in
theorem kt_963 : (Jvm.Cond.laysFinal "SafeSweepsModel" "SafeSweepsModel" "there" "[Z") ∈ kw_tbl := kts_5 (i := 3) rfl rfl
set_option maxRecDepth 100000 in
theorem kt_965 : (Jvm.Cond.laysFinal "SafeSweepsModel" "SafeSweepsModel" "packOf" "[I") ∈ kw_tbl := kts_5 (i := 5) rfl rfl
set_option maxRecDepth 100000 in
theorem kt_967 : (Jvm.Cond.laysFinal "SafeSweepsModel" "SafeSweepsModel" "placeOf" "[I") ∈ kw_tbl := kts_5 (i := 7) rfl rfl
set_option maxRecDepth 100000 in
theorem kt_969 : (Jvm.Cond.laysFinal "SafeSweepsModel" "SafeSweepsModel" "waits" "[I") ∈ kw_tbl := kts_5 (i := 9) rfl rfl
set_option maxRecDepth 100000 in
theorem kt_971 : (Jvm.Cond.lays "SafeSweepsModel" "SafeSweepsModel" "revived" "I") ∈ kw_tbl := kts_5 (i := 11) rfl rfl
set_option maxRecDepth 100000 in
theorem kt_973 : (Jvm.Cond.lays "SafeSweepsModel" "SafeSweepsModel" "freed" "I") ∈ kw_tbl := kts_5 (i := 13) rfl rfl
set_option maxRecDepth 100000 in
theorem kt_975 : (Jvm.Cond.lays "SafeSweepsModel" "SafeSweepsModel" "packs" "I") ∈ kw_tbl := kts_5 (i := 15) rfl rfl
set_option maxRecDepth 100000 in
theorem kt_977 : (Jvm.Cond.laysFinal "SafeSweepsModel" "SafeSweepsModel" "isGone" "[Z") ∈ kw_tbl := kts_5 (i := 17) rfl rfl
set_option maxRecDepth 100000 in
theorem kt_979 : (Jvm.Cond.laysFinal "SafeSweepsModel" "SafeSweepsModel" "all" "[I") ∈ kw_tbl := kts_5 (i := 19) rfl rfl
set_option maxRecDepth 100000 in
theorem kt_981 : (Jvm.Cond.lays "SafeSweepsModel" "SafeSweepsModel" "packedAnew" "I") ∈ kw_tbl := kts_5 (i := 21) rfl rfl
set_option maxRecDepth 100000 in
theorem kt_983 : (Jvm.Cond.lays "SafeSweepsModel" "SafeSweepsModel" "sharePercent" "I") ∈ kw_tbl := kts_5 (i := 23) rfl rfl
set_option maxRecDepth 100000 in
theorem kt_985 : (Jvm.Cond.lays "SafeSweepsModel" "SafeSweepsModel" "snapshots" "I") ∈ kw_tbl := kts_5 (i := 25) rfl rfl
set_option maxRecDepth 100000 in
theorem kt_987 : (Jvm.Cond.laysFinal "SafeSweepsModel" "SafeSweepsModel" "isKept" "[Z") ∈ kw_tbl := kts_5 (i := 27) rfl rfl
set_option maxRecDepth 100000 in
theorem kt_989 : (Jvm.Cond.laysFinal "SafeSweepsModel" "SafeSweepsModel" "times" "[J") ∈ kw_tbl := kts_5 (i := 29) rfl rfl
set_option maxRecDepth 100000 in
theorem kt_991 : (Jvm.Cond.laysFinal "SafeSweepsModel" "SafeSweepsModel" "tags" "[I") ∈ kw_tbl := kts_5 (i := 31) rfl rfl
set_option maxRecDepth 100000 in
theorem kt_993 : (Jvm.Cond.laysFinal "SafeSweepsModel" "SafeSweepsModel" "rootMany" "[I") ∈ kw_tbl := kts_5 (i := 33) rfl rfl
set_option maxRecDepth 100000 in
theorem kt_995 : (Jvm.Cond.laysFinal "SafeSweepsModel" "SafeSweepsModel" "rootOf" "[I") ∈ kw_tbl := kts_5 (i := 35) rfl rfl
set_option maxRecDepth 100000 in
theorem kt_997 : (Jvm.Cond.lays "SafeSweepsModel" "SafeSweepsModel" "history" "I") ∈ kw_tbl := kts_5 (i := 37) rfl rfl
set_option maxRecDepth 100000 in
theorem kt_999 : (Jvm.Cond.laysFinal "SafeSweepsModel" "SafeSweepsModel" "didKind" "[I") ∈ kw_tbl := kts_5 (i := 39) rfl rfl
set_option maxRecDepth 100000 in
theorem kt_1001 : (Jvm.Cond.laysFinal "SafeSweepsModel" "SafeSweepsModel" "didWhat" "[I") ∈ kw_tbl := kts_5 (i := 41) rfl rfl
set_option maxRecDepth 100000 in
theorem kt_1003 : (Jvm.Cond.laysFinal "SafeSweepsModel" "SafeSweepsModel" "mirrorDid" "[I") ∈ kw_tbl := kts_5 (i := 43) rfl rfl
set_option maxRecDepth 100000 in
theorem kt_1005 : (Jvm.Cond.laysFinal "SafeSweepsModel" "SafeSweepsModel" "saves" "[Z") ∈ kw_tbl := kts_5 (i := 45) rfl rfl
set_option maxRecDepth 100000 in
theorem kt_1007 : (Jvm.Cond.laysFinal "SafeSweepsModel" "SafeSweepsModel" "lease" "[I") ∈ kw_tbl := kts_5 (i := 47) rfl rfl
set_option maxRecDepth 100000 in
theorem kt_1009 : (Jvm.Cond.laysFinal "SafeSweepsModel" "SafeSweepsModel" "until" "[J") ∈ kw_tbl := kts_5 (i := 49) rfl rfl
set_option maxRecDepth 100000 in
theorem kt_1011 : (Jvm.Cond.laysFinal "SafeSweepsModel" "SafeSweepsModel" "useMany" "[I") ∈ kw_tbl := kts_5 (i := 51) rfl rfl
set_option maxRecDepth 100000 in
theorem kt_1013 : (Jvm.Cond.laysFinal "SafeSweepsModel" "SafeSweepsModel" "useOf" "[I") ∈ kw_tbl := kts_5 (i := 53) rfl rfl
set_option maxRecDepth 100000 in
theorem kt_1015 : (Jvm.Cond.laysFinal "SafeSweepsModel" "SafeSweepsModel" "rowMany" "[I") ∈ kw_tbl := kts_5 (i := 55) rfl rfl
set_option maxRecDepth 100000 in
theorem kt_1017 : (Jvm.Cond.laysFinal "SafeSweepsModel" "SafeSweepsModel" "rowOf" "[I") ∈ kw_tbl := kts_5 (i := 57) rfl rfl
set_option maxRecDepth 100000 in
theorem kt_1019 : (Jvm.Cond.laysFinal "SafeSweepsModel" "SafeSweepsModel" "rules" "[I") ∈ kw_tbl := kts_5 (i := 59) rfl rfl
set_option maxRecDepth 100000 in
theorem kt_1021 : (Jvm.Cond.lays "SafeSweepsModel" "SafeSweepsModel" "sweeps" "I") ∈ kw_tbl := kts_5 (i := 61) rfl rfl
set_option maxRecDepth 100000 in
theorem kt_1023 : (Jvm.Cond.lays "SafeSweepsModel" "SafeSweepsModel" "phase" "I") ∈ kw_tbl := kts_5 (i := 63) rfl rfl
set_option maxRecDepth 100000 in
theorem kt_1025 : (Jvm.Cond.laysFinal "SafeSweepsModel" "SafeSweepsModel" "isMarked" "[Z") ∈ kw_tbl := kts_5 (i := 65) rfl rfl
set_option maxRecDepth 100000 in
theorem kt_1027 : (Jvm.Cond.laysFinal "SafeSweepsModel" "SafeSweepsModel" "row" "[I") ∈ kw_tbl := kts_5 (i := 67) rfl rfl
set_option maxRecDepth 100000 in
theorem kt_1029 : (Jvm.Cond.lays "SafeSweepsModel" "SafeSweepsModel" "rowFrom" "I") ∈ kw_tbl := kts_5 (i := 69) rfl rfl
set_option maxRecDepth 100000 in
theorem kt_1031 : (Jvm.Cond.lays "SafeSweepsModel" "SafeSweepsModel" "rowTo" "I") ∈ kw_tbl := kts_5 (i := 71) rfl rfl
set_option maxRecDepth 100000 in
theorem kt_1033 : (Jvm.Cond.lays "SafeSweepsModel" "SafeSweepsModel" "end" "I") ∈ kw_tbl := kts_5 (i := 73) rfl rfl
set_option maxRecDepth 100000 in
theorem kt_1035 : (Jvm.Cond.lays "SafeSweepsModel" "SafeSweepsModel" "at" "I") ∈ kw_tbl := kts_5 (i := 75) rfl rfl
set_option maxRecDepth 100000 in
theorem kt_1037 : (Jvm.Cond.lays "SafeSweepsModel" "SafeSweepsModel" "packEnd" "I") ∈ kw_tbl := kts_5 (i := 77) rfl rfl
set_option maxRecDepth 100000 in
theorem kt_1039 : (Jvm.Cond.lays "SafeSweepsModel" "SafeSweepsModel" "revivedNow" "I") ∈ kw_tbl := kts_5 (i := 79) rfl rfl
set_option maxRecDepth 100000 in
theorem kt_1041 : (Jvm.Cond.laysFinal "SafeSweepsModel" "SafeSweepsModel" "reach" "[Z") ∈ kw_tbl := kts_5 (i := 81) rfl rfl
set_option maxRecDepth 100000 in
theorem kt_1043 : (Jvm.Cond.laysFinal "SafeSweepsModel" "SafeSweepsModel" "isToGo" "[Z") ∈ kw_tbl := kts_5 (i := 83) rfl rfl
set_option maxRecDepth 100000 in
theorem kt_1045 : (Jvm.Cond.laysFinal "SafeSweepsModel" "SafeSweepsModel" "moved" "[I") ∈ kw_tbl := kts_5 (i := 85) rfl rfl
set_option maxRecDepth 100000 in
theorem kt_1047 : (Jvm.Cond.laysFinal "SafeSweepsModel" "SafeSweepsModel" "toPack" "[I") ∈ kw_tbl := kts_5 (i := 87) rfl rfl
set_option maxRecDepth 100000 in
theorem kt_1049 : (Jvm.Cond.laysFinal "SafeSweepsModel" "SafeSweepsModel" "toPlace" "[I") ∈ kw_tbl := kts_5 (i := 89) rfl rfl
set_option maxRecDepth 100000 in
theorem kt_1052 : (Jvm.Cond.arrayClass Jvm.ClassFile.FieldType.long) ∈ kw_tbl := kts_5 (i := 92) rfl rfl
set_option maxRecDepth 100000 in
theorem kt_1053 : (Jvm.Cond.methodLink "SafeSweepsLaw" (88 : Nat) ({ cls := "SafeSweepsModel", name := "cut", desc := "(I)I" } : Jvm.MethodName)) ∈ kw_tbl := kts_5 (i := 93) rfl rfl
set_option maxRecDepth 100000 in
theorem kt_1054 : (Jvm.Cond.instanceMethod ({ cls := "SafeSweepsModel", name := "cut", desc := "(I)I" } : Jvm.MethodName)) ∈ kw_tbl := kts_5 (i := 94) rfl rfl
set_option maxRecDepth 100000 in
theorem kt_1055 : (Jvm.Cond.selects "SafeSweepsModel" ({ cls := "SafeSweepsModel", name := "cut", desc := "(I)I" } : Jvm.MethodName) ({ cls := "SafeSweepsModel", name := "cut", desc := "(I)I" } : Jvm.MethodName)) ∈ kw_tbl := kts_5 (i := 95) rfl rfl
set_option maxRecDepth 100000 in
theorem kt_1056 : (Jvm.Cond.code ({ cls := "SafeSweepsModel", name := "cut", desc := "(I)I" } : Jvm.MethodName) prog_14_method_5_code (2 : Nat) (Option.some Jvm.ClassFile.FieldType.int)) ∈ kw_tbl := kts_5 (i := 96) rfl rfl
set_option maxRecDepth 100000 in
theorem kt_1057 : (Jvm.Cond.constantLong "SafeSweepsModel" (140 : Nat) (-1 : Int64)) ∈ kw_tbl := kts_5 (i := 97) rfl rfl
set_option maxRecDepth 100000 in
theorem kt_1058 : (Jvm.Cond.constantLong "SafeSweepsModel" (142 : Nat) (500 : Int64)) ∈ kw_tbl := kts_5 (i := 98) rfl rfl
set_option maxRecDepth 100000 in
theorem kt_1059 : (Jvm.Cond.methodLink "SafeSweepsModel" (144 : Nat) ({ cls := "SafeSweepsModel", name := "in", desc := "(JJJ)Z" } : Jvm.MethodName)) ∈ kw_tbl := kts_5 (i := 99) rfl rfl
set_option maxRecDepth 100000 in
theorem kt_1060 : (Jvm.Cond.static ({ cls := "SafeSweepsModel", name := "in", desc := "(JJJ)Z" } : Jvm.MethodName)) ∈ kw_tbl := kts_5 (i := 100) rfl rfl
set_option maxRecDepth 100000 in
theorem kt_1061 : (Jvm.Cond.code ({ cls := "SafeSweepsModel", name := "in", desc := "(JJJ)Z" } : Jvm.MethodName) prog_14_method_2_code (6 : Nat) (Option.some Jvm.ClassFile.FieldType.boolean)) ∈ kw_tbl := kts_5 (i := 101) rfl rfl
set_option maxRecDepth 100000 in
theorem kt_1062 : (Jvm.Cond.methodLink "SafeSweepsLaw" (92 : Nat) ({ cls := "SafeSweepsModel", name := "open", desc := "()I" } : Jvm.MethodName)) ∈ kw_tbl := kts_5 (i := 102) rfl rfl
set_option maxRecDepth 100000 in
theorem kt_1063 : (Jvm.Cond.instanceMethod ({ cls := "SafeSweepsModel", name := "open", desc := "()I" } : Jvm.MethodName)) ∈ kw_tbl := kts_5 (i := 103) rfl rfl
set_option maxRecDepth 100000 in
theorem kt_1064 : (Jvm.Cond.selects "SafeSweepsModel" ({ cls := "SafeSweepsModel", name := "open", desc := "()I" } : Jvm.MethodName) ({ cls := "SafeSweepsModel", name := "open", desc := "()I" } : Jvm.MethodName)) ∈ kw_tbl := kts_5 (i := 104) rfl rfl
set_option maxRecDepth 100000 in
theorem kt_1065 : (Jvm.Cond.code ({ cls := "SafeSweepsModel", name := "open", desc := "()I" } : Jvm.MethodName) prog_14_method_6_code (1 : Nat) (Option.some Jvm.ClassFile.FieldType.int)) ∈ kw_tbl := kts_5 (i := 105) rfl rfl
set_option maxRecDepth 100000 in
theorem kt_1066 : (Jvm.Cond.methodLink "SafeSweepsModel" (148 : Nat) ({ cls := "SafeSweepsModel", name := "count", desc := "(I)I" } : Jvm.MethodName)) ∈ kw_tbl := kts_5 (i := 106) rfl rfl
set_option maxRecDepth 100000 in
theorem kt_1067 : (Jvm.Cond.instanceMethod ({ cls := "SafeSweepsModel", name := "count", desc := "(I)I" } : Jvm.MethodName)) ∈ kw_tbl := kts_5 (i := 107) rfl rfl
set_option maxRecDepth 100000 in
theorem kt_1068 : (Jvm.Cond.selects "SafeSweepsModel" ({ cls := "SafeSweepsModel", name := "count", desc := "(I)I" } : Jvm.MethodName) ({ cls := "SafeSweepsModel", name := "count", desc := "(I)I" } : Jvm.MethodName)) ∈ kw_tbl := kts_5 (i := 108) rfl rfl
set_option maxRecDepth 100000 in
theorem kt_1069 : (Jvm.Cond.code ({ cls := "SafeSweepsModel", name := "count", desc := "(I)I" } : Jvm.MethodName) prog_14_method_50_code (2 : Nat) (Option.some Jvm.ClassFile.FieldType.int)) ∈ kw_tbl := kts_5 (i := 109) rfl rfl
set_option maxRecDepth 100000 in
theorem kt_1070 : (Jvm.Cond.methodLink "SafeSweepsModel" (313 : Nat) ({ cls := "SafeSweepsModel", name := "counted", desc := "(I)I" } : Jvm.MethodName)) ∈ kw_tbl := kts_5 (i := 110) rfl rfl
set_option maxRecDepth 100000 in
theorem kt_1072 : (Jvm.Cond.instanceMethod ({ cls := "SafeSweepsModel", name := "counted", desc := "(I)I" } : Jvm.MethodName)) ∈ kw_tbl := kts_5 (i := 112) rfl rfl
set_option maxRecDepth 100000 in
theorem kt_1073 : (Jvm.Cond.code ({ cls := "SafeSweepsModel", name := "counted", desc := "(I)I" } : Jvm.MethodName) prog_14_method_49_code (4 : Nat) (Option.some Jvm.ClassFile.FieldType.int)) ∈ kw_tbl := kts_5 (i := 113) rfl rfl
set_option maxRecDepth 100000 in
theorem kt_1074 : (Jvm.Cond.methodLink "SafeSweepsModel" (221 : Nat) ({ cls := "SafeSweepsModel", name := "snapshotsThere", desc := "()I" } : Jvm.MethodName)) ∈ kw_tbl := kts_5 (i := 114) rfl rfl
set_option maxRecDepth 100000 in
theorem kt_1076 : (Jvm.Cond.instanceMethod ({ cls := "SafeSweepsModel", name := "snapshotsThere", desc := "()I" } : Jvm.MethodName)) ∈ kw_tbl := kts_5 (i := 116) rfl rfl
set_option maxRecDepth 100000 in
theorem kt_1077 : (Jvm.Cond.code ({ cls := "SafeSweepsModel", name := "snapshotsThere", desc := "()I" } : Jvm.MethodName) prog_14_method_25_code (3 : Nat) (Option.some Jvm.ClassFile.FieldType.int)) ∈ kw_tbl := kts_5 (i := 117) rfl rfl
set_option maxRecDepth 100000 in
theorem kt_1078 : (Jvm.Cond.methodLink "SafeSweepsModel" (316 : Nat) ({ cls := "SafeSweepsModel", name := "savers", desc := "()I" } : Jvm.MethodName)) ∈ kw_tbl := kts_5 (i := 118) rfl rfl
set_option maxRecDepth 100000 in
theorem kt_1080 : (Jvm.Cond.instanceMethod ({ cls := "SafeSweepsModel", name := "savers", desc := "()I" } : Jvm.MethodName)) ∈ kw_tbl := kts_5 (i := 120) rfl rfl
set_option maxRecDepth 100000 in
theorem kt_1081 : (Jvm.Cond.code ({ cls := "SafeSweepsModel", name := "savers", desc := "()I" } : Jvm.MethodName) prog_14_method_48_code (3 : Nat) (Option.some Jvm.ClassFile.FieldType.int)) ∈ kw_tbl := kts_5 (i := 121) rfl rfl
set_option maxRecDepth 100000 in
theorem kt_1082 : (Jvm.Cond.methodLink "SafeSweepsLaw" (27 : Nat) ({ cls := "SafeSweepsModel", name := "at", desc := "(J)I" } : Jvm.MethodName)) ∈ kw_tbl := kts_5 (i := 122) rfl rfl
set_option maxRecDepth 100000 in
theorem kt_1083 : (Jvm.Cond.instanceMethod ({ cls := "SafeSweepsModel", name := "at", desc := "(J)I" } : Jvm.MethodName)) ∈ kw_tbl := kts_5 (i := 123) rfl rfl
set_option maxRecDepth 100000 in
theorem kt_1084 : (Jvm.Cond.selects "SafeSweepsModel" ({ cls := "SafeSweepsModel", name := "at", desc := "(J)I" } : Jvm.MethodName) ({ cls := "SafeSweepsModel", name := "at", desc := "(J)I" } : Jvm.MethodName)) ∈ kw_tbl := kts_5 (i := 124) rfl rfl
set_option maxRecDepth 100000 in
theorem kt_1085 : (Jvm.Cond.code ({ cls := "SafeSweepsModel", name := "at", desc := "(J)I" } : Jvm.MethodName) prog_14_method_7_code (3 : Nat) (Option.some Jvm.ClassFile.FieldType.int)) ∈ kw_tbl := kts_5 (i := 125) rfl rfl
set_option maxRecDepth 100000 in
theorem kt_1086 : (Jvm.Cond.constantLong "SafeSweepsModel" (152 : Nat) (1000000000000 : Int64)) ∈ kw_tbl := kts_5 (i := 126) rfl rfl
set_option maxRecDepth 100000 in
theorem kt_1087 : (Jvm.Cond.methodLink "SafeSweepsLaw" (32 : Nat) ({ cls := "SafeSweepsModel", name := "begin", desc := "(I)I" } : Jvm.MethodName)) ∈ kw_tbl := kts_5 (i := 127) rfl rfl
set_option maxRecDepth 100000 in
theorem kt_1088 : (Jvm.Cond.instanceMethod ({ cls := "SafeSweepsModel", name := "begin", desc := "(I)I" } : Jvm.MethodName)) ∈ kw_tbl := kts_5 (i := 128) rfl rfl
set_option maxRecDepth 100000 in
theorem kt_1089 : (Jvm.Cond.selects "SafeSweepsModel" ({ cls := "SafeSweepsModel", name := "begin", desc := "(I)I" } : Jvm.MethodName) ({ cls := "SafeSweepsModel", name := "begin", desc := "(I)I" } : Jvm.MethodName)) ∈ kw_tbl := kts_5 (i := 129) rfl rfl
set_option maxRecDepth 100000 in
theorem kt_1090 : (Jvm.Cond.code ({ cls := "SafeSweepsModel", name := "begin", desc := "(I)I" } : Jvm.MethodName) prog_14_method_13_code (3 : Nat) (Option.some Jvm.ClassFile.FieldType.int)) ∈ kw_tbl := kts_5 (i := 130) rfl rfl
set_option maxRecDepth 100000 in
theorem kt_1091 : (Jvm.Cond.constantLong "SafeSweepsModel" (163 : Nat) (1000000 : Int64)) ∈ kw_tbl := kts_5 (i := 131) rfl rfl
set_option maxRecDepth 100000 in
theorem kt_1092 : (Jvm.Cond.methodLink "SafeSweepsLaw" (37 : Nat) ({ cls := "SafeSweepsModel", name := "child", desc := "(II)I" } : Jvm.MethodName)) ∈ kw_tbl := kts_5 (i := 132) rfl rfl
set_option maxRecDepth 100000 in
theorem kt_1093 : (Jvm.Cond.instanceMethod ({ cls := "SafeSweepsModel", name := "child", desc := "(II)I" } : Jvm.MethodName)) ∈ kw_tbl := kts_5 (i := 133) rfl rfl
set_option maxRecDepth 100000 in
theorem kt_1094 : (Jvm.Cond.selects "SafeSweepsModel" ({ cls := "SafeSweepsModel", name := "child", desc := "(II)I" } : Jvm.MethodName) ({ cls := "SafeSweepsModel", name := "child", desc := "(II)I" } : Jvm.MethodName)) ∈ kw_tbl := kts_5 (i := 134) rfl rfl
set_option maxRecDepth 100000 in
theorem kt_1095 : (Jvm.Cond.code ({ cls := "SafeSweepsModel", name := "child", desc := "(II)I" } : Jvm.MethodName) prog_14_method_14_code (4 : Nat) (Option.some Jvm.ClassFile.FieldType.int)) ∈ kw_tbl := kts_5 (i := 135) rfl rfl
set_option maxRecDepth 100000 in
theorem kt_1096 : (Jvm.Cond.methodLink "SafeSweepsModel" (165 : Nat) ({ cls := "SafeSweepsModel", name := "isSaver", desc := "(I)Z" } : Jvm.MethodName)) ∈ kw_tbl := kts_5 (i := 136) rfl rfl
set_option maxRecDepth 100000 in
theorem kt_1098 : (Jvm.Cond.instanceMethod ({ cls := "SafeSweepsModel", name := "isSaver", desc := "(I)Z" } : Jvm.MethodName)) ∈ kw_tbl := kts_5 (i := 138) rfl rfl
set_option maxRecDepth 100000 in
theorem kt_1099 : (Jvm.Cond.code ({ cls := "SafeSweepsModel", name := "isSaver", desc := "(I)Z" } : Jvm.MethodName) prog_14_method_8_code (2 : Nat) (Option.some Jvm.ClassFile.FieldType.boolean)) ∈ kw_tbl := kts_5 (i := 139) rfl rfl
set_option maxRecDepth 100000 in
theorem kt_1100 : (Jvm.Cond.constantLong "SafeSweepsModel" (154 : Nat) (3 : Int64)) ∈ kw_tbl := kts_5 (i := 140) rfl rfl
set_option maxRecDepth 100000 in
theorem kt_1101 : (Jvm.Cond.methodLink "SafeSweepsModel" (168 : Nat) ({ cls := "SafeSweepsModel", name := "meet", desc := "(I)Z" } : Jvm.MethodName)) ∈ kw_tbl := kts_5 (i := 141) rfl rfl
set_option maxRecDepth 100000 in
theorem kt_1103 : (Jvm.Cond.instanceMethod ({ cls := "SafeSweepsModel", name := "meet", desc := "(I)Z" } : Jvm.MethodName)) ∈ kw_tbl := kts_5 (i := 143) rfl rfl
set_option maxRecDepth 100000 in
theorem kt_1104 : (Jvm.Cond.code ({ cls := "SafeSweepsModel", name := "meet", desc := "(I)Z" } : Jvm.MethodName) prog_14_method_12_code (2 : Nat) (Option.some Jvm.ClassFile.FieldType.boolean)) ∈ kw_tbl := kts_5 (i := 144) rfl rfl
set_option maxRecDepth 100000 in
theorem kt_1105 : (Jvm.Cond.methodLink "SafeSweepsModel" (159 : Nat) ({ cls := "SafeSweepsModel", name := "isDead", desc := "(I)Z" } : Jvm.MethodName)) ∈ kw_tbl := kts_5 (i := 145) rfl rfl
set_option maxRecDepth 100000 in
theorem kt_1107 : (Jvm.Cond.instanceMethod ({ cls := "SafeSweepsModel", name := "isDead", desc := "(I)Z" } : Jvm.MethodName)) ∈ kw_tbl := kts_5 (i := 147) rfl rfl
set_option maxRecDepth 100000 in
theorem kt_1108 : (Jvm.Cond.code ({ cls := "SafeSweepsModel", name := "isDead", desc := "(I)Z" } : Jvm.MethodName) prog_14_method_9_code (2 : Nat) (Option.some Jvm.ClassFile.FieldType.boolean)) ∈ kw_tbl := kts_5 (i := 148) rfl rfl
set_option maxRecDepth 100000 in
theorem kt_1109 : (Jvm.Cond.methodLink "SafeSweepsModel" (171 : Nat) ({ cls := "SafeSweepsModel", name := "isBlock", desc := "(I)Z" } : Jvm.MethodName)) ∈ kw_tbl := kts_5 (i := 149) rfl rfl
set_option maxRecDepth 100000 in
theorem kt_1111 : (Jvm.Cond.instanceMethod ({ cls := "SafeSweepsModel", name := "isBlock", desc := "(I)Z" } : Jvm.MethodName)) ∈ kw_tbl := kts_5 (i := 151) rfl rfl
set_option maxRecDepth 100000 in
theorem kt_1112 : (Jvm.Cond.code ({ cls := "SafeSweepsModel", name := "isBlock", desc := "(I)Z" } : Jvm.MethodName) prog_14_method_10_code (2 : Nat) (Option.some Jvm.ClassFile.FieldType.boolean)) ∈ kw_tbl := kts_5 (i := 152) rfl rfl
set_option maxRecDepth 100000 in
theorem kt_1113 : (Jvm.Cond.methodLink "SafeSweepsModel" (174 : Nat) ({ cls := "SafeSweepsModel", name := "uses", desc := "(II)Z" } : Jvm.MethodName)) ∈ kw_tbl := kts_5 (i := 153) rfl rfl
set_option maxRecDepth 100000 in
theorem kt_1115 : (Jvm.Cond.instanceMethod ({ cls := "SafeSweepsModel", name := "uses", desc := "(II)Z" } : Jvm.MethodName)) ∈ kw_tbl := kts_5 (i := 155) rfl rfl
set_option maxRecDepth 100000 in
theorem kt_1116 : (Jvm.Cond.code ({ cls := "SafeSweepsModel", name := "uses", desc := "(II)Z" } : Jvm.MethodName) prog_14_method_11_code (5 : Nat) (Option.some Jvm.ClassFile.FieldType.boolean)) ∈ kw_tbl := kts_5 (i := 156) rfl rfl
set_option maxRecDepth 100000 in
theorem kt_1117 : (Jvm.Cond.methodLink "SafeSweepsLaw" (42 : Nat) ({ cls := "SafeSweepsModel", name := "save", desc := "(IJI)I" } : Jvm.MethodName)) ∈ kw_tbl := kts_5 (i := 157) rfl rfl
set_option maxRecDepth 100000 in
theorem kt_1118 : (Jvm.Cond.instanceMethod ({ cls := "SafeSweepsModel", name := "save", desc := "(IJI)I" } : Jvm.MethodName)) ∈ kw_tbl := kts_5 (i := 158) rfl rfl
set_option maxRecDepth 100000 in
theorem kt_1119 : (Jvm.Cond.selects "SafeSweepsModel" ({ cls := "SafeSweepsModel", name := "save", desc := "(IJI)I" } : Jvm.MethodName) ({ cls := "SafeSweepsModel", name := "save", desc := "(IJI)I" } : Jvm.MethodName)) ∈ kw_tbl := kts_5 (i := 159) rfl rfl
set_option maxRecDepth 100000 in
theorem kt_1120 : (Jvm.Cond.code ({ cls := "SafeSweepsModel", name := "save", desc := "(IJI)I" } : Jvm.MethodName) prog_14_method_18_code (7 : Nat) (Option.some Jvm.ClassFile.FieldType.int)) ∈ kw_tbl := kts_5 (i := 160) rfl rfl
set_option maxRecDepth 100000 in
theorem kt_1121 : (Jvm.Cond.methodLink "SafeSweepsModel" (181 : Nat) ({ cls := "SafeSweepsModel", name := "find", desc := "(IJI)I" } : Jvm.MethodName)) ∈ kw_tbl := kts_5 (i := 161) rfl rfl
set_option maxRecDepth 100000 in
theorem kt_1123 : (Jvm.Cond.instanceMethod ({ cls := "SafeSweepsModel", name := "find", desc := "(IJI)I" } : Jvm.MethodName)) ∈ kw_tbl := kts_5 (i := 163) rfl rfl
set_option maxRecDepth 100000 in
theorem kt_1124 : (Jvm.Cond.code ({ cls := "SafeSweepsModel", name := "find", desc := "(IJI)I" } : Jvm.MethodName) prog_14_method_15_code (8 : Nat) (Option.some Jvm.ClassFile.FieldType.int)) ∈ kw_tbl := kts_5 (i := 164) rfl rfl
set_option maxRecDepth 100000 in
theorem kt_1125 : (Jvm.Cond.methodLink "SafeSweepsModel" (185 : Nat) ({ cls := "SafeSweepsModel", name := "taken", desc := "(II)Z" } : Jvm.MethodName)) ∈ kw_tbl := kts_5 (i := 165) rfl rfl
set_option maxRecDepth 100000 in
theorem kt_1127 : (Jvm.Cond.instanceMethod ({ cls := "SafeSweepsModel", name := "taken", desc := "(II)Z" } : Jvm.MethodName)) ∈ kw_tbl := kts_5 (i := 167) rfl rfl
set_option maxRecDepth 100000 in
theorem kt_1128 : (Jvm.Cond.code ({ cls := "SafeSweepsModel", name := "taken", desc := "(II)Z" } : Jvm.MethodName) prog_14_method_21_code (4 : Nat) (Option.some Jvm.ClassFile.FieldType.boolean)) ∈ kw_tbl := kts_5 (i := 168) rfl rfl
set_option maxRecDepth 100000 in
theorem kt_1129 : (Jvm.Cond.methodLink "SafeSweepsModel" (208 : Nat) ({ cls := "SafeSweepsModel", name := "reachFrom", desc := "(I)V" } : Jvm.MethodName)) ∈ kw_tbl := kts_5 (i := 169) rfl rfl
set_option maxRecDepth 100000 in
theorem kt_1131 : (Jvm.Cond.instanceMethod ({ cls := "SafeSweepsModel", name := "reachFrom", desc := "(I)V" } : Jvm.MethodName)) ∈ kw_tbl := kts_5 (i := 171) rfl rfl
set_option maxRecDepth 100000 in
theorem kt_1132 : (Jvm.Cond.code ({ cls := "SafeSweepsModel", name := "reachFrom", desc := "(I)V" } : Jvm.MethodName) prog_14_method_20_code (4 : Nat) (Option.none : Option Jvm.ClassFile.FieldType)) ∈ kw_tbl := kts_5 (i := 172) rfl rfl
set_option maxRecDepth 100000 in
theorem kt_1133 : (Jvm.Cond.methodLink "SafeSweepsModel" (191 : Nat) ({ cls := "SafeSweepsModel", name := "write", desc := "()Z" } : Jvm.MethodName)) ∈ kw_tbl := kts_5 (i := 173) rfl rfl
set_option maxRecDepth 100000 in
theorem kt_1135 : (Jvm.Cond.instanceMethod ({ cls := "SafeSweepsModel", name := "write", desc := "()Z" } : Jvm.MethodName)) ∈ kw_tbl := kts_5 (i := 175) rfl rfl
set_option maxRecDepth 100000 in
theorem kt_1136 : (Jvm.Cond.code ({ cls := "SafeSweepsModel", name := "write", desc := "()Z" } : Jvm.MethodName) prog_14_method_3_code (2 : Nat) (Option.some Jvm.ClassFile.FieldType.boolean)) ∈ kw_tbl := kts_5 (i := 176) rfl rfl
set_option maxRecDepth 100000 in
theorem kt_1137 : (Jvm.Cond.methodLink "SafeSweepsModel" (202 : Nat) ({ cls := "SafeSweepsModel", name := "use", desc := "(II)V" } : Jvm.MethodName)) ∈ kw_tbl := kts_5 (i := 177) rfl rfl
set_option maxRecDepth 100000 in
theorem kt_1139 : (Jvm.Cond.instanceMethod ({ cls := "SafeSweepsModel", name := "use", desc := "(II)V" } : Jvm.MethodName)) ∈ kw_tbl := kts_5 (i := 179) rfl rfl
set_option maxRecDepth 100000 in
theorem kt_1140 : (Jvm.Cond.code ({ cls := "SafeSweepsModel", name := "use", desc := "(II)V" } : Jvm.MethodName) prog_14_method_17_code (3 : Nat) (Option.none : Option Jvm.ClassFile.FieldType)) ∈ kw_tbl := kts_5 (i := 180) rfl rfl
set_option maxRecDepth 100000 in
theorem kt_1141 : (Jvm.Cond.methodLink "SafeSweepsModel" (188 : Nat) ({ cls := "SafeSweepsModel", name := "fitsLatest", desc := "(I)Z" } : Jvm.MethodName)) ∈ kw_tbl := kts_5 (i := 181) rfl rfl
set_option maxRecDepth 100000 in
theorem kt_1143 : (Jvm.Cond.instanceMethod ({ cls := "SafeSweepsModel", name := "fitsLatest", desc := "(I)Z" } : Jvm.MethodName)) ∈ kw_tbl := kts_5 (i := 183) rfl rfl
set_option maxRecDepth 100000 in
theorem kt_1144 : (Jvm.Cond.code ({ cls := "SafeSweepsModel", name := "fitsLatest", desc := "(I)Z" } : Jvm.MethodName) prog_14_method_16_code (2 : Nat) (Option.some Jvm.ClassFile.FieldType.boolean)) ∈ kw_tbl := kts_5 (i := 184) rfl rfl
set_option maxRecDepth 100000 in
theorem kt_1145 : (Jvm.Cond.methodLink "SafeSweepsModel" (195 : Nat) ({ cls := "SafeSweepsModel", name := "made", desc := "(IJI)I" } : Jvm.MethodName)) ∈ kw_tbl := kts_5 (i := 185) rfl rfl
set_option maxRecDepth 100000 in
theorem kt_1147 : (Jvm.Cond.instanceMethod ({ cls := "SafeSweepsModel", name := "made", desc := "(IJI)I" } : Jvm.MethodName)) ∈ kw_tbl := kts_5 (i := 187) rfl rfl
set_option maxRecDepth 100000 in
theorem kt_1148 : (Jvm.Cond.code ({ cls := "SafeSweepsModel", name := "made", desc := "(IJI)I" } : Jvm.MethodName) prog_14_method_19_code (7 : Nat) (Option.some Jvm.ClassFile.FieldType.int)) ∈ kw_tbl := kts_5 (i := 188) rfl rfl
set_option maxRecDepth 100000 in
theorem kt_1149 : (Jvm.Cond.methodLink "SafeSweepsModel" (198 : Nat) ({ cls := "SafeSweepsModel", name := "tell", desc := "(II)V" } : Jvm.MethodName)) ∈ kw_tbl := kts_5 (i := 189) rfl rfl
set_option maxRecDepth 100000 in
theorem kt_1151 : (Jvm.Cond.instanceMethod ({ cls := "SafeSweepsModel", name := "tell", desc := "(II)V" } : Jvm.MethodName)) ∈ kw_tbl := kts_5 (i := 191) rfl rfl
set_option maxRecDepth 100000 in
theorem kt_1152 : (Jvm.Cond.code ({ cls := "SafeSweepsModel", name := "tell", desc := "(II)V" } : Jvm.MethodName) prog_14_method_4_code (3 : Nat) (Option.none : Option Jvm.ClassFile.FieldType)) ∈ kw_tbl := kts_5 (i := 192) rfl rfl
set_option maxRecDepth 100000 in
theorem kt_1153 : (Jvm.Cond.methodLink "SafeSweepsLaw" (46 : Nat) ({ cls := "SafeSweepsModel", name := "take", desc := "(II)I" } : Jvm.MethodName)) ∈ kw_tbl := kts_5 (i := 193) rfl rfl
set_option maxRecDepth 100000 in
theorem kt_1154 : (Jvm.Cond.instanceMethod ({ cls := "SafeSweepsModel", name := "take", desc := "(II)I" } : Jvm.MethodName)) ∈ kw_tbl := kts_5 (i := 194) rfl rfl
set_option maxRecDepth 100000 in
theorem kt_1155 : (Jvm.Cond.selects "SafeSweepsModel" ({ cls := "SafeSweepsModel", name := "take", desc := "(II)I" } : Jvm.MethodName) ({ cls := "SafeSweepsModel", name := "take", desc := "(II)I" } : Jvm.MethodName)) ∈ kw_tbl := kts_5 (i := 195) rfl rfl
set_option maxRecDepth 100000 in
theorem kt_1156 : (Jvm.Cond.code ({ cls := "SafeSweepsModel", name := "take", desc := "(II)I" } : Jvm.MethodName) prog_14_method_22_code (4 : Nat) (Option.some Jvm.ClassFile.FieldType.int)) ∈ kw_tbl := kts_5 (i := 196) rfl rfl
set_option maxRecDepth 100000 in
theorem kt_1157 : (Jvm.Cond.methodLink "SafeSweepsLaw" (50 : Nat) ({ cls := "SafeSweepsModel", name := "commit", desc := "(II)I" } : Jvm.MethodName)) ∈ kw_tbl := kts_5 (i := 197) rfl rfl
set_option maxRecDepth 100000 in
theorem kt_1158 : (Jvm.Cond.instanceMethod ({ cls := "SafeSweepsModel", name := "commit", desc := "(II)I" } : Jvm.MethodName)) ∈ kw_tbl := kts_5 (i := 198) rfl rfl
set_option maxRecDepth 100000 in
theorem kt_1159 : (Jvm.Cond.selects "SafeSweepsModel" ({ cls := "SafeSweepsModel", name := "commit", desc := "(II)I" } : Jvm.MethodName) ({ cls := "SafeSweepsModel", name := "commit", desc := "(II)I" } : Jvm.MethodName)) ∈ kw_tbl := kts_5 (i := 199) rfl rfl
set_option maxRecDepth 100000 in
theorem kt_1160 : (Jvm.Cond.code ({ cls := "SafeSweepsModel", name := "commit", desc := "(II)I" } : Jvm.MethodName) prog_14_method_23_code (5 : Nat) (Option.some Jvm.ClassFile.FieldType.int)) ∈ kw_tbl := kts_5 (i := 200) rfl rfl
set_option maxRecDepth 100000 in
theorem kt_1161 : (Jvm.Cond.methodLink "SafeSweepsLaw" (54 : Nat) ({ cls := "SafeSweepsModel", name := "give", desc := "(I)I" } : Jvm.MethodName)) ∈ kw_tbl := kts_5 (i := 201) rfl rfl
set_option maxRecDepth 100000 in
theorem kt_1162 : (Jvm.Cond.instanceMethod ({ cls := "SafeSweepsModel", name := "give", desc := "(I)I" } : Jvm.MethodName)) ∈ kw_tbl := kts_5 (i := 202) rfl rfl
set_option maxRecDepth 100000 in
theorem kt_1163 : (Jvm.Cond.selects "SafeSweepsModel" ({ cls := "SafeSweepsModel", name := "give", desc := "(I)I" } : Jvm.MethodName) ({ cls := "SafeSweepsModel", name := "give", desc := "(I)I" } : Jvm.MethodName)) ∈ kw_tbl := kts_5 (i := 203) rfl rfl
set_option maxRecDepth 100000 in
theorem kt_1164 : (Jvm.Cond.code ({ cls := "SafeSweepsModel", name := "give", desc := "(I)I" } : Jvm.MethodName) prog_14_method_24_code (2 : Nat) (Option.some Jvm.ClassFile.FieldType.int)) ∈ kw_tbl := kts_5 (i := 204) rfl rfl
set_option maxRecDepth 100000 in
theorem kt_1165 : (Jvm.Cond.methodLink "SafeSweepsLaw" (58 : Nat) ({ cls := "SafeSweepsModel", name := "drop", desc := "(I)I" } : Jvm.MethodName)) ∈ kw_tbl := kts_5 (i := 205) rfl rfl
set_option maxRecDepth 100000 in
theorem kt_1166 : (Jvm.Cond.instanceMethod ({ cls := "SafeSweepsModel", name := "drop", desc := "(I)I" } : Jvm.MethodName)) ∈ kw_tbl := kts_5 (i := 206) rfl rfl
set_option maxRecDepth 100000 in
theorem kt_1167 : (Jvm.Cond.selects "SafeSweepsModel" ({ cls := "SafeSweepsModel", name := "drop", desc := "(I)I" } : Jvm.MethodName) ({ cls := "SafeSweepsModel", name := "drop", desc := "(I)I" } : Jvm.MethodName)) ∈ kw_tbl := kts_5 (i := 207) rfl rfl
set_option maxRecDepth 100000 in
theorem kt_1168 : (Jvm.Cond.code ({ cls := "SafeSweepsModel", name := "drop", desc := "(I)I" } : Jvm.MethodName) prog_14_method_28_code (2 : Nat) (Option.some Jvm.ClassFile.FieldType.int)) ∈ kw_tbl := kts_5 (i := 208) rfl rfl
set_option maxRecDepth 100000 in
theorem kt_1169 : (Jvm.Cond.methodLink "SafeSweepsModel" (225 : Nat) ({ cls := "SafeSweepsModel", name := "isSnapshot", desc := "(I)Z" } : Jvm.MethodName)) ∈ kw_tbl := kts_5 (i := 209) rfl rfl
set_option maxRecDepth 100000 in
theorem kt_1171 : (Jvm.Cond.instanceMethod ({ cls := "SafeSweepsModel", name := "isSnapshot", desc := "(I)Z" } : Jvm.MethodName)) ∈ kw_tbl := kts_5 (i := 211) rfl rfl
set_option maxRecDepth 100000 in
theorem kt_1172 : (Jvm.Cond.code ({ cls := "SafeSweepsModel", name := "isSnapshot", desc := "(I)Z" } : Jvm.MethodName) prog_14_method_26_code (2 : Nat) (Option.some Jvm.ClassFile.FieldType.boolean)) ∈ kw_tbl := kts_5 (i := 212) rfl rfl
set_option maxRecDepth 100000 in
theorem kt_1173 : (Jvm.Cond.methodLink "SafeSweepsModel" (228 : Nat) ({ cls := "SafeSweepsModel", name := "goes", desc := "(I)Z" } : Jvm.MethodName)) ∈ kw_tbl := kts_5 (i := 213) rfl rfl
set_option maxRecDepth 100000 in
theorem kt_1175 : (Jvm.Cond.instanceMethod ({ cls := "SafeSweepsModel", name := "goes", desc := "(I)Z" } : Jvm.MethodName)) ∈ kw_tbl := kts_5 (i := 215) rfl rfl
set_option maxRecDepth 100000 in
theorem kt_1176 : (Jvm.Cond.code ({ cls := "SafeSweepsModel", name := "goes", desc := "(I)Z" } : Jvm.MethodName) prog_14_method_27_code (2 : Nat) (Option.some Jvm.ClassFile.FieldType.boolean)) ∈ kw_tbl := kts_5 (i := 216) rfl rfl
set_option maxRecDepth 100000 in
theorem kt_1177 : (Jvm.Cond.methodLink "SafeSweepsLaw" (62 : Nat) ({ cls := "SafeSweepsModel", name := "rule", desc := "(II)I" } : Jvm.MethodName)) ∈ kw_tbl := kts_5 (i := 217) rfl rfl
set_option maxRecDepth 100000 in
theorem kt_1178 : (Jvm.Cond.instanceMethod ({ cls := "SafeSweepsModel", name := "rule", desc := "(II)I" } : Jvm.MethodName)) ∈ kw_tbl := kts_5 (i := 218) rfl rfl
set_option maxRecDepth 100000 in
theorem kt_1179 : (Jvm.Cond.selects "SafeSweepsModel" ({ cls := "SafeSweepsModel", name := "rule", desc := "(II)I" } : Jvm.MethodName) ({ cls := "SafeSweepsModel", name := "rule", desc := "(II)I" } : Jvm.MethodName)) ∈ kw_tbl := kts_5 (i := 219) rfl rfl
set_option maxRecDepth 100000 in
theorem kt_1180 : (Jvm.Cond.code ({ cls := "SafeSweepsModel", name := "rule", desc := "(II)I" } : Jvm.MethodName) prog_14_method_29_code (4 : Nat) (Option.some Jvm.ClassFile.FieldType.int)) ∈ kw_tbl := kts_5 (i := 220) rfl rfl
set_option maxRecDepth 100000 in
theorem kt_1181 : (Jvm.Cond.constantLong "SafeSweepsModel" (231 : Nat) (5 : Int64)) ∈ kw_tbl := kts_5 (i := 221) rfl rfl
set_option maxRecDepth 100000 in
theorem kt_1182 : (Jvm.Cond.constantLong "SafeSweepsModel" (233 : Nat) (15 : Int64)) ∈ kw_tbl := kts_5 (i := 222) rfl rfl
set_option maxRecDepth 100000 in
theorem kt_1183 : (Jvm.Cond.constantLong "SafeSweepsModel" (235 : Nat) (100 : Int64)) ∈ kw_tbl := kts_5 (i := 223) rfl rfl
set_option maxRecDepth 100000 in
theorem kt_1184 : (Jvm.Cond.methodLink "SafeSweepsLaw" (66 : Nat) ({ cls := "SafeSweepsModel", name := "keeps", desc := "(I)I" } : Jvm.MethodName)) ∈ kw_tbl := kts_5 (i := 224) rfl rfl
set_option maxRecDepth 100000 in
theorem kt_1185 : (Jvm.Cond.instanceMethod ({ cls := "SafeSweepsModel", name := "keeps", desc := "(I)I" } : Jvm.MethodName)) ∈ kw_tbl := kts_5 (i := 225) rfl rfl
set_option maxRecDepth 100000 in
theorem kt_1186 : (Jvm.Cond.selects "SafeSweepsModel" ({ cls := "SafeSweepsModel", name := "keeps", desc := "(I)I" } : Jvm.MethodName) ({ cls := "SafeSweepsModel", name := "keeps", desc := "(I)I" } : Jvm.MethodName)) ∈ kw_tbl := kts_5 (i := 226) rfl rfl
set_option maxRecDepth 100000 in
theorem kt_1187 : (Jvm.Cond.code ({ cls := "SafeSweepsModel", name := "keeps", desc := "(I)I" } : Jvm.MethodName) prog_14_method_34_code (2 : Nat) (Option.some Jvm.ClassFile.FieldType.int)) ∈ kw_tbl := kts_5 (i := 227) rfl rfl
set_option maxRecDepth 100000 in
theorem kt_1188 : (Jvm.Cond.methodLink "SafeSweepsModel" (261 : Nat) ({ cls := "SafeSweepsModel", name := "keptBy", desc := "(I)I" } : Jvm.MethodName)) ∈ kw_tbl := kts_5 (i := 228) rfl rfl
set_option maxRecDepth 100000 in
theorem kt_1190 : (Jvm.Cond.instanceMethod ({ cls := "SafeSweepsModel", name := "keptBy", desc := "(I)I" } : Jvm.MethodName)) ∈ kw_tbl := kts_5 (i := 230) rfl rfl
set_option maxRecDepth 100000 in
theorem kt_1191 : (Jvm.Cond.code ({ cls := "SafeSweepsModel", name := "keptBy", desc := "(I)I" } : Jvm.MethodName) prog_14_method_33_code (5 : Nat) (Option.some Jvm.ClassFile.FieldType.int)) ∈ kw_tbl := kts_5 (i := 231) rfl rfl
set_option maxRecDepth 100000 in
theorem kt_1192 : (Jvm.Cond.methodLink "SafeSweepsModel" (251 : Nat) ({ cls := "SafeSweepsModel", name := "behind", desc := "(I)I" } : Jvm.MethodName)) ∈ kw_tbl := kts_5 (i := 232) rfl rfl
set_option maxRecDepth 100000 in
theorem kt_1194 : (Jvm.Cond.instanceMethod ({ cls := "SafeSweepsModel", name := "behind", desc := "(I)I" } : Jvm.MethodName)) ∈ kw_tbl := kts_5 (i := 234) rfl rfl
set_option maxRecDepth 100000 in
theorem kt_1195 : (Jvm.Cond.code ({ cls := "SafeSweepsModel", name := "behind", desc := "(I)I" } : Jvm.MethodName) prog_14_method_30_code (4 : Nat) (Option.some Jvm.ClassFile.FieldType.int)) ∈ kw_tbl := kts_5 (i := 235) rfl rfl
set_option maxRecDepth 100000 in
theorem kt_1196 : (Jvm.Cond.methodLink "SafeSweepsModel" (258 : Nat) ({ cls := "SafeSweepsModel", name := "spanKeeps", desc := "(II)Z" } : Jvm.MethodName)) ∈ kw_tbl := kts_5 (i := 236) rfl rfl
set_option maxRecDepth 100000 in
theorem kt_1198 : (Jvm.Cond.instanceMethod ({ cls := "SafeSweepsModel", name := "spanKeeps", desc := "(II)Z" } : Jvm.MethodName)) ∈ kw_tbl := kts_5 (i := 238) rfl rfl
set_option maxRecDepth 100000 in
theorem kt_1199 : (Jvm.Cond.code ({ cls := "SafeSweepsModel", name := "spanKeeps", desc := "(II)Z" } : Jvm.MethodName) prog_14_method_32_code (6 : Nat) (Option.some Jvm.ClassFile.FieldType.boolean)) ∈ kw_tbl := kts_5 (i := 239) rfl rfl
set_option maxRecDepth 100000 in
theorem kt_1200 : (Jvm.Cond.methodLink "SafeSweepsModel" (254 : Nat) ({ cls := "SafeSweepsModel", name := "spanOf", desc := "(JI)J" } : Jvm.MethodName)) ∈ kw_tbl := kts_6 (i := 0) rfl rfl
set_option maxRecDepth 100000 in
theorem kt_1202 : (Jvm.Cond.instanceMethod ({ cls := "SafeSweepsModel", name := "spanOf", desc := "(JI)J" } : Jvm.MethodName)) ∈ kw_tbl := kts_6 (i := 2) rfl rfl
set_option maxRecDepth 100000 in
theorem kt_1203 : (Jvm.Cond.code ({ cls := "SafeSweepsModel", name := "spanOf", desc := "(JI)J" } : Jvm.MethodName) prog_14_method_31_code (6 : Nat) (Option.some Jvm.ClassFile.FieldType.long)) ∈ kw_tbl := kts_6 (i := 3) rfl rfl
set_option maxRecDepth 100000 in
theorem kt_1204 : (Jvm.Cond.constantLong "SafeSweepsModel" (237 : Nat) (86400 : Int64)) ∈ kw_tbl := kts_6 (i := 4) rfl rfl
set_option maxRecDepth 100000 in
theorem kt_1205 : (Jvm.Cond.methodLink "SafeSweepsModel" (239 : Nat) ({ cls := "SafeSweepsModel", name := "floor", desc := "(JJ)J" } : Jvm.MethodName)) ∈ kw_tbl := kts_6 (i := 5) rfl rfl
set_option maxRecDepth 100000 in
theorem kt_1206 : (Jvm.Cond.static ({ cls := "SafeSweepsModel", name := "floor", desc := "(JJ)J" } : Jvm.MethodName)) ∈ kw_tbl := kts_6 (i := 6) rfl rfl
set_option maxRecDepth 100000 in
theorem kt_1207 : (Jvm.Cond.code ({ cls := "SafeSweepsModel", name := "floor", desc := "(JJ)J" } : Jvm.MethodName) prog_14_method_59_code (6 : Nat) (Option.some Jvm.ClassFile.FieldType.long)) ∈ kw_tbl := kts_6 (i := 7) rfl rfl
set_option maxRecDepth 100000 in
theorem kt_1208 : (Jvm.Cond.constantLong "SafeSweepsModel" (243 : Nat) (7 : Int64)) ∈ kw_tbl := kts_6 (i := 8) rfl rfl
set_option maxRecDepth 100000 in
theorem kt_1209 : (Jvm.Cond.constantLong "SafeSweepsModel" (245 : Nat) (12 : Int64)) ∈ kw_tbl := kts_6 (i := 9) rfl rfl
set_option maxRecDepth 100000 in
theorem kt_1210 : (Jvm.Cond.methodLink "SafeSweepsModel" (247 : Nat) ({ cls := "SafeSweepsModel", name := "calendar", desc := "(JI)I" } : Jvm.MethodName)) ∈ kw_tbl := kts_6 (i := 10) rfl rfl
set_option maxRecDepth 100000 in
theorem kt_1211 : (Jvm.Cond.instanceMethod ({ cls := "SafeSweepsModel", name := "calendar", desc := "(JI)I" } : Jvm.MethodName)) ∈ kw_tbl := kts_6 (i := 11) rfl rfl
set_option maxRecDepth 100000 in
theorem kt_1212 : (Jvm.Cond.selects "SafeSweepsModel" ({ cls := "SafeSweepsModel", name := "calendar", desc := "(JI)I" } : Jvm.MethodName) ({ cls := "SafeSweepsModel", name := "calendar", desc := "(JI)I" } : Jvm.MethodName)) ∈ kw_tbl := kts_6 (i := 12) rfl rfl
set_option maxRecDepth 100000 in
theorem kt_1213 : (Jvm.Cond.code ({ cls := "SafeSweepsModel", name := "calendar", desc := "(JI)I" } : Jvm.MethodName) prog_14_method_61_code (13 : Nat) (Option.some Jvm.ClassFile.FieldType.int)) ∈ kw_tbl := kts_6 (i := 13) rfl rfl
set_option maxRecDepth 100000 in
theorem kt_1214 : (Jvm.Cond.constantLong "SafeSweepsModel" (326 : Nat) (4 : Int64)) ∈ kw_tbl := kts_6 (i := 14) rfl rfl
set_option maxRecDepth 100000 in
theorem kt_1215 : (Jvm.Cond.constantLong "SafeSweepsModel" (328 : Nat) (-1000000000000 : Int64)) ∈ kw_tbl := kts_6 (i := 15) rfl rfl
set_option maxRecDepth 100000 in
theorem kt_1216 : (Jvm.Cond.constantLong "SafeSweepsModel" (330 : Nat) (719528 : Int64)) ∈ kw_tbl := kts_6 (i := 16) rfl rfl
set_option maxRecDepth 100000 in
theorem kt_1217 : (Jvm.Cond.constantLong "SafeSweepsModel" (332 : Nat) (146097 : Int64)) ∈ kw_tbl := kts_6 (i := 17) rfl rfl
set_option maxRecDepth 100000 in
theorem kt_1218 : (Jvm.Cond.methodLink "SafeSweepsModel" (334 : Nat) ({ cls := "SafeSweepsModel", name := "daysOf", desc := "(II)I" } : Jvm.MethodName)) ∈ kw_tbl := kts_6 (i := 18) rfl rfl
set_option maxRecDepth 100000 in
theorem kt_1219 : (Jvm.Cond.static ({ cls := "SafeSweepsModel", name := "daysOf", desc := "(II)I" } : Jvm.MethodName)) ∈ kw_tbl := kts_6 (i := 19) rfl rfl
set_option maxRecDepth 100000 in
theorem kt_1220 : (Jvm.Cond.code ({ cls := "SafeSweepsModel", name := "daysOf", desc := "(II)I" } : Jvm.MethodName) prog_14_method_60_code (3 : Nat) (Option.some Jvm.ClassFile.FieldType.int)) ∈ kw_tbl := kts_6 (i := 20) rfl rfl
set_option maxRecDepth 100000 in
theorem kt_1221 : (Jvm.Cond.constantLong "SafeSweepsModel" (337 : Nat) (400 : Int64)) ∈ kw_tbl := kts_6 (i := 21) rfl rfl
set_option maxRecDepth 100000 in
theorem kt_1222 : (Jvm.Cond.methodLink "SafeSweepsLaw" (71 : Nat) ({ cls := "SafeSweepsModel", name := "prune", desc := "(Z)I" } : Jvm.MethodName)) ∈ kw_tbl := kts_6 (i := 22) rfl rfl
set_option maxRecDepth 100000 in
theorem kt_1223 : (Jvm.Cond.instanceMethod ({ cls := "SafeSweepsModel", name := "prune", desc := "(Z)I" } : Jvm.MethodName)) ∈ kw_tbl := kts_6 (i := 23) rfl rfl
set_option maxRecDepth 100000 in
theorem kt_1224 : (Jvm.Cond.selects "SafeSweepsModel" ({ cls := "SafeSweepsModel", name := "prune", desc := "(Z)I" } : Jvm.MethodName) ({ cls := "SafeSweepsModel", name := "prune", desc := "(Z)I" } : Jvm.MethodName)) ∈ kw_tbl := kts_6 (i := 24) rfl rfl
set_option maxRecDepth 100000 in
theorem kt_1225 : (Jvm.Cond.code ({ cls := "SafeSweepsModel", name := "prune", desc := "(Z)I" } : Jvm.MethodName) prog_14_method_35_code (7 : Nat) (Option.some Jvm.ClassFile.FieldType.int)) ∈ kw_tbl := kts_6 (i := 25) rfl rfl
set_option maxRecDepth 100000 in
theorem kt_1226 : (Jvm.Cond.methodLink "SafeSweepsLaw" (76 : Nat) ({ cls := "SafeSweepsModel", name := "sweep", desc := "()I" } : Jvm.MethodName)) ∈ kw_tbl := kts_6 (i := 26) rfl rfl
set_option maxRecDepth 100000 in
theorem kt_1227 : (Jvm.Cond.instanceMethod ({ cls := "SafeSweepsModel", name := "sweep", desc := "()I" } : Jvm.MethodName)) ∈ kw_tbl := kts_6 (i := 27) rfl rfl
set_option maxRecDepth 100000 in
theorem kt_1228 : (Jvm.Cond.selects "SafeSweepsModel" ({ cls := "SafeSweepsModel", name := "sweep", desc := "()I" } : Jvm.MethodName) ({ cls := "SafeSweepsModel", name := "sweep", desc := "()I" } : Jvm.MethodName)) ∈ kw_tbl := kts_6 (i := 28) rfl rfl
set_option maxRecDepth 100000 in
theorem kt_1229 : (Jvm.Cond.code ({ cls := "SafeSweepsModel", name := "sweep", desc := "()I" } : Jvm.MethodName) prog_14_method_38_code (3 : Nat) (Option.some Jvm.ClassFile.FieldType.int)) ∈ kw_tbl := kts_6 (i := 29) rfl rfl
set_option maxRecDepth 100000 in
theorem kt_1230 : (Jvm.Cond.methodLink "SafeSweepsModel" (279 : Nat) ({ cls := "SafeSweepsModel", name := "push", desc := "(I)V" } : Jvm.MethodName)) ∈ kw_tbl := kts_6 (i := 30) rfl rfl
set_option maxRecDepth 100000 in
theorem kt_1232 : (Jvm.Cond.instanceMethod ({ cls := "SafeSweepsModel", name := "push", desc := "(I)V" } : Jvm.MethodName)) ∈ kw_tbl := kts_6 (i := 32) rfl rfl
set_option maxRecDepth 100000 in
theorem kt_1233 : (Jvm.Cond.code ({ cls := "SafeSweepsModel", name := "push", desc := "(I)V" } : Jvm.MethodName) prog_14_method_36_code (2 : Nat) (Option.none : Option Jvm.ClassFile.FieldType)) ∈ kw_tbl := kts_6 (i := 33) rfl rfl
set_option maxRecDepth 100000 in
theorem kt_1234 : (Jvm.Cond.methodLink "SafeSweepsModel" (282 : Nat) ({ cls := "SafeSweepsModel", name := "settle", desc := "()V" } : Jvm.MethodName)) ∈ kw_tbl := kts_6 (i := 34) rfl rfl
set_option maxRecDepth 100000 in
theorem kt_1236 : (Jvm.Cond.instanceMethod ({ cls := "SafeSweepsModel", name := "settle", desc := "()V" } : Jvm.MethodName)) ∈ kw_tbl := kts_6 (i := 36) rfl rfl
set_option maxRecDepth 100000 in
theorem kt_1237 : (Jvm.Cond.code ({ cls := "SafeSweepsModel", name := "settle", desc := "()V" } : Jvm.MethodName) prog_14_method_37_code (1 : Nat) (Option.none : Option Jvm.ClassFile.FieldType)) ∈ kw_tbl := kts_6 (i := 37) rfl rfl
set_option maxRecDepth 100000 in
theorem kt_1238 : (Jvm.Cond.methodLink "SafeSweepsLaw" (80 : Nat) ({ cls := "SafeSweepsModel", name := "step", desc := "(I)I" } : Jvm.MethodName)) ∈ kw_tbl := kts_6 (i := 38) rfl rfl
set_option maxRecDepth 100000 in
theorem kt_1239 : (Jvm.Cond.instanceMethod ({ cls := "SafeSweepsModel", name := "step", desc := "(I)I" } : Jvm.MethodName)) ∈ kw_tbl := kts_6 (i := 39) rfl rfl
set_option maxRecDepth 100000 in
theorem kt_1240 : (Jvm.Cond.selects "SafeSweepsModel" ({ cls := "SafeSweepsModel", name := "step", desc := "(I)I" } : Jvm.MethodName) ({ cls := "SafeSweepsModel", name := "step", desc := "(I)I" } : Jvm.MethodName)) ∈ kw_tbl := kts_6 (i := 40) rfl rfl
set_option maxRecDepth 100000 in
theorem kt_1241 : (Jvm.Cond.code ({ cls := "SafeSweepsModel", name := "step", desc := "(I)I" } : Jvm.MethodName) prog_14_method_46_code (4 : Nat) (Option.some Jvm.ClassFile.FieldType.int)) ∈ kw_tbl := kts_6 (i := 41) rfl rfl
set_option maxRecDepth 100000 in
theorem kt_1242 : (Jvm.Cond.methodLink "SafeSweepsModel" (301 : Nat) ({ cls := "SafeSweepsModel", name := "mark", desc := "()V" } : Jvm.MethodName)) ∈ kw_tbl := kts_6 (i := 42) rfl rfl
set_option maxRecDepth 100000 in
theorem kt_1244 : (Jvm.Cond.instanceMethod ({ cls := "SafeSweepsModel", name := "mark", desc := "()V" } : Jvm.MethodName)) ∈ kw_tbl := kts_6 (i := 44) rfl rfl
set_option maxRecDepth 100000 in
theorem kt_1245 : (Jvm.Cond.code ({ cls := "SafeSweepsModel", name := "mark", desc := "()V" } : Jvm.MethodName) prog_14_method_39_code (3 : Nat) (Option.none : Option Jvm.ClassFile.FieldType)) ∈ kw_tbl := kts_6 (i := 45) rfl rfl
set_option maxRecDepth 100000 in
theorem kt_1246 : (Jvm.Cond.methodLink "SafeSweepsModel" (304 : Nat) ({ cls := "SafeSweepsModel", name := "clear", desc := "()Z" } : Jvm.MethodName)) ∈ kw_tbl := kts_6 (i := 46) rfl rfl
set_option maxRecDepth 100000 in
theorem kt_1248 : (Jvm.Cond.instanceMethod ({ cls := "SafeSweepsModel", name := "clear", desc := "()Z" } : Jvm.MethodName)) ∈ kw_tbl := kts_6 (i := 48) rfl rfl
set_option maxRecDepth 100000 in
theorem kt_1249 : (Jvm.Cond.code ({ cls := "SafeSweepsModel", name := "clear", desc := "()Z" } : Jvm.MethodName) prog_14_method_40_code (2 : Nat) (Option.some Jvm.ClassFile.FieldType.boolean)) ∈ kw_tbl := kts_6 (i := 49) rfl rfl
set_option maxRecDepth 100000 in
theorem kt_1250 : (Jvm.Cond.methodLink "SafeSweepsModel" (307 : Nat) ({ cls := "SafeSweepsModel", name := "choose", desc := "()Z" } : Jvm.MethodName)) ∈ kw_tbl := kts_6 (i := 50) rfl rfl
set_option maxRecDepth 100000 in
theorem kt_1252 : (Jvm.Cond.instanceMethod ({ cls := "SafeSweepsModel", name := "choose", desc := "()Z" } : Jvm.MethodName)) ∈ kw_tbl := kts_6 (i := 52) rfl rfl
set_option maxRecDepth 100000 in
theorem kt_1253 : (Jvm.Cond.code ({ cls := "SafeSweepsModel", name := "choose", desc := "()Z" } : Jvm.MethodName) prog_14_method_41_code (3 : Nat) (Option.some Jvm.ClassFile.FieldType.boolean)) ∈ kw_tbl := kts_6 (i := 53) rfl rfl
set_option maxRecDepth 100000 in
theorem kt_1254 : (Jvm.Cond.methodLink "SafeSweepsModel" (310 : Nat) ({ cls := "SafeSweepsModel", name := "packStep", desc := "()Z" } : Jvm.MethodName)) ∈ kw_tbl := kts_6 (i := 54) rfl rfl
set_option maxRecDepth 100000 in
theorem kt_1256 : (Jvm.Cond.instanceMethod ({ cls := "SafeSweepsModel", name := "packStep", desc := "()Z" } : Jvm.MethodName)) ∈ kw_tbl := kts_6 (i := 56) rfl rfl
set_option maxRecDepth 100000 in
theorem kt_1257 : (Jvm.Cond.code ({ cls := "SafeSweepsModel", name := "packStep", desc := "()Z" } : Jvm.MethodName) prog_14_method_44_code (6 : Nat) (Option.some Jvm.ClassFile.FieldType.boolean)) ∈ kw_tbl := kts_6 (i := 57) rfl rfl
set_option maxRecDepth 100000 in
theorem kt_1258 : (Jvm.Cond.methodLink "SafeSweepsModel" (288 : Nat) ({ cls := "SafeSweepsModel", name := "bytesIn", desc := "(I)I" } : Jvm.MethodName)) ∈ kw_tbl := kts_6 (i := 58) rfl rfl
set_option maxRecDepth 100000 in
theorem kt_1260 : (Jvm.Cond.instanceMethod ({ cls := "SafeSweepsModel", name := "bytesIn", desc := "(I)I" } : Jvm.MethodName)) ∈ kw_tbl := kts_6 (i := 60) rfl rfl
set_option maxRecDepth 100000 in
theorem kt_1261 : (Jvm.Cond.code ({ cls := "SafeSweepsModel", name := "bytesIn", desc := "(I)I" } : Jvm.MethodName) prog_14_method_42_code (4 : Nat) (Option.some Jvm.ClassFile.FieldType.int)) ∈ kw_tbl := kts_6 (i := 61) rfl rfl
set_option maxRecDepth 100000 in
theorem kt_1262 : (Jvm.Cond.methodLink "SafeSweepsModel" (291 : Nat) ({ cls := "SafeSweepsModel", name := "blocksIn", desc := "(I)I" } : Jvm.MethodName)) ∈ kw_tbl := kts_6 (i := 62) rfl rfl
set_option maxRecDepth 100000 in
theorem kt_1264 : (Jvm.Cond.instanceMethod ({ cls := "SafeSweepsModel", name := "blocksIn", desc := "(I)I" } : Jvm.MethodName)) ∈ kw_tbl := kts_6 (i := 64) rfl rfl
set_option maxRecDepth 100000 in
theorem kt_1265 : (Jvm.Cond.code ({ cls := "SafeSweepsModel", name := "blocksIn", desc := "(I)I" } : Jvm.MethodName) prog_14_method_43_code (4 : Nat) (Option.some Jvm.ClassFile.FieldType.int)) ∈ kw_tbl := kts_6 (i := 65) rfl rfl
set_option maxRecDepth 100000 in
theorem kt_1266 : (Jvm.Cond.methodLink "SafeSweepsModel" (294 : Nat) ({ cls := "SafeSweepsModel", name := "plan", desc := "(II)I" } : Jvm.MethodName)) ∈ kw_tbl := kts_6 (i := 66) rfl rfl
set_option maxRecDepth 100000 in
theorem kt_1268 : (Jvm.Cond.instanceMethod ({ cls := "SafeSweepsModel", name := "plan", desc := "(II)I" } : Jvm.MethodName)) ∈ kw_tbl := kts_6 (i := 68) rfl rfl
set_option maxRecDepth 100000 in
theorem kt_1269 : (Jvm.Cond.code ({ cls := "SafeSweepsModel", name := "plan", desc := "(II)I" } : Jvm.MethodName) prog_14_method_45_code (12 : Nat) (Option.some Jvm.ClassFile.FieldType.int)) ∈ kw_tbl := kts_6 (i := 69) rfl rfl
set_option maxRecDepth 100000 in
theorem kt_1270 : (Jvm.Cond.methodLink "SafeSweepsLaw" (84 : Nat) ({ cls := "SafeSweepsModel", name := "share", desc := "(I)I" } : Jvm.MethodName)) ∈ kw_tbl := kts_6 (i := 70) rfl rfl
set_option maxRecDepth 100000 in
theorem kt_1271 : (Jvm.Cond.instanceMethod ({ cls := "SafeSweepsModel", name := "share", desc := "(I)I" } : Jvm.MethodName)) ∈ kw_tbl := kts_6 (i := 71) rfl rfl
set_option maxRecDepth 100000 in
theorem kt_1272 : (Jvm.Cond.selects "SafeSweepsModel" ({ cls := "SafeSweepsModel", name := "share", desc := "(I)I" } : Jvm.MethodName) ({ cls := "SafeSweepsModel", name := "share", desc := "(I)I" } : Jvm.MethodName)) ∈ kw_tbl := kts_6 (i := 72) rfl rfl
set_option maxRecDepth 100000 in
theorem kt_1273 : (Jvm.Cond.code ({ cls := "SafeSweepsModel", name := "share", desc := "(I)I" } : Jvm.MethodName) prog_14_method_47_code (3 : Nat) (Option.some Jvm.ClassFile.FieldType.int)) ∈ kw_tbl := kts_6 (i := 73) rfl rfl
set_option maxRecDepth 100000 in
theorem kt_1274 : (Jvm.Cond.methodLink "SafeSweepsLaw" (100 : Nat) ({ cls := "SafeSweepsModel", name := "count", desc := "(I)I" } : Jvm.MethodName)) ∈ kw_tbl := kts_6 (i := 74) rfl rfl
set_option maxRecDepth 100000 in
theorem kt_1275 : (Jvm.Cond.methodLink "SafeSweepsLaw" (104 : Nat) ({ cls := "SafeSweepsModel", name := "block", desc := "(II)I" } : Jvm.MethodName)) ∈ kw_tbl := kts_6 (i := 75) rfl rfl
set_option maxRecDepth 100000 in
theorem kt_1276 : (Jvm.Cond.instanceMethod ({ cls := "SafeSweepsModel", name := "block", desc := "(II)I" } : Jvm.MethodName)) ∈ kw_tbl := kts_6 (i := 76) rfl rfl
set_option maxRecDepth 100000 in
theorem kt_1277 : (Jvm.Cond.selects "SafeSweepsModel" ({ cls := "SafeSweepsModel", name := "block", desc := "(II)I" } : Jvm.MethodName) ({ cls := "SafeSweepsModel", name := "block", desc := "(II)I" } : Jvm.MethodName)) ∈ kw_tbl := kts_6 (i := 77) rfl rfl
set_option maxRecDepth 100000 in
theorem kt_1278 : (Jvm.Cond.code ({ cls := "SafeSweepsModel", name := "block", desc := "(II)I" } : Jvm.MethodName) prog_14_method_52_code (3 : Nat) (Option.some Jvm.ClassFile.FieldType.int)) ∈ kw_tbl := kts_6 (i := 78) rfl rfl
set_option maxRecDepth 100000 in
theorem kt_1279 : (Jvm.Cond.methodLink "SafeSweepsModel" (319 : Nat) ({ cls := "SafeSweepsModel", name := "usersOf", desc := "(I)I" } : Jvm.MethodName)) ∈ kw_tbl := kts_6 (i := 79) rfl rfl
set_option maxRecDepth 100000 in
theorem kt_1281 : (Jvm.Cond.instanceMethod ({ cls := "SafeSweepsModel", name := "usersOf", desc := "(I)I" } : Jvm.MethodName)) ∈ kw_tbl := kts_6 (i := 81) rfl rfl
set_option maxRecDepth 100000 in
theorem kt_1282 : (Jvm.Cond.code ({ cls := "SafeSweepsModel", name := "usersOf", desc := "(I)I" } : Jvm.MethodName) prog_14_method_51_code (4 : Nat) (Option.some Jvm.ClassFile.FieldType.int)) ∈ kw_tbl := kts_6 (i := 82) rfl rfl
set_option maxRecDepth 100000 in
theorem kt_1283 : (Jvm.Cond.constantLong "SafeSweepsModel" (322 : Nat) (8 : Int64)) ∈ kw_tbl := kts_6 (i := 83) rfl rfl
set_option maxRecDepth 100000 in
theorem kt_1284 : (Jvm.Cond.constantLong "SafeSweepsModel" (324 : Nat) (11 : Int64)) ∈ kw_tbl := kts_6 (i := 84) rfl rfl
set_option maxRecDepth 100000 in
theorem kt_1285 : (Jvm.Cond.methodLink "SafeSweepsLaw" (109 : Nat) ({ cls := "SafeSweepsModel", name := "key", desc := "(I)J" } : Jvm.MethodName)) ∈ kw_tbl := kts_6 (i := 85) rfl rfl
set_option maxRecDepth 100000 in
theorem kt_1286 : (Jvm.Cond.instanceMethod ({ cls := "SafeSweepsModel", name := "key", desc := "(I)J" } : Jvm.MethodName)) ∈ kw_tbl := kts_6 (i := 86) rfl rfl
set_option maxRecDepth 100000 in
theorem kt_1287 : (Jvm.Cond.selects "SafeSweepsModel" ({ cls := "SafeSweepsModel", name := "key", desc := "(I)J" } : Jvm.MethodName) ({ cls := "SafeSweepsModel", name := "key", desc := "(I)J" } : Jvm.MethodName)) ∈ kw_tbl := kts_6 (i := 87) rfl rfl
set_option maxRecDepth 100000 in
theorem kt_1288 : (Jvm.Cond.code ({ cls := "SafeSweepsModel", name := "key", desc := "(I)J" } : Jvm.MethodName) prog_14_method_53_code (2 : Nat) (Option.some Jvm.ClassFile.FieldType.long)) ∈ kw_tbl := kts_6 (i := 88) rfl rfl
set_option maxRecDepth 100000 in
theorem kt_1289 : (Jvm.Cond.methodLink "SafeSweepsLaw" (113 : Nat) ({ cls := "SafeSweepsModel", name := "pack", desc := "(II)I" } : Jvm.MethodName)) ∈ kw_tbl := kts_6 (i := 89) rfl rfl
set_option maxRecDepth 100000 in
theorem kt_1290 : (Jvm.Cond.instanceMethod ({ cls := "SafeSweepsModel", name := "pack", desc := "(II)I" } : Jvm.MethodName)) ∈ kw_tbl := kts_6 (i := 90) rfl rfl
set_option maxRecDepth 100000 in
theorem kt_1291 : (Jvm.Cond.selects "SafeSweepsModel" ({ cls := "SafeSweepsModel", name := "pack", desc := "(II)I" } : Jvm.MethodName) ({ cls := "SafeSweepsModel", name := "pack", desc := "(II)I" } : Jvm.MethodName)) ∈ kw_tbl := kts_6 (i := 91) rfl rfl
set_option maxRecDepth 100000 in
theorem kt_1292 : (Jvm.Cond.code ({ cls := "SafeSweepsModel", name := "pack", desc := "(II)I" } : Jvm.MethodName) prog_14_method_54_code (3 : Nat) (Option.some Jvm.ClassFile.FieldType.int)) ∈ kw_tbl := kts_6 (i := 92) rfl rfl
set_option maxRecDepth 100000 in
theorem kt_1293 : (Jvm.Cond.methodLink "SafeSweepsLaw" (117 : Nat) ({ cls := "SafeSweepsModel", name := "snapshot", desc := "(II)I" } : Jvm.MethodName)) ∈ kw_tbl := kts_6 (i := 93) rfl rfl
set_option maxRecDepth 100000 in
theorem kt_1294 : (Jvm.Cond.instanceMethod ({ cls := "SafeSweepsModel", name := "snapshot", desc := "(II)I" } : Jvm.MethodName)) ∈ kw_tbl := kts_6 (i := 94) rfl rfl
set_option maxRecDepth 100000 in
theorem kt_1295 : (Jvm.Cond.selects "SafeSweepsModel" ({ cls := "SafeSweepsModel", name := "snapshot", desc := "(II)I" } : Jvm.MethodName) ({ cls := "SafeSweepsModel", name := "snapshot", desc := "(II)I" } : Jvm.MethodName)) ∈ kw_tbl := kts_6 (i := 95) rfl rfl
set_option maxRecDepth 100000 in
theorem kt_1296 : (Jvm.Cond.code ({ cls := "SafeSweepsModel", name := "snapshot", desc := "(II)I" } : Jvm.MethodName) prog_14_method_55_code (3 : Nat) (Option.some Jvm.ClassFile.FieldType.int)) ∈ kw_tbl := kts_6 (i := 96) rfl rfl
set_option maxRecDepth 100000 in
theorem kt_1297 : (Jvm.Cond.methodLink "SafeSweepsLaw" (121 : Nat) ({ cls := "SafeSweepsModel", name := "time", desc := "(I)J" } : Jvm.MethodName)) ∈ kw_tbl := kts_6 (i := 97) rfl rfl
set_option maxRecDepth 100000 in
theorem kt_1298 : (Jvm.Cond.instanceMethod ({ cls := "SafeSweepsModel", name := "time", desc := "(I)J" } : Jvm.MethodName)) ∈ kw_tbl := kts_6 (i := 98) rfl rfl
set_option maxRecDepth 100000 in
theorem kt_1299 : (Jvm.Cond.selects "SafeSweepsModel" ({ cls := "SafeSweepsModel", name := "time", desc := "(I)J" } : Jvm.MethodName) ({ cls := "SafeSweepsModel", name := "time", desc := "(I)J" } : Jvm.MethodName)) ∈ kw_tbl := kts_6 (i := 99) rfl rfl
set_option maxRecDepth 100000 in
theorem kt_1300 : (Jvm.Cond.code ({ cls := "SafeSweepsModel", name := "time", desc := "(I)J" } : Jvm.MethodName) prog_14_method_56_code (2 : Nat) (Option.some Jvm.ClassFile.FieldType.long)) ∈ kw_tbl := kts_6 (i := 100) rfl rfl
set_option maxRecDepth 100000 in
theorem kt_1301 : (Jvm.Cond.methodLink "SafeSweepsLaw" (125 : Nat) ({ cls := "SafeSweepsModel", name := "saver", desc := "(II)I" } : Jvm.MethodName)) ∈ kw_tbl := kts_6 (i := 101) rfl rfl
set_option maxRecDepth 100000 in
theorem kt_1302 : (Jvm.Cond.instanceMethod ({ cls := "SafeSweepsModel", name := "saver", desc := "(II)I" } : Jvm.MethodName)) ∈ kw_tbl := kts_6 (i := 102) rfl rfl
set_option maxRecDepth 100000 in
theorem kt_1303 : (Jvm.Cond.selects "SafeSweepsModel" ({ cls := "SafeSweepsModel", name := "saver", desc := "(II)I" } : Jvm.MethodName) ({ cls := "SafeSweepsModel", name := "saver", desc := "(II)I" } : Jvm.MethodName)) ∈ kw_tbl := kts_6 (i := 103) rfl rfl
set_option maxRecDepth 100000 in
theorem kt_1304 : (Jvm.Cond.code ({ cls := "SafeSweepsModel", name := "saver", desc := "(II)I" } : Jvm.MethodName) prog_14_method_57_code (3 : Nat) (Option.some Jvm.ClassFile.FieldType.int)) ∈ kw_tbl := kts_6 (i := 104) rfl rfl
set_option maxRecDepth 100000 in
theorem kt_1305 : (Jvm.Cond.methodLink "SafeSweepsLaw" (129 : Nat) ({ cls := "SafeSweepsModel", name := "swept", desc := "(I)I" } : Jvm.MethodName)) ∈ kw_tbl := kts_6 (i := 105) rfl rfl
set_option maxRecDepth 100000 in
theorem kt_1306 : (Jvm.Cond.instanceMethod ({ cls := "SafeSweepsModel", name := "swept", desc := "(I)I" } : Jvm.MethodName)) ∈ kw_tbl := kts_6 (i := 106) rfl rfl
set_option maxRecDepth 100000 in
theorem kt_1307 : (Jvm.Cond.selects "SafeSweepsModel" ({ cls := "SafeSweepsModel", name := "swept", desc := "(I)I" } : Jvm.MethodName) ({ cls := "SafeSweepsModel", name := "swept", desc := "(I)I" } : Jvm.MethodName)) ∈ kw_tbl := kts_6 (i := 107) rfl rfl
set_option maxRecDepth 100000 in
theorem kt_1308 : (Jvm.Cond.code ({ cls := "SafeSweepsModel", name := "swept", desc := "(I)I" } : Jvm.MethodName) prog_14_method_58_code (2 : Nat) (Option.some Jvm.ClassFile.FieldType.int)) ∈ kw_tbl := kts_6 (i := 108) rfl rfl
set_option maxRecDepth 100000 in
theorem kt_1309 : (Jvm.Cond.methodLink "SafeSweepsLaw" (134 : Nat) ({ cls := "SafeSweepsModel", name := "calendar", desc := "(JI)I" } : Jvm.MethodName)) ∈ kw_tbl := kts_6 (i := 109) rfl rfl
set_option maxRecDepth 100000 in
theorem kt_1310 : (Jvm.Cond.methodLink "SafeSweepsLaw" (96 : Nat) ({ cls := "SafeSweepsModel", name := "follow", desc := "(II)I" } : Jvm.MethodName)) ∈ kw_tbl := kts_6 (i := 110) rfl rfl
set_option maxRecDepth 100000 in
theorem kt_1311 : (Jvm.Cond.instanceMethod ({ cls := "SafeSweepsModel", name := "follow", desc := "(II)I" } : Jvm.MethodName)) ∈ kw_tbl := kts_6 (i := 111) rfl rfl
set_option maxRecDepth 100000 in
theorem kt_1312 : (Jvm.Cond.selects "SafeSweepsModel" ({ cls := "SafeSweepsModel", name := "follow", desc := "(II)I" } : Jvm.MethodName) ({ cls := "SafeSweepsModel", name := "follow", desc := "(II)I" } : Jvm.MethodName)) ∈ kw_tbl := kts_6 (i := 112) rfl rfl
set_option maxRecDepth 100000 in
theorem kt_1313 : (Jvm.Cond.code ({ cls := "SafeSweepsModel", name := "follow", desc := "(II)I" } : Jvm.MethodName) prog_14_method_63_code (3 : Nat) (Option.some Jvm.ClassFile.FieldType.int)) ∈ kw_tbl := kts_6 (i := 113) rfl rfl
set_option maxRecDepth 100000 in
theorem kt_1314 : (Jvm.Cond.methodLink "SafeSweepsModel" (339 : Nat) ({ cls := "SafeSweepsModel", name := "isMirror", desc := "(I)Z" } : Jvm.MethodName)) ∈ kw_tbl := kts_6 (i := 114) rfl rfl
set_option maxRecDepth 100000 in
theorem kt_1316 : (Jvm.Cond.instanceMethod ({ cls := "SafeSweepsModel", name := "isMirror", desc := "(I)Z" } : Jvm.MethodName)) ∈ kw_tbl := kts_6 (i := 116) rfl rfl
set_option maxRecDepth 100000 in
theorem kt_1317 : (Jvm.Cond.code ({ cls := "SafeSweepsModel", name := "isMirror", desc := "(I)Z" } : Jvm.MethodName) prog_14_method_62_code (2 : Nat) (Option.some Jvm.ClassFile.FieldType.boolean)) ∈ kw_tbl := kts_6 (i := 117) rfl rfl
set_option maxRecDepth 100000 in
theorem kt_1318 : (Jvm.Cond.methodLink "SafeSweepsLaw" (143 : Nat) ({ cls := "SafeSweepsModel", name := "has", desc := "(II)Z" } : Jvm.MethodName)) ∈ kw_tbl := kts_6 (i := 118) rfl rfl
set_option maxRecDepth 100000 in
theorem kt_1319 : (Jvm.Cond.instanceMethod ({ cls := "SafeSweepsModel", name := "has", desc := "(II)Z" } : Jvm.MethodName)) ∈ kw_tbl := kts_6 (i := 119) rfl rfl
set_option maxRecDepth 100000 in
theorem kt_1320 : (Jvm.Cond.selects "SafeSweepsModel" ({ cls := "SafeSweepsModel", name := "has", desc := "(II)Z" } : Jvm.MethodName) ({ cls := "SafeSweepsModel", name := "has", desc := "(II)Z" } : Jvm.MethodName)) ∈ kw_tbl := kts_6 (i := 120) rfl rfl
set_option maxRecDepth 100000 in
theorem kt_1321 : (Jvm.Cond.code ({ cls := "SafeSweepsModel", name := "has", desc := "(II)Z" } : Jvm.MethodName) prog_14_method_65_code (3 : Nat) (Option.some Jvm.ClassFile.FieldType.boolean)) ∈ kw_tbl := kts_6 (i := 121) rfl rfl
set_option maxRecDepth 100000 in
theorem kt_1322 : (Jvm.Cond.methodLink "SafeSweepsModel" (342 : Nat) ({ cls := "SafeSweepsModel", name := "mirrorHas", desc := "(III)Z" } : Jvm.MethodName)) ∈ kw_tbl := kts_6 (i := 122) rfl rfl
set_option maxRecDepth 100000 in
theorem kt_1324 : (Jvm.Cond.instanceMethod ({ cls := "SafeSweepsModel", name := "mirrorHas", desc := "(III)Z" } : Jvm.MethodName)) ∈ kw_tbl := kts_6 (i := 124) rfl rfl
set_option maxRecDepth 100000 in
theorem kt_1325 : (Jvm.Cond.code ({ cls := "SafeSweepsModel", name := "mirrorHas", desc := "(III)Z" } : Jvm.MethodName) prog_14_method_64_code (6 : Nat) (Option.some Jvm.ClassFile.FieldType.boolean)) ∈ kw_tbl := kts_6 (i := 125) rfl rfl
set_option maxRecDepth 100000 in
theorem kt_1326 : (Jvm.Cond.methodLink "SafeSweepsLaw" (138 : Nat) ({ cls := "SafeSweepsModel", name := "mirrored", desc := "(II)I" } : Jvm.MethodName)) ∈ kw_tbl := kts_6 (i := 126) rfl rfl
set_option maxRecDepth 100000 in
theorem kt_1327 : (Jvm.Cond.instanceMethod ({ cls := "SafeSweepsModel", name := "mirrored", desc := "(II)I" } : Jvm.MethodName)) ∈ kw_tbl := kts_6 (i := 127) rfl rfl
set_option maxRecDepth 100000 in
theorem kt_1328 : (Jvm.Cond.selects "SafeSweepsModel" ({ cls := "SafeSweepsModel", name := "mirrored", desc := "(II)I" } : Jvm.MethodName) ({ cls := "SafeSweepsModel", name := "mirrored", desc := "(II)I" } : Jvm.MethodName)) ∈ kw_tbl := kts_6 (i := 128) rfl rfl
set_option maxRecDepth 100000 in
theorem kt_1329 : (Jvm.Cond.code ({ cls := "SafeSweepsModel", name := "mirrored", desc := "(II)I" } : Jvm.MethodName) prog_14_method_67_code (5 : Nat) (Option.some Jvm.ClassFile.FieldType.int)) ∈ kw_tbl := kts_6 (i := 129) rfl rfl
set_option maxRecDepth 100000 in
theorem kt_1330 : (Jvm.Cond.methodLink "SafeSweepsModel" (346 : Nat) ({ cls := "SafeSweepsModel", name := "lacks", desc := "(II)Z" } : Jvm.MethodName)) ∈ kw_tbl := kts_6 (i := 130) rfl rfl
set_option maxRecDepth 100000 in
theorem kt_1332 : (Jvm.Cond.instanceMethod ({ cls := "SafeSweepsModel", name := "lacks", desc := "(II)Z" } : Jvm.MethodName)) ∈ kw_tbl := kts_6 (i := 132) rfl rfl
set_option maxRecDepth 100000 in
theorem kt_1333 : (Jvm.Cond.code ({ cls := "SafeSweepsModel", name := "lacks", desc := "(II)Z" } : Jvm.MethodName) prog_14_method_66_code (6 : Nat) (Option.some Jvm.ClassFile.FieldType.boolean)) ∈ kw_tbl := kts_6 (i := 133) rfl rfl
set_option maxRecDepth 100000 in
theorem kt_1334 : (Jvm.Cond.methodLink "SafeSweepsLaw" (147 : Nat) ({ cls := "SafeSweepsModel", name := "audit", desc := "()I" } : Jvm.MethodName)) ∈ kw_tbl := kts_6 (i := 134) rfl rfl
set_option maxRecDepth 100000 in
theorem kt_1335 : (Jvm.Cond.instanceMethod ({ cls := "SafeSweepsModel", name := "audit", desc := "()I" } : Jvm.MethodName)) ∈ kw_tbl := kts_6 (i := 135) rfl rfl
set_option maxRecDepth 100000 in
theorem kt_1336 : (Jvm.Cond.selects "SafeSweepsModel" ({ cls := "SafeSweepsModel", name := "audit", desc := "()I" } : Jvm.MethodName) ({ cls := "SafeSweepsModel", name := "audit", desc := "()I" } : Jvm.MethodName)) ∈ kw_tbl := kts_6 (i := 136) rfl rfl
set_option maxRecDepth 100000 in
theorem kt_1337 : (Jvm.Cond.code ({ cls := "SafeSweepsModel", name := "audit", desc := "()I" } : Jvm.MethodName) prog_14_method_70_code (4 : Nat) (Option.some Jvm.ClassFile.FieldType.int)) ∈ kw_tbl := kts_6 (i := 137) rfl rfl
set_option maxRecDepth 100000 in
theorem kt_1338 : (Jvm.Cond.methodLink "SafeSweepsModel" (349 : Nat) ({ cls := "SafeSweepsModel", name := "wrongPlaces", desc := "()I" } : Jvm.MethodName)) ∈ kw_tbl := kts_6 (i := 138) rfl rfl
set_option maxRecDepth 100000 in
theorem kt_1340 : (Jvm.Cond.instanceMethod ({ cls := "SafeSweepsModel", name := "wrongPlaces", desc := "()I" } : Jvm.MethodName)) ∈ kw_tbl := kts_6 (i := 140) rfl rfl
set_option maxRecDepth 100000 in
theorem kt_1341 : (Jvm.Cond.code ({ cls := "SafeSweepsModel", name := "wrongPlaces", desc := "()I" } : Jvm.MethodName) prog_14_method_69_code (6 : Nat) (Option.some Jvm.ClassFile.FieldType.int)) ∈ kw_tbl := kts_6 (i := 141) rfl rfl
set_option maxRecDepth 100000 in
theorem kt_1342 : (Jvm.Cond.methodLink "SafeSweepsModel" (352 : Nat) ({ cls := "SafeSweepsModel", name := "lostFrom", desc := "(I)I" } : Jvm.MethodName)) ∈ kw_tbl := kts_6 (i := 142) rfl rfl
set_option maxRecDepth 100000 in
theorem kt_1344 : (Jvm.Cond.instanceMethod ({ cls := "SafeSweepsModel", name := "lostFrom", desc := "(I)I" } : Jvm.MethodName)) ∈ kw_tbl := kts_6 (i := 144) rfl rfl
set_option maxRecDepth 100000 in
theorem kt_1345 : (Jvm.Cond.code ({ cls := "SafeSweepsModel", name := "lostFrom", desc := "(I)I" } : Jvm.MethodName) prog_14_method_68_code (4 : Nat) (Option.some Jvm.ClassFile.FieldType.int)) ∈ kw_tbl := kts_6 (i := 145) rfl rfl
set_option maxRecDepth 100000 in
theorem kt_1346 : (Jvm.Cond.constantLong "SafeSweepsLaw" (21 : Nat) (4294967295 : Int64)) ∈ kw_tbl := kts_6 (i := 146) rfl rfl
set_option maxRecDepth 100000 in
theorem ks_0 : Cond.selects "SafeSweeps" ⟨"SafeSweeps", "renewed", "(I)LSafeSweeps$Saver;"⟩ ⟨"SafeSweeps", "renewed", "(I)LSafeSweeps$Saver;"⟩ ∈ kw_tbl := List.mem_filter.mpr ⟨List.mem_of_getElem? (l := lw_tbl) (i := 0) rfl, rfl⟩
set_option maxRecDepth 100000 in
theorem ks_1 : Cond.selects "SafeSweeps" ⟨"SafeSweeps", "saverHere", "(I)LSafeSweeps$Saver;"⟩ ⟨"SafeSweeps", "saverHere", "(I)LSafeSweeps$Saver;"⟩ ∈ kw_tbl := List.mem_filter.mpr ⟨List.mem_of_getElem? (l := lw_tbl) (i := 1) rfl, rfl⟩
set_option maxRecDepth 100000 in
theorem ks_2 : Cond.selects "SafeSweeps" ⟨"SafeSweeps", "saveNew", "(LSafeSweeps$Saver;JI)I"⟩ ⟨"SafeSweeps", "saveNew", "(LSafeSweeps$Saver;JI)I"⟩ ∈ kw_tbl := List.mem_filter.mpr ⟨List.mem_of_getElem? (l := lw_tbl) (i := 2) rfl, rfl⟩
set_option maxRecDepth 100000 in
theorem ks_3 : Cond.selects "SafeSweeps" ⟨"SafeSweeps", "losePower", "()I"⟩ ⟨"SafeSweeps", "losePower", "()I"⟩ ∈ kw_tbl := List.mem_filter.mpr ⟨List.mem_of_getElem? (l := lw_tbl) (i := 3) rfl, rfl⟩
set_option maxRecDepth 100000 in
theorem ks_4 : Cond.selects "SafeSweeps" ⟨"SafeSweeps", "saveFound", "(LSafeSweeps$Saver;I)I"⟩ ⟨"SafeSweeps", "saveFound", "(LSafeSweeps$Saver;I)I"⟩ ∈ kw_tbl := List.mem_filter.mpr ⟨List.mem_of_getElem? (l := lw_tbl) (i := 4) rfl, rfl⟩
set_option maxRecDepth 100000 in
theorem ks_5 : Cond.selects "SafeSweeps" ⟨"SafeSweeps", "takeFor", "(LSafeSweeps$Saver;I)I"⟩ ⟨"SafeSweeps", "takeFor", "(LSafeSweeps$Saver;I)I"⟩ ∈ kw_tbl := List.mem_filter.mpr ⟨List.mem_of_getElem? (l := lw_tbl) (i := 5) rfl, rfl⟩
set_option maxRecDepth 100000 in
theorem ks_6 : Cond.selects "SafeSweeps" ⟨"SafeSweeps", "snapshotsThere", "()I"⟩ ⟨"SafeSweeps", "snapshotsThere", "()I"⟩ ∈ kw_tbl := List.mem_filter.mpr ⟨List.mem_of_getElem? (l := lw_tbl) (i := 6) rfl, rfl⟩
set_option maxRecDepth 100000 in
theorem ks_7 : Cond.selects "SafeSweeps" ⟨"SafeSweeps", "snapshotIsThere", "(I)Z"⟩ ⟨"SafeSweeps", "snapshotIsThere", "(I)Z"⟩ ∈ kw_tbl := List.mem_filter.mpr ⟨List.mem_of_getElem? (l := lw_tbl) (i := 7) rfl, rfl⟩
set_option maxRecDepth 100000 in
theorem ks_8 : Cond.selects "SafeSweeps" ⟨"SafeSweeps", "removeSnapshot", "(I)Z"⟩ ⟨"SafeSweeps", "removeSnapshot", "(I)Z"⟩ ∈ kw_tbl := List.mem_filter.mpr ⟨List.mem_of_getElem? (l := lw_tbl) (i := 8) rfl, rfl⟩
set_option maxRecDepth 100000 in
theorem ks_9 : Cond.selects "SafeSweeps" ⟨"SafeSweeps", "snapshotIsUnkept", "(I)Z"⟩ ⟨"SafeSweeps", "snapshotIsUnkept", "(I)Z"⟩ ∈ kw_tbl := List.mem_filter.mpr ⟨List.mem_of_getElem? (l := lw_tbl) (i := 9) rfl, rfl⟩
set_option maxRecDepth 100000 in
theorem ks_10 : Cond.selects "SafeSweeps" ⟨"SafeSweeps", "lineUpOrDismiss", "(LSafeSweeps$Saver;)V"⟩ ⟨"SafeSweeps", "lineUpOrDismiss", "(LSafeSweeps$Saver;)V"⟩ ∈ kw_tbl := List.mem_filter.mpr ⟨List.mem_of_getElem? (l := lw_tbl) (i := 10) rfl, rfl⟩
set_option maxRecDepth 100000 in
theorem ks_11 : Cond.selects "SafeSweeps" ⟨"SafeSweeps", "saversHere", "()I"⟩ ⟨"SafeSweeps", "saversHere", "()I"⟩ ∈ kw_tbl := List.mem_filter.mpr ⟨List.mem_of_getElem? (l := lw_tbl) (i := 11) rfl, rfl⟩
set_option maxRecDepth 100000 in
theorem ks_12 : Cond.selects "SafeSweeps" ⟨"SafeSweeps", "saversThatUse", "(I)I"⟩ ⟨"SafeSweeps", "saversThatUse", "(I)I"⟩ ∈ kw_tbl := List.mem_filter.mpr ⟨List.mem_of_getElem? (l := lw_tbl) (i := 12) rfl, rfl⟩
set_option maxRecDepth 100000 in
theorem ks_13 : Cond.selects "SafeSweeps" ⟨"SafeSweeps", "brokenSnapshots", "(LSafeSweeps$Mirror;)I"⟩ ⟨"SafeSweeps", "brokenSnapshots", "(LSafeSweeps$Mirror;)I"⟩ ∈ kw_tbl := List.mem_filter.mpr ⟨List.mem_of_getElem? (l := lw_tbl) (i := 13) rfl, rfl⟩
set_option maxRecDepth 100000 in
theorem ks_14 : Cond.selects "SafeSweeps" ⟨"SafeSweeps", "reachedButFreed", "()I"⟩ ⟨"SafeSweeps", "reachedButFreed", "()I"⟩ ∈ kw_tbl := List.mem_filter.mpr ⟨List.mem_of_getElem? (l := lw_tbl) (i := 14) rfl, rfl⟩
set_option maxRecDepth 100000 in
theorem ks_15 : Cond.selects "SafeSweepsModel" ⟨"SafeSweepsModel", "counted", "(I)I"⟩ ⟨"SafeSweepsModel", "counted", "(I)I"⟩ ∈ kw_tbl := List.mem_filter.mpr ⟨List.mem_of_getElem? (l := lw_tbl) (i := 15) rfl, rfl⟩
set_option maxRecDepth 100000 in
theorem ks_16 : Cond.selects "SafeSweepsModel" ⟨"SafeSweepsModel", "snapshotsThere", "()I"⟩ ⟨"SafeSweepsModel", "snapshotsThere", "()I"⟩ ∈ kw_tbl := List.mem_filter.mpr ⟨List.mem_of_getElem? (l := lw_tbl) (i := 16) rfl, rfl⟩
set_option maxRecDepth 100000 in
theorem ks_17 : Cond.selects "SafeSweepsModel" ⟨"SafeSweepsModel", "savers", "()I"⟩ ⟨"SafeSweepsModel", "savers", "()I"⟩ ∈ kw_tbl := List.mem_filter.mpr ⟨List.mem_of_getElem? (l := lw_tbl) (i := 17) rfl, rfl⟩
set_option maxRecDepth 100000 in
theorem ks_18 : Cond.selects "SafeSweepsModel" ⟨"SafeSweepsModel", "isSaver", "(I)Z"⟩ ⟨"SafeSweepsModel", "isSaver", "(I)Z"⟩ ∈ kw_tbl := List.mem_filter.mpr ⟨List.mem_of_getElem? (l := lw_tbl) (i := 18) rfl, rfl⟩
set_option maxRecDepth 100000 in
theorem ks_19 : Cond.selects "SafeSweepsModel" ⟨"SafeSweepsModel", "meet", "(I)Z"⟩ ⟨"SafeSweepsModel", "meet", "(I)Z"⟩ ∈ kw_tbl := List.mem_filter.mpr ⟨List.mem_of_getElem? (l := lw_tbl) (i := 19) rfl, rfl⟩
set_option maxRecDepth 100000 in
theorem ks_20 : Cond.selects "SafeSweepsModel" ⟨"SafeSweepsModel", "isDead", "(I)Z"⟩ ⟨"SafeSweepsModel", "isDead", "(I)Z"⟩ ∈ kw_tbl := List.mem_filter.mpr ⟨List.mem_of_getElem? (l := lw_tbl) (i := 20) rfl, rfl⟩
set_option maxRecDepth 100000 in
theorem ks_21 : Cond.selects "SafeSweepsModel" ⟨"SafeSweepsModel", "isBlock", "(I)Z"⟩ ⟨"SafeSweepsModel", "isBlock", "(I)Z"⟩ ∈ kw_tbl := List.mem_filter.mpr ⟨List.mem_of_getElem? (l := lw_tbl) (i := 21) rfl, rfl⟩
set_option maxRecDepth 100000 in
theorem ks_22 : Cond.selects "SafeSweepsModel" ⟨"SafeSweepsModel", "uses", "(II)Z"⟩ ⟨"SafeSweepsModel", "uses", "(II)Z"⟩ ∈ kw_tbl := List.mem_filter.mpr ⟨List.mem_of_getElem? (l := lw_tbl) (i := 22) rfl, rfl⟩
set_option maxRecDepth 100000 in
theorem ks_23 : Cond.selects "SafeSweepsModel" ⟨"SafeSweepsModel", "find", "(IJI)I"⟩ ⟨"SafeSweepsModel", "find", "(IJI)I"⟩ ∈ kw_tbl := List.mem_filter.mpr ⟨List.mem_of_getElem? (l := lw_tbl) (i := 23) rfl, rfl⟩
set_option maxRecDepth 100000 in
theorem ks_24 : Cond.selects "SafeSweepsModel" ⟨"SafeSweepsModel", "taken", "(II)Z"⟩ ⟨"SafeSweepsModel", "taken", "(II)Z"⟩ ∈ kw_tbl := List.mem_filter.mpr ⟨List.mem_of_getElem? (l := lw_tbl) (i := 24) rfl, rfl⟩
set_option maxRecDepth 100000 in
theorem ks_25 : Cond.selects "SafeSweepsModel" ⟨"SafeSweepsModel", "reachFrom", "(I)V"⟩ ⟨"SafeSweepsModel", "reachFrom", "(I)V"⟩ ∈ kw_tbl := List.mem_filter.mpr ⟨List.mem_of_getElem? (l := lw_tbl) (i := 25) rfl, rfl⟩
set_option maxRecDepth 100000 in
theorem ks_26 : Cond.selects "SafeSweepsModel" ⟨"SafeSweepsModel", "write", "()Z"⟩ ⟨"SafeSweepsModel", "write", "()Z"⟩ ∈ kw_tbl := List.mem_filter.mpr ⟨List.mem_of_getElem? (l := lw_tbl) (i := 26) rfl, rfl⟩
set_option maxRecDepth 100000 in
theorem ks_27 : Cond.selects "SafeSweepsModel" ⟨"SafeSweepsModel", "use", "(II)V"⟩ ⟨"SafeSweepsModel", "use", "(II)V"⟩ ∈ kw_tbl := List.mem_filter.mpr ⟨List.mem_of_getElem? (l := lw_tbl) (i := 27) rfl, rfl⟩
set_option maxRecDepth 100000 in
theorem ks_28 : Cond.selects "SafeSweepsModel" ⟨"SafeSweepsModel", "fitsLatest", "(I)Z"⟩ ⟨"SafeSweepsModel", "fitsLatest", "(I)Z"⟩ ∈ kw_tbl := List.mem_filter.mpr ⟨List.mem_of_getElem? (l := lw_tbl) (i := 28) rfl, rfl⟩
set_option maxRecDepth 100000 in
theorem ks_29 : Cond.selects "SafeSweepsModel" ⟨"SafeSweepsModel", "made", "(IJI)I"⟩ ⟨"SafeSweepsModel", "made", "(IJI)I"⟩ ∈ kw_tbl := List.mem_filter.mpr ⟨List.mem_of_getElem? (l := lw_tbl) (i := 29) rfl, rfl⟩
set_option maxRecDepth 100000 in
theorem ks_30 : Cond.selects "SafeSweepsModel" ⟨"SafeSweepsModel", "tell", "(II)V"⟩ ⟨"SafeSweepsModel", "tell", "(II)V"⟩ ∈ kw_tbl := List.mem_filter.mpr ⟨List.mem_of_getElem? (l := lw_tbl) (i := 30) rfl, rfl⟩
set_option maxRecDepth 100000 in
theorem ks_31 : Cond.selects "SafeSweepsModel" ⟨"SafeSweepsModel", "isSnapshot", "(I)Z"⟩ ⟨"SafeSweepsModel", "isSnapshot", "(I)Z"⟩ ∈ kw_tbl := List.mem_filter.mpr ⟨List.mem_of_getElem? (l := lw_tbl) (i := 31) rfl, rfl⟩
set_option maxRecDepth 100000 in
theorem ks_32 : Cond.selects "SafeSweepsModel" ⟨"SafeSweepsModel", "goes", "(I)Z"⟩ ⟨"SafeSweepsModel", "goes", "(I)Z"⟩ ∈ kw_tbl := List.mem_filter.mpr ⟨List.mem_of_getElem? (l := lw_tbl) (i := 32) rfl, rfl⟩
set_option maxRecDepth 100000 in
theorem ks_33 : Cond.selects "SafeSweepsModel" ⟨"SafeSweepsModel", "keptBy", "(I)I"⟩ ⟨"SafeSweepsModel", "keptBy", "(I)I"⟩ ∈ kw_tbl := List.mem_filter.mpr ⟨List.mem_of_getElem? (l := lw_tbl) (i := 33) rfl, rfl⟩
set_option maxRecDepth 100000 in
theorem ks_34 : Cond.selects "SafeSweepsModel" ⟨"SafeSweepsModel", "behind", "(I)I"⟩ ⟨"SafeSweepsModel", "behind", "(I)I"⟩ ∈ kw_tbl := List.mem_filter.mpr ⟨List.mem_of_getElem? (l := lw_tbl) (i := 34) rfl, rfl⟩
set_option maxRecDepth 100000 in
theorem ks_35 : Cond.selects "SafeSweepsModel" ⟨"SafeSweepsModel", "spanKeeps", "(II)Z"⟩ ⟨"SafeSweepsModel", "spanKeeps", "(II)Z"⟩ ∈ kw_tbl := List.mem_filter.mpr ⟨List.mem_of_getElem? (l := lw_tbl) (i := 35) rfl, rfl⟩
set_option maxRecDepth 100000 in
theorem ks_36 : Cond.selects "SafeSweepsModel" ⟨"SafeSweepsModel", "spanOf", "(JI)J"⟩ ⟨"SafeSweepsModel", "spanOf", "(JI)J"⟩ ∈ kw_tbl := List.mem_filter.mpr ⟨List.mem_of_getElem? (l := lw_tbl) (i := 36) rfl, rfl⟩
set_option maxRecDepth 100000 in
theorem ks_37 : Cond.selects "SafeSweepsModel" ⟨"SafeSweepsModel", "push", "(I)V"⟩ ⟨"SafeSweepsModel", "push", "(I)V"⟩ ∈ kw_tbl := List.mem_filter.mpr ⟨List.mem_of_getElem? (l := lw_tbl) (i := 37) rfl, rfl⟩
set_option maxRecDepth 100000 in
theorem ks_38 : Cond.selects "SafeSweepsModel" ⟨"SafeSweepsModel", "settle", "()V"⟩ ⟨"SafeSweepsModel", "settle", "()V"⟩ ∈ kw_tbl := List.mem_filter.mpr ⟨List.mem_of_getElem? (l := lw_tbl) (i := 38) rfl, rfl⟩
set_option maxRecDepth 100000 in
theorem ks_39 : Cond.selects "SafeSweepsModel" ⟨"SafeSweepsModel", "mark", "()V"⟩ ⟨"SafeSweepsModel", "mark", "()V"⟩ ∈ kw_tbl := List.mem_filter.mpr ⟨List.mem_of_getElem? (l := lw_tbl) (i := 39) rfl, rfl⟩
set_option maxRecDepth 100000 in
theorem ks_40 : Cond.selects "SafeSweepsModel" ⟨"SafeSweepsModel", "clear", "()Z"⟩ ⟨"SafeSweepsModel", "clear", "()Z"⟩ ∈ kw_tbl := List.mem_filter.mpr ⟨List.mem_of_getElem? (l := lw_tbl) (i := 40) rfl, rfl⟩
set_option maxRecDepth 100000 in
theorem ks_41 : Cond.selects "SafeSweepsModel" ⟨"SafeSweepsModel", "choose", "()Z"⟩ ⟨"SafeSweepsModel", "choose", "()Z"⟩ ∈ kw_tbl := List.mem_filter.mpr ⟨List.mem_of_getElem? (l := lw_tbl) (i := 41) rfl, rfl⟩
set_option maxRecDepth 100000 in
theorem ks_42 : Cond.selects "SafeSweepsModel" ⟨"SafeSweepsModel", "packStep", "()Z"⟩ ⟨"SafeSweepsModel", "packStep", "()Z"⟩ ∈ kw_tbl := List.mem_filter.mpr ⟨List.mem_of_getElem? (l := lw_tbl) (i := 42) rfl, rfl⟩
set_option maxRecDepth 100000 in
theorem ks_43 : Cond.selects "SafeSweepsModel" ⟨"SafeSweepsModel", "bytesIn", "(I)I"⟩ ⟨"SafeSweepsModel", "bytesIn", "(I)I"⟩ ∈ kw_tbl := List.mem_filter.mpr ⟨List.mem_of_getElem? (l := lw_tbl) (i := 43) rfl, rfl⟩
set_option maxRecDepth 100000 in
theorem ks_44 : Cond.selects "SafeSweepsModel" ⟨"SafeSweepsModel", "blocksIn", "(I)I"⟩ ⟨"SafeSweepsModel", "blocksIn", "(I)I"⟩ ∈ kw_tbl := List.mem_filter.mpr ⟨List.mem_of_getElem? (l := lw_tbl) (i := 44) rfl, rfl⟩
set_option maxRecDepth 100000 in
theorem ks_45 : Cond.selects "SafeSweepsModel" ⟨"SafeSweepsModel", "plan", "(II)I"⟩ ⟨"SafeSweepsModel", "plan", "(II)I"⟩ ∈ kw_tbl := List.mem_filter.mpr ⟨List.mem_of_getElem? (l := lw_tbl) (i := 45) rfl, rfl⟩
set_option maxRecDepth 100000 in
theorem ks_46 : Cond.selects "SafeSweepsModel" ⟨"SafeSweepsModel", "usersOf", "(I)I"⟩ ⟨"SafeSweepsModel", "usersOf", "(I)I"⟩ ∈ kw_tbl := List.mem_filter.mpr ⟨List.mem_of_getElem? (l := lw_tbl) (i := 46) rfl, rfl⟩
set_option maxRecDepth 100000 in
theorem ks_47 : Cond.selects "SafeSweepsModel" ⟨"SafeSweepsModel", "isMirror", "(I)Z"⟩ ⟨"SafeSweepsModel", "isMirror", "(I)Z"⟩ ∈ kw_tbl := List.mem_filter.mpr ⟨List.mem_of_getElem? (l := lw_tbl) (i := 47) rfl, rfl⟩
set_option maxRecDepth 100000 in
theorem ks_48 : Cond.selects "SafeSweepsModel" ⟨"SafeSweepsModel", "mirrorHas", "(III)Z"⟩ ⟨"SafeSweepsModel", "mirrorHas", "(III)Z"⟩ ∈ kw_tbl := List.mem_filter.mpr ⟨List.mem_of_getElem? (l := lw_tbl) (i := 48) rfl, rfl⟩
set_option maxRecDepth 100000 in
theorem ks_49 : Cond.selects "SafeSweepsModel" ⟨"SafeSweepsModel", "lacks", "(II)Z"⟩ ⟨"SafeSweepsModel", "lacks", "(II)Z"⟩ ∈ kw_tbl := List.mem_filter.mpr ⟨List.mem_of_getElem? (l := lw_tbl) (i := 49) rfl, rfl⟩
set_option maxRecDepth 100000 in
theorem ks_50 : Cond.selects "SafeSweepsModel" ⟨"SafeSweepsModel", "wrongPlaces", "()I"⟩ ⟨"SafeSweepsModel", "wrongPlaces", "()I"⟩ ∈ kw_tbl := List.mem_filter.mpr ⟨List.mem_of_getElem? (l := lw_tbl) (i := 50) rfl, rfl⟩
set_option maxRecDepth 100000 in
theorem ks_51 : Cond.selects "SafeSweepsModel" ⟨"SafeSweepsModel", "lostFrom", "(I)I"⟩ ⟨"SafeSweepsModel", "lostFrom", "(I)I"⟩ ∈ kw_tbl := List.mem_filter.mpr ⟨List.mem_of_getElem? (l := lw_tbl) (i := 51) rfl, rfl⟩
