/-! CONSTRUCTORS -/
theorem nmc_o {key : KK} {ci : Nat} {fs : List PV} (h : kw_all (kw_nmv key) fs) : kw_nmc key (.inr (ci, fs)) := by
  show ∀ v ∈ fs, kw_nmv key v
  induction fs with
  | nil => intro v hv; cases hv
  | cons a t ih =>
    intro v hv
    rcases List.mem_cons.mp hv with e | e
    · rw [e]; exact h.1
    · exact ih h.2 v e
theorem nm_f (C : String) (N a n : Nat) {key : KK} (h : key.1 ≠ a) : kw_nmc key (ro2_ C N (fun i => if i < n then some (a, i) else none)) := by
  intro j _ q
  have q : (if j < n then some ((a, j) : KK) else none) = some key := q
  split at q
  · cases q; exact h rfl
  · cases q
theorem kw_ad2 {h : PH} {ad : KK → Nat} {a k : KK} {x : Nat} (ha : h a = none) (hk : h k ≠ none) : kw_ad ad a x k = ad k := kw_ad_n ad x (fun e => hk (by rw [e]; exact ha))
set_option maxHeartbeats 4000000 in
set_option maxRecDepth 100000 in
theorem i_journal (l : Launch) (h : PH) (q a b : KK)  (nqa : q ≠ a) (nqb : q ≠ b) (nab : a ≠ b) (hq : h q = some (.inr (1, [pn_, pn_, pi_ 0, pi_ 0, pi_ 0, pi_ 0]))) (ha : h a = none) (ma : ∀ k9 c9, h k9 = some c9 → kw_nmc a c9) (hb : h b = none) (mb : ∀ k9 c9, h k9 = some c9 → kw_nmc b c9) : kw_Q l yX2_init cX2_init 1 (Option.none : Option Jvm.ClassFile.FieldType) { frames := 1, cells := 2, slots := 480, locals := 20 } [pr_ q] h (fun r h' => r = none ∧ h' = (kw_up (kw_up (kw_up h a (ri_ 240 (fun _ => 0))) b (ri_ 240 (fun _ => 0))) q (.inr (1, [pr_ a, pr_ b, pi_ 0, pi_ 0, pi_ (-1), pi_ 0])))) := by
  refine kw_M_of RX2 "<init>" [some (pr_ q)] (by decide) rfl rfl rfl (Nat.le_of_ble_eq_true rfl) ?_
  intro D ad A
  refine kw_Kgen (fun K hK => ?_)
  refine kw_aload_n dX2_init_0 rfl ?_
  refine kw_objInit dX2_init_1 kt_30 kt_23 kt_24 (Nat.le_of_ble_eq_true rfl) (Nat.le_of_ble_eq_true rfl) ?_
  refine kw_aload_n dX2_init_4 rfl ?_
  refine kw_sipush (v := 240) dX2_init_5 (by decide) ?_
  refine kw_newarr (N := 240) (x := .inl (fun _ => 0)) a dX2_init_8 rfl kt_57 (fun _ _ => rfl) (by decide) (by decide) (by decide) (fun _ _ h9 => h9) ha ma (by simp only [kw_all, kw_nmo, kw_nmv, kw_set1, kw_set2, kw_keep]; repeat' first | assumption | trivial | apply And.intro) (by simp only [kw_all, kw_nmo, kw_nmv, kw_set1, kw_set2, kw_keep]; repeat' first | assumption | trivial | apply And.intro) (Nat.le_of_ble_eq_true rfl) (Nat.le_of_ble_eq_true rfl) (fun a9 => ?_)
  refine kw_putF dX2_init_10 fl_X2_11 rfl (fun _ _ _ h9 => by cases h9; rfl) ((kw_up_n _ _ (by first | assumption | (apply Ne.symm; assumption))).trans hq) (kw_ok_a _ _) (Nat.le_of_ble_eq_true rfl) ?_
  refine kw_aload_n dX2_init_13 rfl ?_
  refine kw_sipush (v := 240) dX2_init_14 (by decide) ?_
  refine kw_newarr (N := 240) (x := .inl (fun _ => 0)) b dX2_init_17 rfl kt_57 (fun _ _ => rfl) (by decide) (by decide) (by decide) (fun _ _ h9 => h9) ((kw_up_n _ _ (by first | assumption | (apply Ne.symm; assumption))).trans ((kw_up_n _ _ (by first | assumption | (apply Ne.symm; assumption))).trans hb)) (kw_nm_up (kw_nm_up mb trivial) (nmc_o ⟨nab, trivial, trivial, trivial, trivial, trivial, trivial⟩)) (by simp only [kw_all, kw_nmo, kw_nmv, kw_set1, kw_set2, kw_keep]; repeat' first | assumption | trivial | apply And.intro) (by simp only [kw_all, kw_nmo, kw_nmv, kw_set1, kw_set2, kw_keep]; repeat' first | assumption | trivial | apply And.intro) (Nat.le_of_ble_eq_true rfl) (Nat.le_of_ble_eq_true rfl) (fun a9 => ?_)
  refine kw_putF dX2_init_19 fl_X2_15 rfl (fun _ _ _ h9 => by cases h9; rfl) ((kw_up_n _ _ (by first | assumption | (apply Ne.symm; assumption))).trans (kw_up_s _ _ _)) (kw_ok_a _ _) (Nat.le_of_ble_eq_true rfl) ?_
  rw [kw_up3 _ (show q ≠ b by assumption)]
  refine kw_aload_n dX2_init_22 rfl ?_
  refine kw_iconst (v := (-1)) dX2_init_23 (by decide) ?_
  refine kw_put dX2_init_24 fl_X2_18 (kw_up_s _ _ _) (kw_ok_i _) (Nat.le_of_ble_eq_true rfl) ?_
  rw [kw_up2]
  exact kw_vret dX2_init_27 rfl (Nat.le_of_ble_eq_true rfl) (Nat.le_of_ble_eq_true rfl) (hK _ _ _ ⟨fun k hk => by rw [kw_ad2 (h := h) hb hk, kw_ad2 (h := h) ha hk], rfl, rfl⟩)
set_option maxHeartbeats 4000000 in
set_option maxRecDepth 100000 in
theorem i_mirror (l : Launch) (h : PH) (q a b : KK)  (nqa : q ≠ a) (nqb : q ≠ b) (nab : a ≠ b) (hq : h q = some (.inr (2, [pn_, pn_, pi_ 0]))) (ha : h a = none) (ma : ∀ k9 c9, h k9 = some c9 → kw_nmc a c9) (hb : h b = none) (mb : ∀ k9 c9, h k9 = some c9 → kw_nmc b c9) : kw_Q l yX3_init cX3_init 1 (Option.none : Option Jvm.ClassFile.FieldType) { frames := 1, cells := 2, slots := 120, locals := 20 } [pr_ q] h (fun r h' => r = none ∧ h' = (kw_up (kw_up (kw_up h a (rb_ 80 (fun _ => false))) b (rb_ 40 (fun _ => false))) q (.inr (2, [pr_ a, pr_ b, pi_ 0])))) := by
  refine kw_M_of RX3 "<init>" [some (pr_ q)] (by decide) rfl rfl rfl (Nat.le_of_ble_eq_true rfl) ?_
  intro D ad A
  refine kw_Kgen (fun K hK => ?_)
  refine kw_aload_n dX3_init_0 rfl ?_
  refine kw_objInit dX3_init_1 kt_251 kt_23 kt_24 (Nat.le_of_ble_eq_true rfl) (Nat.le_of_ble_eq_true rfl) ?_
  refine kw_aload_n dX3_init_4 rfl ?_
  refine kw_bipush (v := 80) dX3_init_5 (by decide) ?_
  refine kw_newarr (N := 80) (x := .inl (fun _ => 0)) a dX3_init_7 rfl kt_121 (fun _ _ => rfl) (by decide) (by decide) (by decide) (fun _ _ h9 => h9) ha ma (by simp only [kw_all, kw_nmo, kw_nmv, kw_set1, kw_set2, kw_keep]; repeat' first | assumption | trivial | apply And.intro) (by simp only [kw_all, kw_nmo, kw_nmv, kw_set1, kw_set2, kw_keep]; repeat' first | assumption | trivial | apply And.intro) (Nat.le_of_ble_eq_true rfl) (Nat.le_of_ble_eq_true rfl) (fun a9 => ?_)
  refine kw_putF dX3_init_9 fl_X3_9 rfl (fun _ _ _ h9 => by cases h9; rfl) ((kw_up_n _ _ (by first | assumption | (apply Ne.symm; assumption))).trans hq) (kw_ok_a _ _) (Nat.le_of_ble_eq_true rfl) ?_
  refine kw_aload_n dX3_init_12 rfl ?_
  refine kw_bipush (v := 40) dX3_init_13 (by decide) ?_
  refine kw_newarr (N := 40) (x := .inl (fun _ => 0)) b dX3_init_15 rfl kt_121 (fun _ _ => rfl) (by decide) (by decide) (by decide) (fun _ _ h9 => h9) ((kw_up_n _ _ (by first | assumption | (apply Ne.symm; assumption))).trans ((kw_up_n _ _ (by first | assumption | (apply Ne.symm; assumption))).trans hb)) (kw_nm_up (kw_nm_up mb trivial) (nmc_o ⟨nab, trivial, trivial, trivial⟩)) (by simp only [kw_all, kw_nmo, kw_nmv, kw_set1, kw_set2, kw_keep]; repeat' first | assumption | trivial | apply And.intro) (by simp only [kw_all, kw_nmo, kw_nmv, kw_set1, kw_set2, kw_keep]; repeat' first | assumption | trivial | apply And.intro) (Nat.le_of_ble_eq_true rfl) (Nat.le_of_ble_eq_true rfl) (fun a9 => ?_)
  refine kw_putF dX3_init_17 fl_X3_15 rfl (fun _ _ _ h9 => by cases h9; rfl) ((kw_up_n _ _ (by first | assumption | (apply Ne.symm; assumption))).trans (kw_up_s _ _ _)) (kw_ok_a _ _) (Nat.le_of_ble_eq_true rfl) ?_
  rw [kw_up3 _ (show q ≠ b by assumption)]
  exact kw_vret dX3_init_20 rfl (Nat.le_of_ble_eq_true rfl) (Nat.le_of_ble_eq_true rfl) (hK _ _ _ ⟨fun k hk => by rw [kw_ad2 (h := h) hb hk, kw_ad2 (h := h) ha hk], rfl, rfl⟩)
set_option maxHeartbeats 4000000 in
set_option maxRecDepth 100000 in
theorem i_mover (l : Launch) (h : PH) (q a b c : KK) (u v : KK) (nqa : q ≠ a) (nqb : q ≠ b) (nqc : q ≠ c) (nab : a ≠ b) (nac : a ≠ c) (nbc : b ≠ c) (nua : u ≠ a) (nub : u ≠ b) (nuc : u ≠ c) (nva : v ≠ a) (nvb : v ≠ b) (nvc : v ≠ c) (hq : h q = some (.inr (3, [pn_, pn_, pn_, pn_, pn_, pi_ 0]))) (ha : h a = none) (ma : ∀ k9 c9, h k9 = some c9 → kw_nmc a c9) (hb : h b = none) (mb : ∀ k9 c9, h k9 = some c9 → kw_nmc b c9) (hc : h c = none) (mc : ∀ k9 c9, h k9 = some c9 → kw_nmc c c9) : kw_Q l yX4_init cX4_init 3 (Option.none : Option Jvm.ClassFile.FieldType) { frames := 1, cells := 3, slots := 240, locals := 20 } [pr_ q, pr_ u, pr_ v] h (fun r h' => r = none ∧ h' = (kw_up (kw_up (kw_up (kw_up h a (ri_ 80 (fun _ => 0))) b (ri_ 80 (fun _ => 0))) c (ri_ 80 (fun _ => 0))) q (.inr (3, [pr_ u, pr_ v, pr_ a, pr_ b, pr_ c, pi_ 0])))) := by
  refine kw_M_of RX4 "<init>" [some (pr_ q), some (pr_ u), some (pr_ v)] (by decide) rfl rfl rfl (Nat.le_of_ble_eq_true rfl) ?_
  intro D ad A
  refine kw_Kgen (fun K hK => ?_)
  refine kw_aload_n dX4_init_0 rfl ?_
  refine kw_objInit dX4_init_1 kt_133 kt_23 kt_24 (Nat.le_of_ble_eq_true rfl) (Nat.le_of_ble_eq_true rfl) ?_
  refine kw_aload_n dX4_init_4 rfl ?_
  refine kw_bipush (v := 80) dX4_init_5 (by decide) ?_
  refine kw_newarr (N := 80) (x := .inl (fun _ => 0)) a dX4_init_7 rfl kt_57 (fun _ _ => rfl) (by decide) (by decide) (by decide) (fun _ _ h9 => h9) ha ma (by simp only [kw_all, kw_nmo, kw_nmv, kw_set1, kw_set2, kw_keep]; repeat' first | assumption | trivial | apply And.intro) (by simp only [kw_all, kw_nmo, kw_nmv, kw_set1, kw_set2, kw_keep]; repeat' first | assumption | trivial | apply And.intro) (Nat.le_of_ble_eq_true rfl) (Nat.le_of_ble_eq_true rfl) (fun a9 => ?_)
  refine kw_putF dX4_init_9 fl_X4_9 rfl (fun _ _ _ h9 => by cases h9; rfl) ((kw_up_n _ _ (by first | assumption | (apply Ne.symm; assumption))).trans hq) (kw_ok_a _ _) (Nat.le_of_ble_eq_true rfl) ?_
  refine kw_aload_n dX4_init_12 rfl ?_
  refine kw_bipush (v := 80) dX4_init_13 (by decide) ?_
  refine kw_newarr (N := 80) (x := .inl (fun _ => 0)) b dX4_init_15 rfl kt_57 (fun _ _ => rfl) (by decide) (by decide) (by decide) (fun _ _ h9 => h9) ((kw_up_n _ _ (by first | assumption | (apply Ne.symm; assumption))).trans ((kw_up_n _ _ (by first | assumption | (apply Ne.symm; assumption))).trans hb)) (kw_nm_up (kw_nm_up mb trivial) (nmc_o ⟨trivial, trivial, nab, trivial, trivial, trivial, trivial⟩)) (by simp only [kw_all, kw_nmo, kw_nmv, kw_set1, kw_set2, kw_keep]; repeat' first | assumption | trivial | apply And.intro) (by simp only [kw_all, kw_nmo, kw_nmv, kw_set1, kw_set2, kw_keep]; repeat' first | assumption | trivial | apply And.intro) (Nat.le_of_ble_eq_true rfl) (Nat.le_of_ble_eq_true rfl) (fun a9 => ?_)
  refine kw_putF dX4_init_17 fl_X4_15 rfl (fun _ _ _ h9 => by cases h9; rfl) ((kw_up_n _ _ (by first | assumption | (apply Ne.symm; assumption))).trans (kw_up_s _ _ _)) (kw_ok_a _ _) (Nat.le_of_ble_eq_true rfl) ?_
  rw [kw_up3 _ (show q ≠ b by assumption)]
  refine kw_aload_n dX4_init_20 rfl ?_
  refine kw_bipush (v := 80) dX4_init_21 (by decide) ?_
  refine kw_newarr (N := 80) (x := .inl (fun _ => 0)) c dX4_init_23 rfl kt_57 (fun _ _ => rfl) (by decide) (by decide) (by decide) (fun _ _ h9 => h9) ((kw_up_n _ _ (by first | assumption | (apply Ne.symm; assumption))).trans ((kw_up_n _ _ (by first | assumption | (apply Ne.symm; assumption))).trans ((kw_up_n _ _ (by first | assumption | (apply Ne.symm; assumption))).trans hc))) (kw_nm_up (kw_nm_up (kw_nm_up mc trivial) trivial) (nmc_o ⟨trivial, trivial, nac, nbc, trivial, trivial, trivial⟩)) (by simp only [kw_all, kw_nmo, kw_nmv, kw_set1, kw_set2, kw_keep]; repeat' first | assumption | trivial | apply And.intro) (by simp only [kw_all, kw_nmo, kw_nmv, kw_set1, kw_set2, kw_keep]; repeat' first | assumption | trivial | apply And.intro) (Nat.le_of_ble_eq_true rfl) (Nat.le_of_ble_eq_true rfl) (fun a9 => ?_)
  refine kw_putF dX4_init_25 fl_X4_18 rfl (fun _ _ _ h9 => by cases h9; rfl) ((kw_up_n _ _ (by first | assumption | (apply Ne.symm; assumption))).trans (kw_up_s _ _ _)) (kw_ok_a _ _) (Nat.le_of_ble_eq_true rfl) ?_
  rw [kw_up3 _ (show q ≠ c by assumption)]
  refine kw_aload_n dX4_init_28 rfl ?_
  refine kw_aload_n dX4_init_29 rfl ?_
  refine kw_putF dX4_init_30 fl_X4_21 rfl (fun _ _ _ h9 => by cases h9; rfl) (kw_up_s _ _ _) (kw_ok_o _ _) (Nat.le_of_ble_eq_true rfl) ?_
  rw [kw_up2]
  refine kw_aload_n dX4_init_33 rfl ?_
  refine kw_aload_n dX4_init_34 rfl ?_
  refine kw_putF dX4_init_35 fl_X4_25 rfl (fun _ _ _ h9 => by cases h9; rfl) (kw_up_s _ _ _) (kw_ok_o _ _) (Nat.le_of_ble_eq_true rfl) ?_
  rw [kw_up2]
  exact kw_vret dX4_init_38 rfl (Nat.le_of_ble_eq_true rfl) (Nat.le_of_ble_eq_true rfl) (hK _ _ _ ⟨fun k hk => by rw [kw_ad2 (h := h) hc hk, kw_ad2 (h := h) hb hk, kw_ad2 (h := h) ha hk], rfl, rfl⟩)
set_option maxHeartbeats 4000000 in
set_option maxRecDepth 100000 in
theorem i_rules (l : Launch) (h : PH) (q a b : KK)  (nqa : q ≠ a) (nqb : q ≠ b) (nab : a ≠ b) (hq : h q = some (.inr (5, [pn_, pn_]))) (ha : h a = none) (ma : ∀ k9 c9, h k9 = some c9 → kw_nmc a c9) (hb : h b = none) (mb : ∀ k9 c9, h k9 = some c9 → kw_nmc b c9) : kw_Q l yX6_init cX6_init 1 (Option.none : Option Jvm.ClassFile.FieldType) { frames := 1, cells := 2, slots := 46, locals := 20 } [pr_ q] h (fun r h' => r = none ∧ h' = (kw_up (kw_up (kw_up h a (ri_ 6 (fun _ => 0))) b (ri_ 40 (fun _ => 0))) q (.inr (5, [pr_ a, pr_ b])))) := by
  refine kw_M_of RX6 "<init>" [some (pr_ q)] (by decide) rfl rfl rfl (Nat.le_of_ble_eq_true rfl) ?_
  intro D ad A
  refine kw_Kgen (fun K hK => ?_)
  refine kw_aload_n dX6_init_0 rfl ?_
  refine kw_objInit dX6_init_1 kt_199 kt_23 kt_24 (Nat.le_of_ble_eq_true rfl) (Nat.le_of_ble_eq_true rfl) ?_
  refine kw_aload_n dX6_init_4 rfl ?_
  refine kw_bipush (v := 6) dX6_init_5 (by decide) ?_
  refine kw_newarr (N := 6) (x := .inl (fun _ => 0)) a dX6_init_7 rfl kt_57 (fun _ _ => rfl) (by decide) (by decide) (by decide) (fun _ _ h9 => h9) ha ma (by simp only [kw_all, kw_nmo, kw_nmv, kw_set1, kw_set2, kw_keep]; repeat' first | assumption | trivial | apply And.intro) (by simp only [kw_all, kw_nmo, kw_nmv, kw_set1, kw_set2, kw_keep]; repeat' first | assumption | trivial | apply And.intro) (Nat.le_of_ble_eq_true rfl) (Nat.le_of_ble_eq_true rfl) (fun a9 => ?_)
  refine kw_putF dX6_init_9 fl_X6_9 rfl (fun _ _ _ h9 => by cases h9; rfl) ((kw_up_n _ _ (by first | assumption | (apply Ne.symm; assumption))).trans hq) (kw_ok_a _ _) (Nat.le_of_ble_eq_true rfl) ?_
  refine kw_aload_n dX6_init_12 rfl ?_
  refine kw_bipush (v := 40) dX6_init_13 (by decide) ?_
  refine kw_newarr (N := 40) (x := .inl (fun _ => 0)) b dX6_init_15 rfl kt_57 (fun _ _ => rfl) (by decide) (by decide) (by decide) (fun _ _ h9 => h9) ((kw_up_n _ _ (by first | assumption | (apply Ne.symm; assumption))).trans ((kw_up_n _ _ (by first | assumption | (apply Ne.symm; assumption))).trans hb)) (kw_nm_up (kw_nm_up mb trivial) (nmc_o ⟨nab, trivial, trivial⟩)) (by simp only [kw_all, kw_nmo, kw_nmv, kw_set1, kw_set2, kw_keep]; repeat' first | assumption | trivial | apply And.intro) (by simp only [kw_all, kw_nmo, kw_nmv, kw_set1, kw_set2, kw_keep]; repeat' first | assumption | trivial | apply And.intro) (Nat.le_of_ble_eq_true rfl) (Nat.le_of_ble_eq_true rfl) (fun a9 => ?_)
  refine kw_putF dX6_init_17 fl_X6_15 rfl (fun _ _ _ h9 => by cases h9; rfl) ((kw_up_n _ _ (by first | assumption | (apply Ne.symm; assumption))).trans (kw_up_s _ _ _)) (kw_ok_a _ _) (Nat.le_of_ble_eq_true rfl) ?_
  rw [kw_up3 _ (show q ≠ b by assumption)]
  exact kw_vret dX6_init_20 rfl (Nat.le_of_ble_eq_true rfl) (Nat.le_of_ble_eq_true rfl) (hK _ _ _ ⟨fun k hk => by rw [kw_ad2 (h := h) hb hk, kw_ad2 (h := h) ha hk], rfl, rfl⟩)
set_option maxHeartbeats 4000000 in
set_option maxRecDepth 100000 in
theorem i_saver (l : Launch) (h : PH) (q a b : KK)  (nqa : q ≠ a) (nqb : q ≠ b) (nab : a ≠ b) (hq : h q = some (.inr (6, [pn_, pn_, pi_ 0, pi_ 0, pi_ 0, pl_ 0, pi_ 0]))) (ha : h a = none) (ma : ∀ k9 c9, h k9 = some c9 → kw_nmc a c9) (hb : h b = none) (mb : ∀ k9 c9, h k9 = some c9 → kw_nmc b c9) : kw_Q l yX7_init cX7_init 1 (Option.none : Option Jvm.ClassFile.FieldType) { frames := 1, cells := 2, slots := 12, locals := 20 } [pr_ q] h (fun r h' => r = none ∧ h' = (kw_up (kw_up (kw_up h a (ri_ 8 (fun _ => 0))) b (ri_ 4 (fun _ => 0))) q (.inr (6, [pr_ a, pr_ b, pi_ 0, pi_ 0, pi_ 0, pl_ 0, pi_ 0])))) := by
  refine kw_M_of RX7 "<init>" [some (pr_ q)] (by decide) rfl rfl rfl (Nat.le_of_ble_eq_true rfl) ?_
  intro D ad A
  refine kw_Kgen (fun K hK => ?_)
  refine kw_aload_n dX7_init_0 rfl ?_
  refine kw_objInit dX7_init_1 kt_215 kt_23 kt_24 (Nat.le_of_ble_eq_true rfl) (Nat.le_of_ble_eq_true rfl) ?_
  refine kw_aload_n dX7_init_4 rfl ?_
  refine kw_bipush (v := 8) dX7_init_5 (by decide) ?_
  refine kw_newarr (N := 8) (x := .inl (fun _ => 0)) a dX7_init_7 rfl kt_57 (fun _ _ => rfl) (by decide) (by decide) (by decide) (fun _ _ h9 => h9) ha ma (by simp only [kw_all, kw_nmo, kw_nmv, kw_set1, kw_set2, kw_keep]; repeat' first | assumption | trivial | apply And.intro) (by simp only [kw_all, kw_nmo, kw_nmv, kw_set1, kw_set2, kw_keep]; repeat' first | assumption | trivial | apply And.intro) (Nat.le_of_ble_eq_true rfl) (Nat.le_of_ble_eq_true rfl) (fun a9 => ?_)
  refine kw_putF dX7_init_9 fl_X7_9 rfl (fun _ _ _ h9 => by cases h9; rfl) ((kw_up_n _ _ (by first | assumption | (apply Ne.symm; assumption))).trans hq) (kw_ok_a _ _) (Nat.le_of_ble_eq_true rfl) ?_
  refine kw_aload_n dX7_init_12 rfl ?_
  refine kw_iconst (v := 4) dX7_init_13 (by decide) ?_
  refine kw_newarr (N := 4) (x := .inl (fun _ => 0)) b dX7_init_14 rfl kt_57 (fun _ _ => rfl) (by decide) (by decide) (by decide) (fun _ _ h9 => h9) ((kw_up_n _ _ (by first | assumption | (apply Ne.symm; assumption))).trans ((kw_up_n _ _ (by first | assumption | (apply Ne.symm; assumption))).trans hb)) (kw_nm_up (kw_nm_up mb trivial) (nmc_o ⟨nab, trivial, trivial, trivial, trivial, trivial, trivial, trivial⟩)) (by simp only [kw_all, kw_nmo, kw_nmv, kw_set1, kw_set2, kw_keep]; repeat' first | assumption | trivial | apply And.intro) (by simp only [kw_all, kw_nmo, kw_nmv, kw_set1, kw_set2, kw_keep]; repeat' first | assumption | trivial | apply And.intro) (Nat.le_of_ble_eq_true rfl) (Nat.le_of_ble_eq_true rfl) (fun a9 => ?_)
  refine kw_putF dX7_init_16 fl_X7_15 rfl (fun _ _ _ h9 => by cases h9; rfl) ((kw_up_n _ _ (by first | assumption | (apply Ne.symm; assumption))).trans (kw_up_s _ _ _)) (kw_ok_a _ _) (Nat.le_of_ble_eq_true rfl) ?_
  rw [kw_up3 _ (show q ≠ b by assumption)]
  exact kw_vret dX7_init_19 rfl (Nat.le_of_ble_eq_true rfl) (Nat.le_of_ble_eq_true rfl) (hK _ _ _ ⟨fun k hk => by rw [kw_ad2 (h := h) hb hk, kw_ad2 (h := h) ha hk], rfl, rfl⟩)
set_option maxHeartbeats 4000000 in
set_option maxRecDepth 100000 in
theorem i_store (l : Launch) (h : PH) (q a b c : KK) (x : Int32) (v : KK) (nqa : q ≠ a) (nqb : q ≠ b) (nqc : q ≠ c) (nab : a ≠ b) (nac : a ≠ c) (nbc : b ≠ c) (nva : v ≠ a) (nvb : v ≠ b) (nvc : v ≠ c) (hq : h q = some (.inr (8, [pi_ 0, pn_, pn_, pn_, pn_, pi_ 0, pi_ 0, pi_ 0, pi_ 0, pi_ 0]))) (ha : h a = none) (ma : ∀ k9 c9, h k9 = some c9 → kw_nmc a c9) (hb : h b = none) (mb : ∀ k9 c9, h k9 = some c9 → kw_nmc b c9) (hc : h c = none) (mc : ∀ k9 c9, h k9 = some c9 → kw_nmc c c9) : kw_Q l yX9_init cX9_init 3 (Option.none : Option Jvm.ClassFile.FieldType) { frames := 1, cells := 3, slots := 200, locals := 20 } [pr_ q, pi_ x, pr_ v] h (fun r h' => r = none ∧ h' = (kw_up (kw_up (kw_up (kw_up h a (ro2_ RX0 80 (fun _ => none))) b (ro2_ RX5 40 (fun _ => none))) c (rb_ 80 (fun _ => false))) q (.inr (8, [pi_ x, pr_ v, pr_ a, pr_ b, pr_ c, pi_ 0, pi_ 0, pi_ 0, pi_ 0, pi_ 0])))) := by
  refine kw_M_of RX9 "<init>" [some (pr_ q), some (pi_ x), some (pr_ v)] (by decide) rfl rfl rfl (Nat.le_of_ble_eq_true rfl) ?_
  intro D ad A
  refine kw_Kgen (fun K hK => ?_)
  refine kw_aload_n dX9_init_0 rfl ?_
  refine kw_objInit dX9_init_1 kt_69 kt_23 kt_24 (Nat.le_of_ble_eq_true rfl) (Nat.le_of_ble_eq_true rfl) ?_
  refine kw_aload_n dX9_init_4 rfl ?_
  refine kw_bipush (v := 80) dX9_init_5 (by decide) ?_
  refine kw_anew (N := 80) a dX9_init_7 kt_70 (by decide) (by decide) (by decide) (by decide) ha ma (by simp only [kw_all, kw_nmo, kw_nmv, kw_set1, kw_set2, kw_keep]; repeat' first | assumption | trivial | apply And.intro) (by simp only [kw_all, kw_nmo, kw_nmv, kw_set1, kw_set2, kw_keep]; repeat' first | assumption | trivial | apply And.intro) (Nat.le_of_ble_eq_true rfl) (Nat.le_of_ble_eq_true rfl) (fun a9 => ?_)
  refine kw_putF dX9_init_10 fl_X9_11 rfl (fun _ _ _ h9 => by cases h9; rfl) ((kw_up_n _ _ (by first | assumption | (apply Ne.symm; assumption))).trans hq) (kw_ok_a _ _) (Nat.le_of_ble_eq_true rfl) ?_
  refine kw_aload_n dX9_init_13 rfl ?_
  refine kw_bipush (v := 40) dX9_init_14 (by decide) ?_
  refine kw_anew (N := 40) b dX9_init_16 kt_72 (by decide) (by decide) (by decide) (by decide) ((kw_up_n _ _ (by first | assumption | (apply Ne.symm; assumption))).trans ((kw_up_n _ _ (by first | assumption | (apply Ne.symm; assumption))).trans hb)) (kw_nm_up (kw_nm_up mb (fun _ _ q9 => by cases q9)) (nmc_o ⟨trivial, trivial, nab, trivial, trivial, trivial, trivial, trivial, trivial, trivial, trivial⟩)) (by simp only [kw_all, kw_nmo, kw_nmv, kw_set1, kw_set2, kw_keep]; repeat' first | assumption | trivial | apply And.intro) (by simp only [kw_all, kw_nmo, kw_nmv, kw_set1, kw_set2, kw_keep]; repeat' first | assumption | trivial | apply And.intro) (Nat.le_of_ble_eq_true rfl) (Nat.le_of_ble_eq_true rfl) (fun a9 => ?_)
  refine kw_putF dX9_init_19 fl_X9_19 rfl (fun _ _ _ h9 => by cases h9; rfl) ((kw_up_n _ _ (by first | assumption | (apply Ne.symm; assumption))).trans (kw_up_s _ _ _)) (kw_ok_a _ _) (Nat.le_of_ble_eq_true rfl) ?_
  rw [kw_up3 _ (show q ≠ b by assumption)]
  refine kw_aload_n dX9_init_22 rfl ?_
  refine kw_bipush (v := 80) dX9_init_23 (by decide) ?_
  refine kw_newarr (N := 80) (x := .inl (fun _ => 0)) c dX9_init_25 rfl kt_121 (fun _ _ => rfl) (by decide) (by decide) (by decide) (fun _ _ h9 => h9) ((kw_up_n _ _ (by first | assumption | (apply Ne.symm; assumption))).trans ((kw_up_n _ _ (by first | assumption | (apply Ne.symm; assumption))).trans ((kw_up_n _ _ (by first | assumption | (apply Ne.symm; assumption))).trans hc))) (kw_nm_up (kw_nm_up (kw_nm_up mc (fun _ _ q9 => by cases q9)) (fun _ _ q9 => by cases q9)) (nmc_o ⟨trivial, trivial, nac, nbc, trivial, trivial, trivial, trivial, trivial, trivial, trivial⟩)) (by simp only [kw_all, kw_nmo, kw_nmv, kw_set1, kw_set2, kw_keep]; repeat' first | assumption | trivial | apply And.intro) (by simp only [kw_all, kw_nmo, kw_nmv, kw_set1, kw_set2, kw_keep]; repeat' first | assumption | trivial | apply And.intro) (Nat.le_of_ble_eq_true rfl) (Nat.le_of_ble_eq_true rfl) (fun a9 => ?_)
  refine kw_putF dX9_init_27 fl_X9_23 rfl (fun _ _ _ h9 => by cases h9; rfl) ((kw_up_n _ _ (by first | assumption | (apply Ne.symm; assumption))).trans (kw_up_s _ _ _)) (kw_ok_a _ _) (Nat.le_of_ble_eq_true rfl) ?_
  rw [kw_up3 _ (show q ≠ c by assumption)]
  refine kw_aload_n dX9_init_30 rfl ?_
  refine kw_iload_n dX9_init_31 rfl ?_
  refine kw_putF dX9_init_32 fl_X9_27 rfl (fun _ _ _ h9 => by cases h9; rfl) (kw_up_s _ _ _) (kw_ok_i _) (Nat.le_of_ble_eq_true rfl) ?_
  rw [kw_up2]
  refine kw_aload_n dX9_init_35 rfl ?_
  refine kw_aload_n dX9_init_36 rfl ?_
  refine kw_putF dX9_init_37 fl_X9_31 rfl (fun _ _ _ h9 => by cases h9; rfl) (kw_up_s _ _ _) (kw_ok_o _ _) (Nat.le_of_ble_eq_true rfl) ?_
  rw [kw_up2]
  exact kw_vret dX9_init_40 rfl (Nat.le_of_ble_eq_true rfl) (Nat.le_of_ble_eq_true rfl) (hK _ _ _ ⟨fun k hk => by rw [kw_ad2 (h := h) hc hk, kw_ad2 (h := h) hb hk, kw_ad2 (h := h) ha hk], rfl, rfl⟩)
theorem i_sw_eq (h : PH) (A o1 d0 B C D M x : PC) : kw_up (kw_up (kw_up (kw_up (kw_up (kw_up (kw_up (kw_up h (8, 1) A) (8, 0) o1) (9, 0) d0) (9, 1) B) (9, 2) C) (9, 3) D) (9, 0) M) (8, 0) x = kw_up (kw_up (kw_up (kw_up (kw_up (kw_up h (8, 1) A) (9, 1) B) (9, 2) C) (9, 3) D) (9, 0) M) (8, 0) x := by
  funext q
  by_cases e1 : q = (8, 0)
  · rw [e1, kw_up_s, kw_up_s]
  · rw [kw_up_n _ _ e1, kw_up_n _ _ e1]
    by_cases e2 : q = (9, 0)
    · rw [e2, kw_up_s, kw_up_s]
    · rw [kw_up_n _ _ e2, kw_up_n _ _ e2]
      simp only [kw_up, e1, e2, if_false]
set_option maxHeartbeats 4000000 in
set_option maxRecDepth 100000 in
theorem i_sweep (l : Launch) (h : PH) (hq : h (8, 0) = some (.inr (9, [pn_, pn_, pn_, pi_ 0, pi_ 0, pi_ 0, pi_ 0, pi_ 0, pi_ 0, pi_ 0, pi_ 0]))) (ha : h (8, 1) = none) (h30 : h (3, 0) ≠ none) (h10 : h (1, 0) ≠ none) (ma : ∀ k9 c9, h k9 = some c9 → kw_nmc (8, 1) c9) (he : h (9, 0) = none) (me : ∀ k9 c9, h k9 = some c9 → kw_nmc (9, 0) c9) (hb : h (9, 1) = none) (mb : ∀ k9 c9, h k9 = some c9 → kw_nmc (9, 1) c9) (hc : h (9, 2) = none) (mc : ∀ k9 c9, h k9 = some c9 → kw_nmc (9, 2) c9) (hd : h (9, 3) = none) (md : ∀ k9 c9, h k9 = some c9 → kw_nmc (9, 3) c9) : kw_Q l yX10_init cX10_init 3 (Option.none : Option Jvm.ClassFile.FieldType) { frames := 2, cells := 5, slots := 1190, locals := 42 } [pr_ (8, 0), pr_ (3, 0), pr_ (1, 0)] h (fun r h' => r = none ∧ h' = kw_up (kw_up (kw_up (kw_up (kw_up (kw_up h (8, 1) (ri_ 944 (fun _ => 0))) (9, 1) (ri_ 80 (fun _ => 0))) (9, 2) (ri_ 80 (fun _ => 0))) (9, 3) (ri_ 80 (fun _ => 0))) (9, 0) (.inr (3, [pr_ (3, 0), pr_ (1, 0), pr_ (9, 1), pr_ (9, 2), pr_ (9, 3), pi_ 0]))) (8, 0) (.inr (9, [pr_ (3, 0), pr_ (9, 0), pr_ (8, 1), pi_ 0, pi_ 0, pi_ 0, pi_ 0, pi_ 0, pi_ 0, pi_ 0, pi_ 50]))) := by
  refine kw_M_of RX10 "<init>" [some (pr_ (8, 0)), some (pr_ (3, 0)), some (pr_ (1, 0))] (by decide) rfl rfl rfl (Nat.le_of_ble_eq_true rfl) ?_
  intro D ad A
  refine kw_Kgen (fun K hK => ?_)
  refine kw_aload_n dX10_init_0 rfl ?_
  refine kw_objInit dX10_init_1 kt_127 kt_23 kt_24 (Nat.le_of_ble_eq_true rfl) (Nat.le_of_ble_eq_true rfl) ?_
  refine kw_aload_n dX10_init_4 rfl ?_
  refine kw_sipush (v := 944) dX10_init_5 (by decide) ?_
  refine kw_newarr (N := 944) (x := .inl (fun _ => 0)) (8, 1) dX10_init_8 rfl kt_57 (fun _ _ => rfl) (by decide) (by decide) (by decide) (fun _ _ h9 => h9) ha ma (by simp [kw_all, kw_nmo, kw_nmv, kw_set1, kw_set2, kw_keep]) (by simp [kw_all, kw_nmo, kw_nmv, kw_set1, kw_set2, kw_keep]) (Nat.le_of_ble_eq_true rfl) (Nat.le_of_ble_eq_true rfl) (fun a9 => ?_)
  refine kw_putF dX10_init_10 fl_X10_11 rfl (fun _ _ _ h9 => by cases h9; rfl) ((kw_up_n _ _ (by decide)).trans hq) (kw_ok_a _ _) (Nat.le_of_ble_eq_true rfl) ?_
  refine kw_aload_n dX10_init_13 rfl ?_
  refine kw_bipush (v := 50) dX10_init_14 (by decide) ?_
  refine kw_put dX10_init_16 fl_X10_15 (kw_up_s _ _ _) (kw_ok_i _) (Nat.le_of_ble_eq_true rfl) ?_
  rw [kw_up2]
  refine kw_aload_n dX10_init_19 rfl ?_
  refine kw_aload_n dX10_init_20 rfl ?_
  refine kw_putF dX10_init_21 fl_X10_19 rfl (fun _ _ _ h9 => by cases h9; rfl) (kw_up_s _ _ _) (kw_ok_o _ _) (Nat.le_of_ble_eq_true rfl) ?_
  rw [kw_up2]
  refine kw_aload_n dX10_init_24 rfl ?_
  refine kw_new (9, 0) (fs := [pn_, pn_, pn_, pn_, pn_, pi_ 0]) dX10_init_25 kc_X4 kt_128 kt_129 kt_6 (fun _ j hj => match j, hj with | 0, _ => rfl | 1, _ => rfl | 2, _ => rfl | 3, _ => rfl | 4, _ => rfl | 5, _ => rfl | k + 6, h9 => absurd h9 (by omega)) ((kw_up_n _ _ (by decide)).trans ((kw_up_n _ _ (by decide)).trans he)) (kw_nm_up (kw_nm_up me trivial) (nmc_o (by simp [kw_all, kw_nmv]))) (by simp [kw_all, kw_nmo, kw_nmv, kw_set1, kw_set2, kw_keep]) (by simp [kw_all, kw_nmo, kw_nmv, kw_set1, kw_set2, kw_keep]) (Nat.le_of_ble_eq_true rfl) (Nat.le_of_ble_eq_true rfl) (fun a9 => ?_)
  refine kw_dup dX10_init_28 rfl ?_
  refine kw_aload_n dX10_init_29 rfl ?_
  refine kw_aload_n dX10_init_30 rfl ?_
  refine kw_callIq (As := [pr_ (3, 0), pr_ (1, 0)]) (i_mover l _ (9, 0) (9, 1) (9, 2) (9, 3) (3, 0) (1, 0) (by decide) (by decide) (by decide) (by decide) (by decide) (by decide) (by decide) (by decide) (by decide) (by decide) (by decide) (by decide) (kw_up_s _ _ _) ((kw_up_n _ _ (by decide)).trans ((kw_up_n _ _ (by decide)).trans ((kw_up_n _ _ (by decide)).trans hb))) (kw_nm_up (kw_nm_up (kw_nm_up mb trivial) (nmc_o (by simp [kw_all, kw_nmv]))) (nmc_o (by simp [kw_all, kw_nmv]))) ((kw_up_n _ _ (by decide)).trans ((kw_up_n _ _ (by decide)).trans ((kw_up_n _ _ (by decide)).trans hc))) (kw_nm_up (kw_nm_up (kw_nm_up mc trivial) (nmc_o (by simp [kw_all, kw_nmv]))) (nmc_o (by simp [kw_all, kw_nmv]))) ((kw_up_n _ _ (by decide)).trans ((kw_up_n _ _ (by decide)).trans ((kw_up_n _ _ (by decide)).trans hd))) (kw_nm_up (kw_nm_up (kw_nm_up md trivial) (nmc_o (by simp [kw_all, kw_nmv]))) (nmc_o (by simp [kw_all, kw_nmv])))) dX10_init_31 cl_X10_25 rfl rfl (Nat.le_of_ble_eq_true rfl) ⟨(Nat.le_of_ble_eq_true rfl), (Nat.le_of_ble_eq_true rfl), (Nat.le_of_ble_eq_true rfl), (Nat.le_of_ble_eq_true rfl)⟩ ⟨nm_some ((kw_up_n _ _ (by decide)).trans (kw_up_s _ _ _)), (kw_up_nn (kw_up_nn (kw_up_nn h30))), (kw_up_nn (kw_up_nn (kw_up_nn h10))), trivial⟩ ⟨nm_some (kw_up_s _ _ _), nm_some ((kw_up_n _ _ (by decide)).trans (kw_up_s _ _ _)), trivial⟩ (fun r2 ad2 h2 he2 hp2 => ?_)
  obtain ⟨rfl, rfl⟩ := hp2
  refine kw_putF dX10_init_34 fl_X10_28 rfl (fun _ _ _ h9 => by cases h9; rfl) ((kw_up_n _ _ (by decide)).trans ((kw_up_n _ _ (by decide)).trans ((kw_up_n _ _ (by decide)).trans ((kw_up_n _ _ (by decide)).trans ((kw_up_n _ _ (by decide)).trans (kw_up_s _ _ _)))))) (kw_ok_o _ _) (Nat.le_of_ble_eq_true rfl) ?_
  exact kw_vret dX10_init_37 rfl (Nat.le_of_ble_eq_true rfl) (Nat.le_of_ble_eq_true rfl) (hK _ _ _ ⟨fun k9 hk9 => by rw [he2 k9 (kw_up_nn (kw_up_nn (kw_up_nn hk9))), kw_ad_n _ _ (fun e9 => hk9 (by rw [e9]; exact he)), kw_ad_n _ _ (fun e9 => hk9 (by rw [e9]; exact ha))], rfl, i_sw_eq h _ _ _ _ _ _ _ _⟩)
