/-! THE MODEL'S METHODS, 6: what it tells -/
theorem inB_out {x : Int32} {n : Nat} (hn : n < 2 ^ 31) (h : inB x 0 (nI n - 1) = false) : x < 0 ∨ nI n ≤ x := by
  by_cases e : x < 0
  · exact Or.inl e
  · obtain ⟨j, hj, rfl⟩ := nI_of e
    by_cases e2 : j < n
    · exact absurd rfl (inB_nix hn e2 h)
    · exact Or.inr (nI_le (by omega) hj)
theorem ix_in {j n : Nat} (hj : j < n) (hn : n < 2 ^ 31) : ¬ (nI j < 0 ∨ nI n ≤ nI j) := fun q => q.elim (nI_pos (by omega)) (fun z => absurd (nI_le' hn (by omega) z) (by omega))
set_option maxHeartbeats 4000000 in
set_option maxRecDepth 100000 in
theorem n_counted0 (l : Launch) (s : SG) (k : KG) (hb : nb_ s ≤ 80) (hp : np_ s ≤ 40) (hw : ∀ j, j < nb_ s → wt_ s j < 2 ^ 31) : kw_F l yX12_counted cX12_counted 4 (Option.some Jvm.ClassFile.FieldType.int) { frames := 0, cells := 0, slots := 0, locals := 0 } [pr_ (40, 0), pi_ 0] (hM s k) (some (pi_ (nI (cntN (fun j => th_ s j) (nb_ s))))) (hM s k) := by
  refine kw_M_of RX12 "counted" [some (pr_ (40, 0)), some (pi_ 0), none, none] (by decide) rfl rfl rfl (Nat.le_of_ble_eq_true rfl) ?_
  intro D ad A
  refine kw_Kgen (fun K hK => ?_)
  have loop : ∀ (n_ : Nat) (j : Nat), nb_ s - j < n_ → j ≤ nb_ s → kw_G l D cX12_counted RX12 (Option.some Jvm.ClassFile.FieldType.int) "counted" { frames := 0, cells := 0, slots := 0, locals := 0 } A K ad (hM s k) 0 0 4 [some (pr_ (40, 0)), some (pi_ 0), some (pi_ (nI (cntN (fun j => th_ s j) j))), some (pi_ (nI j))] [] := by
    intro n_
    induction n_ with
    | zero =>
      intro j hm_
      exact absurd hm_ (Nat.not_lt_zero _)
    | succ n_ ih =>
      intro j hm_ hj
      refine kw_iload_n dX12_counted_4 rfl ?_
      refine kw_aload_n dX12_counted_5 rfl ?_
      refine kw_get dX12_counted_6 fl_X12_156 rfl rfl ?_
      refine kw_icmp_ge (tgt := 53) dX12_counted_9 (by decide) (fun c9 => ?_) (fun c9 => ?_)
      · skip
        have e : j = nb_ s := Nat.le_antisymm hj (nI_le' (by omega) (by omega) c9)
        subst e
        refine kw_iconst (v := 0) dX12_counted_53 (by decide) ?_
        refine kw_istore_n dX12_counted_54 (Nat.le_of_ble_eq_true rfl) ?_
        refine kw_iload_n dX12_counted_55 rfl ?_
        refine kw_aload_n dX12_counted_56 rfl ?_
        refine kw_get dX12_counted_57 fl_X12_178 rfl rfl ?_
        refine kw_icmp_ge (tgt := 91) dX12_counted_60 (by decide) (fun c60 => ?_) (fun c60 => ?_)
        · skip
          refine kw_iload_n dX12_counted_91 rfl ?_
          exact kw_iret dX12_counted_92 rfl (Nat.le_of_ble_eq_true rfl) (Nat.le_of_ble_eq_true rfl) (hK _ _ _ ⟨rfl, rfl, rfl⟩)
        · skip
          refine kw_iload_n dX12_counted_63 rfl ?_
          refine kw_iconst (v := 2) dX12_counted_64 (by decide) ?_
          refine kw_icmp_ne (tgt := 91) dX12_counted_65 (by decide) (fun c65 => ?_) (fun c65 => ?_)
          · skip
            refine kw_iload_n dX12_counted_91 rfl ?_
            exact kw_iret dX12_counted_92 rfl (Nat.le_of_ble_eq_true rfl) (Nat.le_of_ble_eq_true rfl) (hK _ _ _ ⟨rfl, rfl, rfl⟩)
          · skip
            exact absurd c65 (by decide)
      · skip
        have hlt : j < nb_ s := nI_nle' (by omega) (by omega) c9
        refine kw_iload_n dX12_counted_12 rfl ?_
        refine kw_iconst (v := 2) dX12_counted_13 (by decide) ?_
        refine kw_icmp_ge (tgt := 53) dX12_counted_14 (by decide) (fun c14 => ?_) (fun c14 => ?_)
        · skip
          exact absurd c14 (by decide)
        · skip
          refine kw_iload_n dX12_counted_17 rfl ?_
          refine kw_aload_n dX12_counted_18 rfl ?_
          refine kw_get dX12_counted_19 fl_X12_33 rfl rfl ?_
          refine kw_iload_n dX12_counted_22 rfl ?_
          refine kw_zaldN dX12_counted_23 rfl (by omega) (by decide) ?_
          refine kw_if_eq (tgt := 44) dX12_counted_24 (by decide) (fun c24 => ?_) (fun c24 => ?_)
          · skip
            refine kw_iconst (v := 0) dX12_counted_44 (by decide) ?_
            refine kw_iadd dX12_counted_45 ?_
            refine kw_top (v' := pi_ (nI (cntN (fun j => th_ s j) (j + 1)))) (cnt_f (p := (fun j => th_ s j)) (by exact b2_0.mp c24)) ?_
            refine kw_istore_n dX12_counted_46 (Nat.le_of_ble_eq_true rfl) ?_
            refine kw_iinc dX12_counted_47 rfl (nI_i j) ?_
            refine kw_goto (tgt := 4) dX12_counted_50 (by decide) ?_
            exact ih (j + 1) (by omega) (by omega)
          · skip
            have e24 := b2_n0.mp c24
            refine kw_iload_n dX12_counted_27 rfl ?_
            refine kw_if_eq (tgt := 40) dX12_counted_28 (by decide) (fun c28 => ?_) (fun c28 => ?_)
            · skip
              refine kw_iconst (v := 1) dX12_counted_40 (by decide) ?_
              refine kw_goto (tgt := 45) dX12_counted_41 (by decide) ?_
              refine kw_iadd dX12_counted_45 ?_
              refine kw_top (v' := pi_ (nI (cntN (fun j => th_ s j) (j + 1)))) (cnt_t (p := (fun j => th_ s j)) e24) ?_
              refine kw_istore_n dX12_counted_46 (Nat.le_of_ble_eq_true rfl) ?_
              refine kw_iinc dX12_counted_47 rfl (nI_i j) ?_
              refine kw_goto (tgt := 4) dX12_counted_50 (by decide) ?_
              exact ih (j + 1) (by omega) (by omega)
            · skip
              exact absurd rfl c28
  refine kw_iconst (v := 0) dX12_counted_0 (by decide) ?_
  refine kw_istore_n dX12_counted_1 (Nat.le_of_ble_eq_true rfl) ?_
  refine kw_iconst (v := 0) dX12_counted_2 (by decide) ?_
  refine kw_istore_n dX12_counted_3 (Nat.le_of_ble_eq_true rfl) ?_
  exact loop (nb_ s + 1) 0 (by omega) (by omega)
set_option maxHeartbeats 4000000 in
set_option maxRecDepth 100000 in
theorem n_counted1 (l : Launch) (s : SG) (k : KG) (hb : nb_ s ≤ 80) (hp : np_ s ≤ 40) (hw : ∀ j, j < nb_ s → wt_ s j < 2 ^ 31) : kw_F l yX12_counted cX12_counted 4 (Option.some Jvm.ClassFile.FieldType.int) { frames := 0, cells := 0, slots := 0, locals := 0 } [pr_ (40, 0), pi_ 1] (hM s k) (some (pi_ (nI (cntN (fun j => th_ s j && decide (0 < wt_ s j)) (nb_ s))))) (hM s k) := by
  refine kw_M_of RX12 "counted" [some (pr_ (40, 0)), some (pi_ 1), none, none] (by decide) rfl rfl rfl (Nat.le_of_ble_eq_true rfl) ?_
  intro D ad A
  refine kw_Kgen (fun K hK => ?_)
  have loop : ∀ (n_ : Nat) (j : Nat), nb_ s - j < n_ → j ≤ nb_ s → kw_G l D cX12_counted RX12 (Option.some Jvm.ClassFile.FieldType.int) "counted" { frames := 0, cells := 0, slots := 0, locals := 0 } A K ad (hM s k) 0 0 4 [some (pr_ (40, 0)), some (pi_ 1), some (pi_ (nI (cntN (fun j => th_ s j && decide (0 < wt_ s j)) j))), some (pi_ (nI j))] [] := by
    intro n_
    induction n_ with
    | zero =>
      intro j hm_
      exact absurd hm_ (Nat.not_lt_zero _)
    | succ n_ ih =>
      intro j hm_ hj
      refine kw_iload_n dX12_counted_4 rfl ?_
      refine kw_aload_n dX12_counted_5 rfl ?_
      refine kw_get dX12_counted_6 fl_X12_156 rfl rfl ?_
      refine kw_icmp_ge (tgt := 53) dX12_counted_9 (by decide) (fun c9 => ?_) (fun c9 => ?_)
      · skip
        have e : j = nb_ s := Nat.le_antisymm hj (nI_le' (by omega) (by omega) c9)
        subst e
        refine kw_iconst (v := 0) dX12_counted_53 (by decide) ?_
        refine kw_istore_n dX12_counted_54 (Nat.le_of_ble_eq_true rfl) ?_
        refine kw_iload_n dX12_counted_55 rfl ?_
        refine kw_aload_n dX12_counted_56 rfl ?_
        refine kw_get dX12_counted_57 fl_X12_178 rfl rfl ?_
        refine kw_icmp_ge (tgt := 91) dX12_counted_60 (by decide) (fun c60 => ?_) (fun c60 => ?_)
        · skip
          refine kw_iload_n dX12_counted_91 rfl ?_
          exact kw_iret dX12_counted_92 rfl (Nat.le_of_ble_eq_true rfl) (Nat.le_of_ble_eq_true rfl) (hK _ _ _ ⟨rfl, rfl, rfl⟩)
        · skip
          refine kw_iload_n dX12_counted_63 rfl ?_
          refine kw_iconst (v := 2) dX12_counted_64 (by decide) ?_
          refine kw_icmp_ne (tgt := 91) dX12_counted_65 (by decide) (fun c65 => ?_) (fun c65 => ?_)
          · skip
            refine kw_iload_n dX12_counted_91 rfl ?_
            exact kw_iret dX12_counted_92 rfl (Nat.le_of_ble_eq_true rfl) (Nat.le_of_ble_eq_true rfl) (hK _ _ _ ⟨rfl, rfl, rfl⟩)
          · skip
            exact absurd c65 (by decide)
      · skip
        have hlt : j < nb_ s := nI_nle' (by omega) (by omega) c9
        refine kw_iload_n dX12_counted_12 rfl ?_
        refine kw_iconst (v := 2) dX12_counted_13 (by decide) ?_
        refine kw_icmp_ge (tgt := 53) dX12_counted_14 (by decide) (fun c14 => ?_) (fun c14 => ?_)
        · skip
          exact absurd c14 (by decide)
        · skip
          refine kw_iload_n dX12_counted_17 rfl ?_
          refine kw_aload_n dX12_counted_18 rfl ?_
          refine kw_get dX12_counted_19 fl_X12_33 rfl rfl ?_
          refine kw_iload_n dX12_counted_22 rfl ?_
          refine kw_zaldN dX12_counted_23 rfl (by omega) (by decide) ?_
          refine kw_if_eq (tgt := 44) dX12_counted_24 (by decide) (fun c24 => ?_) (fun c24 => ?_)
          · skip
            refine kw_iconst (v := 0) dX12_counted_44 (by decide) ?_
            refine kw_iadd dX12_counted_45 ?_
            refine kw_top (v' := pi_ (nI (cntN (fun j => th_ s j && decide (0 < wt_ s j)) (j + 1)))) (cnt_f (p := (fun j => th_ s j && decide (0 < wt_ s j))) (by show (th_ s j && _) = false; rw [b2_0.mp c24]; rfl)) ?_
            refine kw_istore_n dX12_counted_46 (Nat.le_of_ble_eq_true rfl) ?_
            refine kw_iinc dX12_counted_47 rfl (nI_i j) ?_
            refine kw_goto (tgt := 4) dX12_counted_50 (by decide) ?_
            exact ih (j + 1) (by omega) (by omega)
          · skip
            have e24 := b2_n0.mp c24
            refine kw_iload_n dX12_counted_27 rfl ?_
            refine kw_if_eq (tgt := 40) dX12_counted_28 (by decide) (fun c28 => ?_) (fun c28 => ?_)
            · skip
              exact absurd c28 (by decide)
            · skip
              refine kw_aload_n dX12_counted_31 rfl ?_
              refine kw_get dX12_counted_32 fl_X12_43 rfl rfl ?_
              refine kw_iload_n dX12_counted_35 rfl ?_
              refine kw_ialdN dX12_counted_36 rfl (by omega) (by decide) ?_
              refine kw_if_le (tgt := 44) dX12_counted_37 (by decide) (fun c37 => ?_) (fun c37 => ?_)
              · skip
                refine kw_iconst (v := 0) dX12_counted_44 (by decide) ?_
                refine kw_iadd dX12_counted_45 ?_
                refine kw_top (v' := pi_ (nI (cntN (fun j => th_ s j && decide (0 < wt_ s j)) (j + 1)))) (cnt_f (p := (fun j => th_ s j && decide (0 < wt_ s j))) (by show (th_ s j && decide (0 < wt_ s j)) = false; rw [decide_eq_false (fun q => nI_nle q (hw j hlt) c37), Bool.and_false])) ?_
                refine kw_istore_n dX12_counted_46 (Nat.le_of_ble_eq_true rfl) ?_
                refine kw_iinc dX12_counted_47 rfl (nI_i j) ?_
                refine kw_goto (tgt := 4) dX12_counted_50 (by decide) ?_
                exact ih (j + 1) (by omega) (by omega)
              · skip
                refine kw_iconst (v := 1) dX12_counted_40 (by decide) ?_
                refine kw_goto (tgt := 45) dX12_counted_41 (by decide) ?_
                refine kw_iadd dX12_counted_45 ?_
                refine kw_top (v' := pi_ (nI (cntN (fun j => th_ s j && decide (0 < wt_ s j)) (j + 1)))) (cnt_t (p := (fun j => th_ s j && decide (0 < wt_ s j))) (by show (th_ s j && decide (0 < wt_ s j)) = true; rw [e24, decide_eq_true (Nat.pos_of_ne_zero (fun q => c37 (by rw [q]; decide)))]; rfl)) ?_
                refine kw_istore_n dX12_counted_46 (Nat.le_of_ble_eq_true rfl) ?_
                refine kw_iinc dX12_counted_47 rfl (nI_i j) ?_
                refine kw_goto (tgt := 4) dX12_counted_50 (by decide) ?_
                exact ih (j + 1) (by omega) (by omega)
  refine kw_iconst (v := 0) dX12_counted_0 (by decide) ?_
  refine kw_istore_n dX12_counted_1 (Nat.le_of_ble_eq_true rfl) ?_
  refine kw_iconst (v := 0) dX12_counted_2 (by decide) ?_
  refine kw_istore_n dX12_counted_3 (Nat.le_of_ble_eq_true rfl) ?_
  exact loop (nb_ s + 1) 0 (by omega) (by omega)
set_option maxHeartbeats 4000000 in
set_option maxRecDepth 100000 in
theorem n_counted2 (l : Launch) (s : SG) (k : KG) (hb : nb_ s ≤ 80) (hp : np_ s ≤ 40) (hw : ∀ j, j < nb_ s → wt_ s j < 2 ^ 31) : kw_F l yX12_counted cX12_counted 4 (Option.some Jvm.ClassFile.FieldType.int) { frames := 0, cells := 0, slots := 0, locals := 0 } [pr_ (40, 0), pi_ 2] (hM s k) (some (pi_ (nI (cntN (fun j => !gn_ s j) (np_ s))))) (hM s k) := by
  refine kw_M_of RX12 "counted" [some (pr_ (40, 0)), some (pi_ 2), none, none] (by decide) rfl rfl rfl (Nat.le_of_ble_eq_true rfl) ?_
  intro D ad A
  refine kw_Kgen (fun K hK => ?_)
  have loop : ∀ (n_ : Nat) (j : Nat), np_ s - j < n_ → j ≤ np_ s → kw_G l D cX12_counted RX12 (Option.some Jvm.ClassFile.FieldType.int) "counted" { frames := 0, cells := 0, slots := 0, locals := 0 } A K ad (hM s k) 0 0 55 [some (pr_ (40, 0)), some (pi_ 2), some (pi_ (nI (cntN (fun j => !gn_ s j) j))), some (pi_ (nI j))] [] := by
    intro n_
    induction n_ with
    | zero =>
      intro j hm_
      exact absurd hm_ (Nat.not_lt_zero _)
    | succ n_ ih =>
      intro j hm_ hj
      refine kw_iload_n dX12_counted_55 rfl ?_
      refine kw_aload_n dX12_counted_56 rfl ?_
      refine kw_get dX12_counted_57 fl_X12_178 rfl rfl ?_
      refine kw_icmp_ge (tgt := 91) dX12_counted_60 (by decide) (fun c60 => ?_) (fun c60 => ?_)
      · skip
        have e : j = np_ s := Nat.le_antisymm hj (nI_le' (by omega) (by omega) c60)
        subst e
        refine kw_iload_n dX12_counted_91 rfl ?_
        exact kw_iret dX12_counted_92 rfl (Nat.le_of_ble_eq_true rfl) (Nat.le_of_ble_eq_true rfl) (hK _ _ _ ⟨rfl, rfl, rfl⟩)
      · skip
        have hlt : j < np_ s := nI_nle' (by omega) (by omega) c60
        refine kw_iload_n dX12_counted_63 rfl ?_
        refine kw_iconst (v := 2) dX12_counted_64 (by decide) ?_
        refine kw_icmp_ne (tgt := 91) dX12_counted_65 (by decide) (fun c65 => ?_) (fun c65 => ?_)
        · skip
          exact absurd rfl c65
        · skip
          refine kw_iload_n dX12_counted_68 rfl ?_
          refine kw_aload_n dX12_counted_69 rfl ?_
          refine kw_get dX12_counted_70 fl_X12_46 rfl rfl ?_
          refine kw_iload_n dX12_counted_73 rfl ?_
          refine kw_zaldN dX12_counted_74 rfl (by omega) (by decide) ?_
          refine kw_if_eq (tgt := 82) dX12_counted_75 (by decide) (fun c75 => ?_) (fun c75 => ?_)
          · skip
            refine kw_iconst (v := 1) dX12_counted_82 (by decide) ?_
            refine kw_iadd dX12_counted_83 ?_
            refine kw_top (v' := pi_ (nI (cntN (fun j => !gn_ s j) (j + 1)))) (cnt_t (p := (fun j => !gn_ s j)) (by show (!gn_ s j) = true; rw [b2_0.mp c75]; rfl)) ?_
            refine kw_istore_n dX12_counted_84 (Nat.le_of_ble_eq_true rfl) ?_
            refine kw_iinc dX12_counted_85 rfl (nI_i j) ?_
            refine kw_goto (tgt := 55) dX12_counted_88 (by decide) ?_
            exact ih (j + 1) (by omega) (by omega)
          · skip
            refine kw_iconst (v := 0) dX12_counted_78 (by decide) ?_
            refine kw_goto (tgt := 83) dX12_counted_79 (by decide) ?_
            refine kw_iadd dX12_counted_83 ?_
            refine kw_top (v' := pi_ (nI (cntN (fun j => !gn_ s j) (j + 1)))) (cnt_f (p := (fun j => !gn_ s j)) (by show (!gn_ s j) = false; rw [b2_n0.mp c75]; rfl)) ?_
            refine kw_istore_n dX12_counted_84 (Nat.le_of_ble_eq_true rfl) ?_
            refine kw_iinc dX12_counted_85 rfl (nI_i j) ?_
            refine kw_goto (tgt := 55) dX12_counted_88 (by decide) ?_
            exact ih (j + 1) (by omega) (by omega)
  refine kw_iconst (v := 0) dX12_counted_0 (by decide) ?_
  refine kw_istore_n dX12_counted_1 (Nat.le_of_ble_eq_true rfl) ?_
  refine kw_iconst (v := 0) dX12_counted_2 (by decide) ?_
  refine kw_istore_n dX12_counted_3 (Nat.le_of_ble_eq_true rfl) ?_
  refine kw_iload_n dX12_counted_4 rfl ?_
  refine kw_aload_n dX12_counted_5 rfl ?_
  refine kw_get dX12_counted_6 fl_X12_156 rfl rfl ?_
  refine kw_icmp_ge (tgt := 53) dX12_counted_9 (by decide) (fun c9 => ?_) (fun c9 => ?_)
  · skip
    refine kw_iconst (v := 0) dX12_counted_53 (by decide) ?_
    refine kw_istore_n dX12_counted_54 (Nat.le_of_ble_eq_true rfl) ?_
    exact loop (np_ s + 1) 0 (by omega) (by omega)
  · skip
    refine kw_iload_n dX12_counted_12 rfl ?_
    refine kw_iconst (v := 2) dX12_counted_13 (by decide) ?_
    refine kw_icmp_ge (tgt := 53) dX12_counted_14 (by decide) (fun c14 => ?_) (fun c14 => ?_)
    · skip
      refine kw_iconst (v := 0) dX12_counted_53 (by decide) ?_
      refine kw_istore_n dX12_counted_54 (Nat.le_of_ble_eq_true rfl) ?_
      exact loop (np_ s + 1) 0 (by omega) (by omega)
    · skip
      exact absurd (show (2 : Int32) ≤ 2 by decide) c14
set_option maxHeartbeats 4000000 in
set_option maxRecDepth 100000 in
theorem M_count (l : Launch) (s : SG) (k : KG) (hb : nb_ s ≤ 80) (hns : ns_ s ≤ 40) (hp : np_ s ≤ 40) (hw : ∀ j, j < nb_ s → wt_ s j < 2 ^ 31) (hwt : ∀ j, th_ s j = false → wt_ s j = 0) (x : Int32) : kw_F l yX12_count cX12_count 2 (Option.some Jvm.ClassFile.FieldType.int) { frames := 1, cells := 0, slots := 0, locals := 23 } [pr_ (40, 0), pi_ x] (hM s k) (some (pi_ (a_count s x))) (hM s k) := by
  refine kw_M_of RX12 "count" [some (pr_ (40, 0)), some (pi_ x)] (by decide) rfl rfl rfl (Nat.le_of_ble_eq_true rfl) ?_
  intro D ad A
  refine kw_Kgen (fun K hK => ?_)
  have ew : cntN (fun j => th_ s j && decide (0 < wt_ s j)) (nb_ s) = waitN s := cntN_congr (fun j _ => by
    cases e : th_ s j with
    | true => rfl
    | false => rw [hwt j e]; rfl)
  refine kw_iload_n dX12_count_0 rfl ?_
  by_cases e0 : x = 0
  · skip
    subst e0
    refine kw_tableIn (off := 71) (tgt := 72) dX12_count_1 (by decide) (by decide) (by decide) (by decide) ?_
    refine kw_aload_n dX12_count_72 rfl ?_
    refine kw_get dX12_count_73 fl_X12_156 rfl rfl ?_
    exact kw_iret dX12_count_76 rfl (Nat.le_of_ble_eq_true rfl) (Nat.le_of_ble_eq_true rfl) (hK _ _ _ ⟨rfl, rfl, rfl⟩)
  by_cases e1 : x = 1
  · skip
    subst e1
    refine kw_tableIn (off := 76) (tgt := 77) dX12_count_1 (by decide) (by decide) (by decide) (by decide) ?_
    refine kw_aload_n dX12_count_77 rfl ?_
    refine kw_iconst (v := 0) dX12_count_78 (by decide) ?_
    refine kw_callVf (As := [pi_ 0]) (n_counted0 l s k hb hp hw) dX12_count_79 cl_X12_313 rfl rfl rfl rfl (Nat.le_of_ble_eq_true rfl) ⟨(Nat.le_of_ble_eq_true rfl), (Nat.le_of_ble_eq_true rfl), (Nat.le_of_ble_eq_true rfl), (Nat.le_of_ble_eq_true rfl)⟩ ?_
    exact kw_iret dX12_count_82 rfl (Nat.le_of_ble_eq_true rfl) (Nat.le_of_ble_eq_true rfl) (hK _ _ _ ⟨rfl, rfl, rfl⟩)
  by_cases e2 : x = 2
  · skip
    subst e2
    refine kw_tableIn (off := 82) (tgt := 83) dX12_count_1 (by decide) (by decide) (by decide) (by decide) ?_
    refine kw_aload_n dX12_count_83 rfl ?_
    refine kw_iconst (v := 1) dX12_count_84 (by decide) ?_
    refine kw_callVf (As := [pi_ 1]) (n_counted1 l s k hb hp hw) dX12_count_85 cl_X12_313 rfl rfl rfl rfl (Nat.le_of_ble_eq_true rfl) ⟨(Nat.le_of_ble_eq_true rfl), (Nat.le_of_ble_eq_true rfl), (Nat.le_of_ble_eq_true rfl), (Nat.le_of_ble_eq_true rfl)⟩ ?_
    rw [ew]
    exact kw_iret dX12_count_88 rfl (Nat.le_of_ble_eq_true rfl) (Nat.le_of_ble_eq_true rfl) (hK _ _ _ ⟨rfl, rfl, rfl⟩)
  by_cases e3 : x = 3
  · skip
    subst e3
    refine kw_tableIn (off := 88) (tgt := 89) dX12_count_1 (by decide) (by decide) (by decide) (by decide) ?_
    refine kw_aload_n dX12_count_89 rfl ?_
    refine kw_callVf (As := []) (n_snThere l s k hns) dX12_count_90 cl_X12_221 rfl rfl rfl rfl (Nat.le_of_ble_eq_true rfl) ⟨(Nat.le_of_ble_eq_true rfl), (Nat.le_of_ble_eq_true rfl), (Nat.le_of_ble_eq_true rfl), (Nat.le_of_ble_eq_true rfl)⟩ ?_
    exact kw_iret dX12_count_93 rfl (Nat.le_of_ble_eq_true rfl) (Nat.le_of_ble_eq_true rfl) (hK _ _ _ ⟨rfl, rfl, rfl⟩)
  by_cases e4 : x = 4
  · skip
    subst e4
    refine kw_tableIn (off := 93) (tgt := 94) dX12_count_1 (by decide) (by decide) (by decide) (by decide) ?_
    refine kw_aload_n dX12_count_94 rfl ?_
    refine kw_get dX12_count_95 fl_X12_178 rfl rfl ?_
    exact kw_iret dX12_count_98 rfl (Nat.le_of_ble_eq_true rfl) (Nat.le_of_ble_eq_true rfl) (hK _ _ _ ⟨rfl, rfl, rfl⟩)
  by_cases e5 : x = 5
  · skip
    subst e5
    refine kw_tableIn (off := 98) (tgt := 99) dX12_count_1 (by decide) (by decide) (by decide) (by decide) ?_
    refine kw_aload_n dX12_count_99 rfl ?_
    refine kw_iconst (v := 2) dX12_count_100 (by decide) ?_
    refine kw_callVf (As := [pi_ 2]) (n_counted2 l s k hb hp hw) dX12_count_101 cl_X12_313 rfl rfl rfl rfl (Nat.le_of_ble_eq_true rfl) ⟨(Nat.le_of_ble_eq_true rfl), (Nat.le_of_ble_eq_true rfl), (Nat.le_of_ble_eq_true rfl), (Nat.le_of_ble_eq_true rfl)⟩ ?_
    exact kw_iret dX12_count_104 rfl (Nat.le_of_ble_eq_true rfl) (Nat.le_of_ble_eq_true rfl) (hK _ _ _ ⟨rfl, rfl, rfl⟩)
  by_cases e6 : x = 6
  · skip
    subst e6
    refine kw_tableIn (off := 104) (tgt := 105) dX12_count_1 (by decide) (by decide) (by decide) (by decide) ?_
    refine kw_aload_n dX12_count_105 rfl ?_
    refine kw_callVf (As := []) (n_savers l s k) dX12_count_106 cl_X12_316 rfl rfl rfl rfl (Nat.le_of_ble_eq_true rfl) ⟨(Nat.le_of_ble_eq_true rfl), (Nat.le_of_ble_eq_true rfl), (Nat.le_of_ble_eq_true rfl), (Nat.le_of_ble_eq_true rfl)⟩ ?_
    exact kw_iret dX12_count_109 rfl (Nat.le_of_ble_eq_true rfl) (Nat.le_of_ble_eq_true rfl) (hK _ _ _ ⟨rfl, rfl, rfl⟩)
  by_cases e7 : x = 7
  · skip
    subst e7
    refine kw_tableIn (off := 109) (tgt := 110) dX12_count_1 (by decide) (by decide) (by decide) (by decide) ?_
    refine kw_aload_n dX12_count_110 rfl ?_
    refine kw_get dX12_count_111 fl_X12_276 rfl rfl ?_
    exact kw_iret dX12_count_114 rfl (Nat.le_of_ble_eq_true rfl) (Nat.le_of_ble_eq_true rfl) (hK _ _ _ ⟨rfl, rfl, rfl⟩)
  by_cases e8 : x = 8
  · skip
    subst e8
    refine kw_tableIn (off := 114) (tgt := 115) dX12_count_1 (by decide) (by decide) (by decide) (by decide) ?_
    refine kw_aload_n dX12_count_115 rfl ?_
    refine kw_get dX12_count_116 fl_X12_134 rfl rfl ?_
    exact kw_iret dX12_count_119 rfl (Nat.le_of_ble_eq_true rfl) (Nat.le_of_ble_eq_true rfl) (hK _ _ _ ⟨rfl, rfl, rfl⟩)
  by_cases e9 : x = 9
  · skip
    subst e9
    refine kw_tableIn (off := 119) (tgt := 120) dX12_count_1 (by decide) (by decide) (by decide) (by decide) ?_
    refine kw_aload_n dX12_count_120 rfl ?_
    refine kw_get dX12_count_121 fl_X12_212 rfl rfl ?_
    exact kw_iret dX12_count_124 rfl (Nat.le_of_ble_eq_true rfl) (Nat.le_of_ble_eq_true rfl) (hK _ _ _ ⟨rfl, rfl, rfl⟩)
  by_cases e10 : x = 10
  · skip
    subst e10
    refine kw_tableIn (off := 124) (tgt := 125) dX12_count_1 (by decide) (by decide) (by decide) (by decide) ?_
    refine kw_aload_n dX12_count_125 rfl ?_
    refine kw_get dX12_count_126 fl_X12_285 rfl rfl ?_
    exact kw_iret dX12_count_129 rfl (Nat.le_of_ble_eq_true rfl) (Nat.le_of_ble_eq_true rfl) (hK _ _ _ ⟨rfl, rfl, rfl⟩)
  by_cases e11 : x = 11
  · skip
    subst e11
    refine kw_tableIn (off := 129) (tgt := 130) dX12_count_1 (by decide) (by decide) (by decide) (by decide) ?_
    refine kw_aload_n dX12_count_130 rfl ?_
    refine kw_get dX12_count_131 fl_X12_298 rfl rfl ?_
    exact kw_iret dX12_count_134 rfl (Nat.le_of_ble_eq_true rfl) (Nat.le_of_ble_eq_true rfl) (hK _ _ _ ⟨rfl, rfl, rfl⟩)
  by_cases e12 : x = 12
  · skip
    subst e12
    refine kw_tableIn (off := 134) (tgt := 135) dX12_count_1 (by decide) (by decide) (by decide) (by decide) ?_
    refine kw_aload_n dX12_count_135 rfl ?_
    refine kw_get dX12_count_136 fl_X12_137 rfl rfl ?_
    exact kw_iret dX12_count_139 rfl (Nat.le_of_ble_eq_true rfl) (Nat.le_of_ble_eq_true rfl) (hK _ _ _ ⟨rfl, rfl, rfl⟩)
  by_cases e13 : x = 13
  · skip
    subst e13
    refine kw_tableIn (off := 139) (tgt := 140) dX12_count_1 (by decide) (by decide) (by decide) (by decide) ?_
    refine kw_aload_n dX12_count_140 rfl ?_
    refine kw_get dX12_count_141 fl_X12_127 rfl rfl ?_
    refine kw_if_eq (tgt := 151) dX12_count_144 (by decide) (fun c144 => ?_) (fun c144 => ?_)
    · skip
      refine kw_iconst (v := 0) dX12_count_151 (by decide) ?_
      exact kw_iret dX12_count_152 rfl (Nat.le_of_ble_eq_true rfl) (Nat.le_of_ble_eq_true rfl) (hK _ _ _ ⟨rfl, congrArg (fun z => some (pi_ z)) (show (0 : Int32) = b2 (dn_ s) by rw [b2_0.mp c144]; rfl), rfl⟩)
    · skip
      refine kw_iconst (v := 1) dX12_count_147 (by decide) ?_
      refine kw_goto (tgt := 152) dX12_count_148 (by decide) ?_
      exact kw_iret dX12_count_152 rfl (Nat.le_of_ble_eq_true rfl) (Nat.le_of_ble_eq_true rfl) (hK _ _ _ ⟨rfl, congrArg (fun z => some (pi_ z)) (show (1 : Int32) = b2 (dn_ s) by rw [b2_n0.mp c144]; rfl), rfl⟩)
  have n0 : (x).toInt ≠ 0 := fun q => e0 (Int32.toInt_inj.mp (q.trans (by decide)))
  have n1 : (x).toInt ≠ 1 := fun q => e1 (Int32.toInt_inj.mp (q.trans (by decide)))
  have n2 : (x).toInt ≠ 2 := fun q => e2 (Int32.toInt_inj.mp (q.trans (by decide)))
  have n3 : (x).toInt ≠ 3 := fun q => e3 (Int32.toInt_inj.mp (q.trans (by decide)))
  have n4 : (x).toInt ≠ 4 := fun q => e4 (Int32.toInt_inj.mp (q.trans (by decide)))
  have n5 : (x).toInt ≠ 5 := fun q => e5 (Int32.toInt_inj.mp (q.trans (by decide)))
  have n6 : (x).toInt ≠ 6 := fun q => e6 (Int32.toInt_inj.mp (q.trans (by decide)))
  have n7 : (x).toInt ≠ 7 := fun q => e7 (Int32.toInt_inj.mp (q.trans (by decide)))
  have n8 : (x).toInt ≠ 8 := fun q => e8 (Int32.toInt_inj.mp (q.trans (by decide)))
  have n9 : (x).toInt ≠ 9 := fun q => e9 (Int32.toInt_inj.mp (q.trans (by decide)))
  have n10 : (x).toInt ≠ 10 := fun q => e10 (Int32.toInt_inj.mp (q.trans (by decide)))
  have n11 : (x).toInt ≠ 11 := fun q => e11 (Int32.toInt_inj.mp (q.trans (by decide)))
  have n12 : (x).toInt ≠ 12 := fun q => e12 (Int32.toInt_inj.mp (q.trans (by decide)))
  have n13 : (x).toInt ≠ 13 := fun q => e13 (Int32.toInt_inj.mp (q.trans (by decide)))
  refine kw_tableOut (tgt := 153) dX12_count_1 (by omega) (by decide) ?_
  refine kw_bipush (v := (-102)) dX12_count_153 (by decide) ?_
  exact kw_iret dX12_count_155 rfl (Nat.le_of_ble_eq_true rfl) (Nat.le_of_ble_eq_true rfl) (hK _ _ _ ⟨rfl, by rw [a_count, if_neg e0, if_neg e1, if_neg e2, if_neg e3, if_neg e4, if_neg e5, if_neg e6, if_neg e7, if_neg e8, if_neg e9, if_neg e10, if_neg e11, if_neg e12, if_neg e13], rfl⟩)
set_option maxHeartbeats 4000000 in
set_option maxRecDepth 100000 in
theorem M_open (l : Launch) (s : SG) (k : KG) (hb : nb_ s ≤ 80) (hns : ns_ s ≤ 40) (hp : np_ s ≤ 40) (hw : ∀ j, j < nb_ s → wt_ s j < 2 ^ 31) (hwt : ∀ j, th_ s j = false → wt_ s j = 0) : kw_F l yX12_open cX12_open 1 (Option.some Jvm.ClassFile.FieldType.int) { frames := 2, cells := 0, slots := 0, locals := 44 } [pr_ (40, 0)] (hM s k) (some (pi_ (a_open s).1)) (hM (a_open s).2 k) := by
  refine kw_M_of RX12 "open" [some (pr_ (40, 0))] (by decide) rfl rfl rfl (Nat.le_of_ble_eq_true rfl) ?_
  intro D ad A
  refine kw_Kgen (fun K hK => ?_)
  refine kw_aload_n dX12_open_0 rfl ?_
  refine kw_get dX12_open_1 fl_X12_127 rfl rfl ?_
  refine kw_if_ne (tgt := 10) dX12_open_4 (by decide) (fun c4 => ?_) (fun c4 => ?_)
  · skip
    rw [a_open, if_pos (b2_n0.mp c4)] at hK
    refine kw_aload_n dX12_open_10 rfl ?_
    refine kw_iconst (v := 0) dX12_open_11 (by decide) ?_
    refine kw_put dX12_open_12 fl_X12_127 rfl (kw_ok_z (Or.inl rfl)) (Nat.le_of_ble_eq_true rfl) ?_
    refine kw_heq (um_dn s k false) ?_
    refine kw_aload_n dX12_open_15 rfl ?_
    refine kw_iconst (v := 2) dX12_open_16 (by decide) ?_
    refine kw_callVf (As := [pi_ 2]) (M_count l (sDn s false) k hb hns hp hw hwt 2) dX12_open_17 cl_X12_148 rfl rfl rfl rfl (Nat.le_of_ble_eq_true rfl) ⟨(Nat.le_of_ble_eq_true rfl), (Nat.le_of_ble_eq_true rfl), (Nat.le_of_ble_eq_true rfl), (Nat.le_of_ble_eq_true rfl)⟩ ?_
    exact kw_iret dX12_open_20 rfl (Nat.le_of_ble_eq_true rfl) (Nat.le_of_ble_eq_true rfl) (hK _ _ _ ⟨rfl, rfl, rfl⟩)
  · skip
    refine kw_bipush (v := (-103)) dX12_open_7 (by decide) ?_
    exact kw_iret dX12_open_9 rfl (Nat.le_of_ble_eq_true rfl) (Nat.le_of_ble_eq_true rfl) (hK _ _ _ ⟨rfl, by rw [a_open, if_neg (by rw [b2_0.mp c4]; decide)], by rw [a_open, if_neg (by rw [b2_0.mp c4]; decide)]⟩)
set_option maxHeartbeats 4000000 in
set_option maxRecDepth 100000 in
theorem n_users (l : Launch) (s : SG) (k : KG) (hMI : MI s k) (hu : ∀ i, i < 4 → um_ s i ≤ 8) (b : Int32) : kw_F l yX12_usersOf cX12_usersOf 4 (Option.some Jvm.ClassFile.FieldType.int) { frames := 1, cells := 0, slots := 0, locals := 24 } [pr_ (40, 0), pi_ b] (hM s k) (some (pi_ (nI (useN s b)))) (hM s k) := by
  refine kw_M_of RX12 "usersOf" [some (pr_ (40, 0)), some (pi_ b), none, none] (by decide) rfl rfl rfl (Nat.le_of_ble_eq_true rfl) ?_
  intro D ad A
  refine kw_Kgen (fun K hK => ?_)
  have loop : ∀ (n_ : Nat) (j : Nat), 4 - j < n_ → j ≤ 4 → kw_G l D cX12_usersOf RX12 (Option.some Jvm.ClassFile.FieldType.int) "usersOf" { frames := 1, cells := 0, slots := 0, locals := 24 } A K ad (hM s k) 0 0 4 [some (pr_ (40, 0)), some (pi_ b), some (pi_ (nI (cntN (fun j => sv_ s j && usesB s j b) j))), some (pi_ (nI j))] [] := by
    intro n_
    induction n_ with
    | zero =>
      intro j hm_
      exact absurd hm_ (Nat.not_lt_zero _)
    | succ n_ ih =>
      intro j hm_ hj
      refine kw_iload_n dX12_usersOf_4 rfl ?_
      refine kw_iconst (v := 4) dX12_usersOf_5 (by decide) ?_
      refine kw_icmp_ge (tgt := 41) dX12_usersOf_6 (by decide) (fun c6 => ?_) (fun c6 => ?_)
      · skip
        have e : j = 4 := Nat.le_antisymm hj (nI_le' (a := 4) (by omega) (by omega) c6)
        subst e
        refine kw_iload_n dX12_usersOf_41 rfl ?_
        exact kw_iret dX12_usersOf_42 rfl (Nat.le_of_ble_eq_true rfl) (Nat.le_of_ble_eq_true rfl) (hK _ _ _ ⟨rfl, rfl, rfl⟩)
      · skip
        have hlt : j < 4 := nI_nle' (a := 4) (by omega) (by omega) c6
        refine kw_iload_n dX12_usersOf_9 rfl ?_
        refine kw_aload_n dX12_usersOf_10 rfl ?_
        refine kw_get dX12_usersOf_11 fl_X12_79 rfl rfl ?_
        refine kw_iload_n dX12_usersOf_14 rfl ?_
        refine kw_zaldN dX12_usersOf_15 rfl hlt (by decide) ?_
        refine kw_if_eq (tgt := 32) dX12_usersOf_16 (by decide) (fun c16 => ?_) (fun c16 => ?_)
        · skip
          refine kw_iconst (v := 0) dX12_usersOf_32 (by decide) ?_
          refine kw_iadd dX12_usersOf_33 ?_
          refine kw_top (v' := pi_ (nI (cntN (fun j => sv_ s j && usesB s j b) (j + 1)))) (cnt_f (p := (fun j => sv_ s j && usesB s j b)) (by show (sv_ s j && _) = false; rw [b2_0.mp c16]; rfl)) ?_
          refine kw_istore_n dX12_usersOf_34 (Nat.le_of_ble_eq_true rfl) ?_
          refine kw_iinc dX12_usersOf_35 rfl (nI_i j) ?_
          refine kw_goto (tgt := 4) dX12_usersOf_38 (by decide) ?_
          exact ih (j + 1) (by omega) (by omega)
        · skip
          have e16 := b2_n0.mp c16
          refine kw_aload_n dX12_usersOf_19 rfl ?_
          refine kw_iload_n dX12_usersOf_20 rfl ?_
          refine kw_iload_n dX12_usersOf_21 rfl ?_
          refine kw_callVf (As := [pi_ (nI j), pi_ b]) (n_uses l s k j hlt (hu j hlt) (hMI.2.2.1 j hlt) b) dX12_usersOf_22 cl_X12_174 rfl rfl rfl rfl (Nat.le_of_ble_eq_true rfl) ⟨(Nat.le_of_ble_eq_true rfl), (Nat.le_of_ble_eq_true rfl), (Nat.le_of_ble_eq_true rfl), (Nat.le_of_ble_eq_true rfl)⟩ ?_
          refine kw_if_eq (tgt := 32) dX12_usersOf_25 (by decide) (fun c25 => ?_) (fun c25 => ?_)
          · skip
            refine kw_iconst (v := 0) dX12_usersOf_32 (by decide) ?_
            refine kw_iadd dX12_usersOf_33 ?_
            refine kw_top (v' := pi_ (nI (cntN (fun j => sv_ s j && usesB s j b) (j + 1)))) (cnt_f (p := (fun j => sv_ s j && usesB s j b)) (by show (sv_ s j && usesB s j b) = false; rw [b2_0.mp c25, Bool.and_false])) ?_
            refine kw_istore_n dX12_usersOf_34 (Nat.le_of_ble_eq_true rfl) ?_
            refine kw_iinc dX12_usersOf_35 rfl (nI_i j) ?_
            refine kw_goto (tgt := 4) dX12_usersOf_38 (by decide) ?_
            exact ih (j + 1) (by omega) (by omega)
          · skip
            refine kw_iconst (v := 1) dX12_usersOf_28 (by decide) ?_
            refine kw_goto (tgt := 33) dX12_usersOf_29 (by decide) ?_
            refine kw_iadd dX12_usersOf_33 ?_
            refine kw_top (v' := pi_ (nI (cntN (fun j => sv_ s j && usesB s j b) (j + 1)))) (cnt_t (p := (fun j => sv_ s j && usesB s j b)) (by show (sv_ s j && usesB s j b) = true; rw [e16, b2_n0.mp c25]; rfl)) ?_
            refine kw_istore_n dX12_usersOf_34 (Nat.le_of_ble_eq_true rfl) ?_
            refine kw_iinc dX12_usersOf_35 rfl (nI_i j) ?_
            refine kw_goto (tgt := 4) dX12_usersOf_38 (by decide) ?_
            exact ih (j + 1) (by omega) (by omega)
  refine kw_iconst (v := 0) dX12_usersOf_0 (by decide) ?_
  refine kw_istore_n dX12_usersOf_1 (Nat.le_of_ble_eq_true rfl) ?_
  refine kw_iconst (v := 0) dX12_usersOf_2 (by decide) ?_
  refine kw_istore_n dX12_usersOf_3 (Nat.le_of_ble_eq_true rfl) ?_
  exact loop 5 0 (by omega) (by omega)
set_option maxHeartbeats 4000000 in
set_option maxRecDepth 100000 in
theorem n_bytes (l : Launch) (s : SG) (k : KG) (hb : nb_ s ≤ 80) (p : Int32) : kw_F l yX12_bytesIn cX12_bytesIn 4 (Option.some Jvm.ClassFile.FieldType.int) { frames := 0, cells := 0, slots := 0, locals := 0 } [pr_ (40, 0), pi_ p] (hM s k) (some (pi_ (nI (sumN (fun j => if liesB s j p then sz_ s j else 0) (nb_ s))))) (hM s k) := by
  refine kw_M_of RX12 "bytesIn" [some (pr_ (40, 0)), some (pi_ p), none, none] (by decide) rfl rfl rfl (Nat.le_of_ble_eq_true rfl) ?_
  intro D ad A
  refine kw_Kgen (fun K hK => ?_)
  have loop : ∀ (n_ : Nat) (j : Nat), nb_ s - j < n_ → j ≤ nb_ s → kw_G l D cX12_bytesIn RX12 (Option.some Jvm.ClassFile.FieldType.int) "bytesIn" { frames := 0, cells := 0, slots := 0, locals := 0 } A K ad (hM s k) 0 0 4 [some (pr_ (40, 0)), some (pi_ p), some (pi_ (nI (sumN (fun j => if liesB s j p then sz_ s j else 0) j))), some (pi_ (nI j))] [] := by
    intro n_
    induction n_ with
    | zero =>
      intro j hm_
      exact absurd hm_ (Nat.not_lt_zero _)
    | succ n_ ih =>
      intro j hm_ hj
      refine kw_iload_n dX12_bytesIn_4 rfl ?_
      refine kw_aload_n dX12_bytesIn_5 rfl ?_
      refine kw_get dX12_bytesIn_6 fl_X12_156 rfl rfl ?_
      refine kw_icmp_ge (tgt := 50) dX12_bytesIn_9 (by decide) (fun c9 => ?_) (fun c9 => ?_)
      · skip
        have e : j = nb_ s := Nat.le_antisymm hj (nI_le' (by omega) (by omega) c9)
        subst e
        refine kw_iload_n dX12_bytesIn_50 rfl ?_
        exact kw_iret dX12_bytesIn_51 rfl (Nat.le_of_ble_eq_true rfl) (Nat.le_of_ble_eq_true rfl) (hK _ _ _ ⟨rfl, rfl, rfl⟩)
      · skip
        have hlt : j < nb_ s := nI_nle' (by omega) (by omega) c9
        refine kw_iload_n dX12_bytesIn_12 rfl ?_
        refine kw_aload_n dX12_bytesIn_13 rfl ?_
        refine kw_get dX12_bytesIn_14 fl_X12_33 rfl rfl ?_
        refine kw_iload_n dX12_bytesIn_17 rfl ?_
        refine kw_zaldN dX12_bytesIn_18 rfl (by omega) (by decide) ?_
        refine kw_if_eq (tgt := 41) dX12_bytesIn_19 (by decide) (fun c19 => ?_) (fun c19 => ?_)
        · skip
          refine kw_iconst (v := 0) dX12_bytesIn_41 (by decide) ?_
          refine kw_iadd dX12_bytesIn_42 ?_
          refine kw_top (v' := pi_ (nI (sumN (fun j => if liesB s j p then sz_ s j else 0) (j + 1)))) (by rw [sumN, show liesB s j p = false from by unfold liesB; rw [b2_0.mp c19]; rfl]; exact congrArg pi_ (Int32.add_zero _)) ?_
          refine kw_istore_n dX12_bytesIn_43 (Nat.le_of_ble_eq_true rfl) ?_
          refine kw_iinc dX12_bytesIn_44 rfl (nI_i j) ?_
          refine kw_goto (tgt := 4) dX12_bytesIn_47 (by decide) ?_
          exact ih (j + 1) (by omega) (by omega)
        · skip
          have e19 := b2_n0.mp c19
          refine kw_aload_n dX12_bytesIn_22 rfl ?_
          refine kw_get dX12_bytesIn_23 fl_X12_37 rfl rfl ?_
          refine kw_iload_n dX12_bytesIn_26 rfl ?_
          refine kw_ialdN dX12_bytesIn_27 rfl (by omega) (by decide) ?_
          refine kw_iload_n dX12_bytesIn_28 rfl ?_
          refine kw_icmp_ne (tgt := 41) dX12_bytesIn_29 (by decide) (fun c29 => ?_) (fun c29 => ?_)
          · skip
            refine kw_iconst (v := 0) dX12_bytesIn_41 (by decide) ?_
            refine kw_iadd dX12_bytesIn_42 ?_
            refine kw_top (v' := pi_ (nI (sumN (fun j => if liesB s j p then sz_ s j else 0) (j + 1)))) (by rw [sumN, show liesB s j p = false from by unfold liesB; rw [decide_eq_false c29, Bool.and_false]]; exact congrArg pi_ (Int32.add_zero _)) ?_
            refine kw_istore_n dX12_bytesIn_43 (Nat.le_of_ble_eq_true rfl) ?_
            refine kw_iinc dX12_bytesIn_44 rfl (nI_i j) ?_
            refine kw_goto (tgt := 4) dX12_bytesIn_47 (by decide) ?_
            exact ih (j + 1) (by omega) (by omega)
          · skip
            have e29 : liesB s j p = true := by unfold liesB; rw [e19, decide_eq_true c29]; rfl
            refine kw_aload_n dX12_bytesIn_32 rfl ?_
            refine kw_get dX12_bytesIn_33 fl_X12_23 rfl rfl ?_
            refine kw_iload_n dX12_bytesIn_36 rfl ?_
            refine kw_ialdN dX12_bytesIn_37 rfl (by omega) (by decide) ?_
            refine kw_goto (tgt := 42) dX12_bytesIn_38 (by decide) ?_
            refine kw_iadd dX12_bytesIn_42 ?_
            refine kw_top (v' := pi_ (nI (sumN (fun j => if liesB s j p then sz_ s j else 0) (j + 1)))) (by rw [sumN, e29, if_pos rfl, nI_add]) ?_
            refine kw_istore_n dX12_bytesIn_43 (Nat.le_of_ble_eq_true rfl) ?_
            refine kw_iinc dX12_bytesIn_44 rfl (nI_i j) ?_
            refine kw_goto (tgt := 4) dX12_bytesIn_47 (by decide) ?_
            exact ih (j + 1) (by omega) (by omega)
  refine kw_iconst (v := 0) dX12_bytesIn_0 (by decide) ?_
  refine kw_istore_n dX12_bytesIn_1 (Nat.le_of_ble_eq_true rfl) ?_
  refine kw_iconst (v := 0) dX12_bytesIn_2 (by decide) ?_
  refine kw_istore_n dX12_bytesIn_3 (Nat.le_of_ble_eq_true rfl) ?_
  exact loop (nb_ s + 1) 0 (by omega) (by omega)
set_option maxHeartbeats 4000000 in
set_option maxRecDepth 100000 in
theorem n_blocks (l : Launch) (s : SG) (k : KG) (hb : nb_ s ≤ 80) (p : Int32) : kw_F l yX12_blocksIn cX12_blocksIn 4 (Option.some Jvm.ClassFile.FieldType.int) { frames := 0, cells := 0, slots := 0, locals := 0 } [pr_ (40, 0), pi_ p] (hM s k) (some (pi_ (nI (cntN (fun j => liesB s j p) (nb_ s))))) (hM s k) := by
  refine kw_M_of RX12 "blocksIn" [some (pr_ (40, 0)), some (pi_ p), none, none] (by decide) rfl rfl rfl (Nat.le_of_ble_eq_true rfl) ?_
  intro D ad A
  refine kw_Kgen (fun K hK => ?_)
  have loop : ∀ (n_ : Nat) (j : Nat), nb_ s - j < n_ → j ≤ nb_ s → kw_G l D cX12_blocksIn RX12 (Option.some Jvm.ClassFile.FieldType.int) "blocksIn" { frames := 0, cells := 0, slots := 0, locals := 0 } A K ad (hM s k) 0 0 4 [some (pr_ (40, 0)), some (pi_ p), some (pi_ (nI (cntN (fun j => liesB s j p) j))), some (pi_ (nI j))] [] := by
    intro n_
    induction n_ with
    | zero =>
      intro j hm_
      exact absurd hm_ (Nat.not_lt_zero _)
    | succ n_ ih =>
      intro j hm_ hj
      refine kw_iload_n dX12_blocksIn_4 rfl ?_
      refine kw_aload_n dX12_blocksIn_5 rfl ?_
      refine kw_get dX12_blocksIn_6 fl_X12_156 rfl rfl ?_
      refine kw_icmp_ge (tgt := 45) dX12_blocksIn_9 (by decide) (fun c9 => ?_) (fun c9 => ?_)
      · skip
        have e : j = nb_ s := Nat.le_antisymm hj (nI_le' (by omega) (by omega) c9)
        subst e
        refine kw_iload_n dX12_blocksIn_45 rfl ?_
        exact kw_iret dX12_blocksIn_46 rfl (Nat.le_of_ble_eq_true rfl) (Nat.le_of_ble_eq_true rfl) (hK _ _ _ ⟨rfl, rfl, rfl⟩)
      · skip
        have hlt : j < nb_ s := nI_nle' (by omega) (by omega) c9
        refine kw_iload_n dX12_blocksIn_12 rfl ?_
        refine kw_aload_n dX12_blocksIn_13 rfl ?_
        refine kw_get dX12_blocksIn_14 fl_X12_33 rfl rfl ?_
        refine kw_iload_n dX12_blocksIn_17 rfl ?_
        refine kw_zaldN dX12_blocksIn_18 rfl (by omega) (by decide) ?_
        refine kw_if_eq (tgt := 36) dX12_blocksIn_19 (by decide) (fun c19 => ?_) (fun c19 => ?_)
        · skip
          refine kw_iconst (v := 0) dX12_blocksIn_36 (by decide) ?_
          refine kw_iadd dX12_blocksIn_37 ?_
          refine kw_top (v' := pi_ (nI (cntN (fun j => liesB s j p) (j + 1)))) (cnt_f (p := fun j => liesB s j p) (by unfold liesB; rw [b2_0.mp c19]; rfl)) ?_
          refine kw_istore_n dX12_blocksIn_38 (Nat.le_of_ble_eq_true rfl) ?_
          refine kw_iinc dX12_blocksIn_39 rfl (nI_i j) ?_
          refine kw_goto (tgt := 4) dX12_blocksIn_42 (by decide) ?_
          exact ih (j + 1) (by omega) (by omega)
        · skip
          have e19 := b2_n0.mp c19
          refine kw_aload_n dX12_blocksIn_22 rfl ?_
          refine kw_get dX12_blocksIn_23 fl_X12_37 rfl rfl ?_
          refine kw_iload_n dX12_blocksIn_26 rfl ?_
          refine kw_ialdN dX12_blocksIn_27 rfl (by omega) (by decide) ?_
          refine kw_iload_n dX12_blocksIn_28 rfl ?_
          refine kw_icmp_ne (tgt := 36) dX12_blocksIn_29 (by decide) (fun c29 => ?_) (fun c29 => ?_)
          · skip
            refine kw_iconst (v := 0) dX12_blocksIn_36 (by decide) ?_
            refine kw_iadd dX12_blocksIn_37 ?_
            refine kw_top (v' := pi_ (nI (cntN (fun j => liesB s j p) (j + 1)))) (cnt_f (p := fun j => liesB s j p) (by unfold liesB; rw [decide_eq_false c29, Bool.and_false])) ?_
            refine kw_istore_n dX12_blocksIn_38 (Nat.le_of_ble_eq_true rfl) ?_
            refine kw_iinc dX12_blocksIn_39 rfl (nI_i j) ?_
            refine kw_goto (tgt := 4) dX12_blocksIn_42 (by decide) ?_
            exact ih (j + 1) (by omega) (by omega)
          · skip
            have e29 : liesB s j p = true := by unfold liesB; rw [e19, decide_eq_true c29]; rfl
            refine kw_iconst (v := 1) dX12_blocksIn_32 (by decide) ?_
            refine kw_goto (tgt := 37) dX12_blocksIn_33 (by decide) ?_
            refine kw_iadd dX12_blocksIn_37 ?_
            refine kw_top (v' := pi_ (nI (cntN (fun j => liesB s j p) (j + 1)))) (cnt_t (p := fun j => liesB s j p) e29) ?_
            refine kw_istore_n dX12_blocksIn_38 (Nat.le_of_ble_eq_true rfl) ?_
            refine kw_iinc dX12_blocksIn_39 rfl (nI_i j) ?_
            refine kw_goto (tgt := 4) dX12_blocksIn_42 (by decide) ?_
            exact ih (j + 1) (by omega) (by omega)
  refine kw_iconst (v := 0) dX12_blocksIn_0 (by decide) ?_
  refine kw_istore_n dX12_blocksIn_1 (Nat.le_of_ble_eq_true rfl) ?_
  refine kw_iconst (v := 0) dX12_blocksIn_2 (by decide) ?_
  refine kw_istore_n dX12_blocksIn_3 (Nat.le_of_ble_eq_true rfl) ?_
  exact loop (nb_ s + 1) 0 (by omega) (by omega)
set_option maxHeartbeats 4000000 in
set_option maxRecDepth 100000 in
theorem M_block (l : Launch) (s : SG) (k : KG) (hMI : MI s k) (hb : nb_ s ≤ 80) (hph : ph_ s ≤ 4) (hu : ∀ i, i < 4 → um_ s i ≤ 8) (hcm : ∀ j, j < nb_ s → cm_ s j ≤ 4) (hwt : ∀ j, th_ s j = false → wt_ s j = 0) (x w : Int32) : kw_F l yX12_block cX12_block 3 (Option.some Jvm.ClassFile.FieldType.int) { frames := 2, cells := 0, slots := 0, locals := 47 } [pr_ (40, 0), pi_ x, pi_ w] (hM s k) (some (pi_ (a_block s x w))) (hM s k) := by
  refine kw_M_of RX12 "block" [some (pr_ (40, 0)), some (pi_ x), some (pi_ w)] (by decide) rfl rfl rfl (Nat.le_of_ble_eq_true rfl) ?_
  intro D ad A
  refine kw_Kgen (fun K hK => ?_)
  refine kw_iload_n dX12_block_0 rfl ?_
  refine kw_i2l dX12_block_1 ?_
  refine kw_lconst (v := 0) dX12_block_2 (by decide) ?_
  refine kw_top (v' := pl_ ((0 : Int32).toInt64)) (by decide) ?_
  refine kw_aload_n dX12_block_3 rfl ?_
  refine kw_get dX12_block_4 fl_X12_156 rfl rfl ?_
  refine kw_iconst (v := 1) dX12_block_7 (by decide) ?_
  refine kw_isub dX12_block_8 ?_
  refine kw_i2l dX12_block_9 ?_
  refine kw_callSf (As := [pl_ x.toInt64, pl_ (0 : Int32).toInt64, pl_ (nI (nb_ s) - 1).toInt64]) (n_inI l _ x 0 (nI (nb_ s) - 1)) dX12_block_10 cl_X12_144 rfl rfl (Nat.le_of_ble_eq_true rfl) ⟨(Nat.le_of_ble_eq_true rfl), (Nat.le_of_ble_eq_true rfl), (Nat.le_of_ble_eq_true rfl), (Nat.le_of_ble_eq_true rfl)⟩ ?_
  refine kw_if_ne (tgt := 19) dX12_block_13 (by decide) (fun c13 => ?_) (fun c13 => ?_)
  · skip
    obtain ⟨j, hlt, rfl⟩ := inB_ix (by omega) (b2_n0.mp c13)
    have hc4 := hcm j hlt
    rw [a_block, if_neg (ix_in hlt (by omega)), show cl_ (nI j) = j from nI_clamp (by omega)] at hK
    refine kw_iload_n dX12_block_19 rfl ?_
    by_cases e0 : w = 0
    · skip
      subst e0
      refine kw_tableIn (off := 48) (tgt := 68) dX12_block_20 (by decide) (by decide) (by decide) (by decide) ?_
      refine kw_aload_n dX12_block_68 rfl ?_
      refine kw_get dX12_block_69 fl_X12_33 rfl rfl ?_
      refine kw_iload_n dX12_block_72 rfl ?_
      refine kw_zaldN dX12_block_73 rfl (by omega) (by decide) ?_
      refine kw_if_eq (tgt := 81) dX12_block_74 (by decide) (fun c74 => ?_) (fun c74 => ?_)
      · skip
        refine kw_iconst (v := 0) dX12_block_81 (by decide) ?_
        exact kw_iret dX12_block_82 rfl (Nat.le_of_ble_eq_true rfl) (Nat.le_of_ble_eq_true rfl) (hK _ _ _ ⟨rfl, congrArg (fun z => some (pi_ z)) (show (0 : Int32) = b2 (th_ s j) by rw [b2_0.mp c74]; rfl), rfl⟩)
      · skip
        refine kw_iconst (v := 1) dX12_block_77 (by decide) ?_
        refine kw_goto (tgt := 82) dX12_block_78 (by decide) ?_
        exact kw_iret dX12_block_82 rfl (Nat.le_of_ble_eq_true rfl) (Nat.le_of_ble_eq_true rfl) (hK _ _ _ ⟨rfl, congrArg (fun z => some (pi_ z)) (show (1 : Int32) = b2 (th_ s j) by rw [b2_n0.mp c74]; rfl), rfl⟩)
    by_cases e1 : w = 1
    · skip
      subst e1
      refine kw_tableIn (off := 63) (tgt := 83) dX12_block_20 (by decide) (by decide) (by decide) (by decide) ?_
      refine kw_aload_n dX12_block_83 rfl ?_
      refine kw_get dX12_block_84 fl_X12_23 rfl rfl ?_
      refine kw_iload_n dX12_block_87 rfl ?_
      refine kw_ialdN dX12_block_88 rfl (by omega) (by decide) ?_
      exact kw_iret dX12_block_89 rfl (Nat.le_of_ble_eq_true rfl) (Nat.le_of_ble_eq_true rfl) (hK _ _ _ ⟨rfl, rfl, rfl⟩)
    by_cases e2 : w = 2
    · skip
      subst e2
      refine kw_tableIn (off := 70) (tgt := 90) dX12_block_20 (by decide) (by decide) (by decide) (by decide) ?_
      refine kw_aload_n dX12_block_90 rfl ?_
      refine kw_get dX12_block_91 fl_X12_37 rfl rfl ?_
      refine kw_iload_n dX12_block_94 rfl ?_
      refine kw_ialdN dX12_block_95 rfl (by omega) (by decide) ?_
      exact kw_iret dX12_block_96 rfl (Nat.le_of_ble_eq_true rfl) (Nat.le_of_ble_eq_true rfl) (hK _ _ _ ⟨rfl, rfl, rfl⟩)
    by_cases e3 : w = 3
    · skip
      subst e3
      refine kw_tableIn (off := 77) (tgt := 97) dX12_block_20 (by decide) (by decide) (by decide) (by decide) ?_
      refine kw_aload_n dX12_block_97 rfl ?_
      refine kw_get dX12_block_98 fl_X12_40 rfl rfl ?_
      refine kw_iload_n dX12_block_101 rfl ?_
      refine kw_ialdN dX12_block_102 rfl (by omega) (by decide) ?_
      exact kw_iret dX12_block_103 rfl (Nat.le_of_ble_eq_true rfl) (Nat.le_of_ble_eq_true rfl) (hK _ _ _ ⟨rfl, rfl, rfl⟩)
    by_cases e4 : w = 4
    · skip
      subst e4
      refine kw_tableIn (off := 84) (tgt := 104) dX12_block_20 (by decide) (by decide) (by decide) (by decide) ?_
      refine kw_aload_n dX12_block_104 rfl ?_
      refine kw_get dX12_block_105 fl_X12_33 rfl rfl ?_
      refine kw_iload_n dX12_block_108 rfl ?_
      refine kw_zaldN dX12_block_109 rfl (by omega) (by decide) ?_
      refine kw_if_eq (tgt := 122) dX12_block_110 (by decide) (fun c110 => ?_) (fun c110 => ?_)
      · skip
        refine kw_iconst (v := 0) dX12_block_122 (by decide) ?_
        exact kw_iret dX12_block_123 rfl (Nat.le_of_ble_eq_true rfl) (Nat.le_of_ble_eq_true rfl) (hK _ _ _ ⟨rfl, congrArg (fun z => some (pi_ z)) (show (0 : Int32) = nI (wt_ s j) by rw [hwt j (b2_0.mp c110)]; rfl), rfl⟩)
      · skip
        refine kw_aload_n dX12_block_113 rfl ?_
        refine kw_get dX12_block_114 fl_X12_43 rfl rfl ?_
        refine kw_iload_n dX12_block_117 rfl ?_
        refine kw_ialdN dX12_block_118 rfl (by omega) (by decide) ?_
        refine kw_goto (tgt := 123) dX12_block_119 (by decide) ?_
        exact kw_iret dX12_block_123 rfl (Nat.le_of_ble_eq_true rfl) (Nat.le_of_ble_eq_true rfl) (hK _ _ _ ⟨rfl, rfl, rfl⟩)
    by_cases e5 : w = 5
    · skip
      subst e5
      refine kw_tableIn (off := 104) (tgt := 124) dX12_block_20 (by decide) (by decide) (by decide) (by decide) ?_
      refine kw_aload_n dX12_block_124 rfl ?_
      refine kw_get dX12_block_125 fl_X12_131 rfl rfl ?_
      refine kw_if_eq (tgt := 144) dX12_block_128 (by decide) (fun c128 => ?_) (fun c128 => ?_)
      · skip
        have e0 : ph_ s = 0 := nI_eq' (b := 0) (by omega) (by decide) c128
        refine kw_iconst (v := 0) dX12_block_144 (by decide) ?_
        exact kw_iret dX12_block_145 rfl (Nat.le_of_ble_eq_true rfl) (Nat.le_of_ble_eq_true rfl) (hK _ _ _ ⟨rfl, congrArg (fun z => some (pi_ z)) (show (0 : Int32) = b2 (!decide (ph_ s = 0) && mk_ s j) by rw [decide_eq_true e0]; rfl), rfl⟩)
      · skip
        have e0 : ¬ ph_ s = 0 := fun q => c128 (by rw [q]; rfl)
        refine kw_aload_n dX12_block_131 rfl ?_
        refine kw_get dX12_block_132 fl_X12_103 rfl rfl ?_
        refine kw_iload_n dX12_block_135 rfl ?_
        refine kw_zaldN dX12_block_136 rfl (by omega) (by decide) ?_
        refine kw_if_eq (tgt := 144) dX12_block_137 (by decide) (fun c137 => ?_) (fun c137 => ?_)
        · skip
          refine kw_iconst (v := 0) dX12_block_144 (by decide) ?_
          exact kw_iret dX12_block_145 rfl (Nat.le_of_ble_eq_true rfl) (Nat.le_of_ble_eq_true rfl) (hK _ _ _ ⟨rfl, congrArg (fun z => some (pi_ z)) (show (0 : Int32) = b2 (!decide (ph_ s = 0) && mk_ s j) by rw [b2_0.mp c137, Bool.and_false]; rfl), rfl⟩)
        · skip
          refine kw_iconst (v := 1) dX12_block_140 (by decide) ?_
          refine kw_goto (tgt := 145) dX12_block_141 (by decide) ?_
          exact kw_iret dX12_block_145 rfl (Nat.le_of_ble_eq_true rfl) (Nat.le_of_ble_eq_true rfl) (hK _ _ _ ⟨rfl, congrArg (fun z => some (pi_ z)) (show (1 : Int32) = b2 (!decide (ph_ s = 0) && mk_ s j) by rw [decide_eq_false e0, b2_n0.mp c137]; rfl), rfl⟩)
    by_cases e6 : w = 6
    · skip
      subst e6
      refine kw_tableIn (off := 126) (tgt := 146) dX12_block_20 (by decide) (by decide) (by decide) (by decide) ?_
      refine kw_aload_n dX12_block_146 rfl ?_
      refine kw_iload_n dX12_block_147 rfl ?_
      refine kw_callVf (As := [pi_ (nI j)]) (n_users l s k hMI hu (nI j)) dX12_block_148 cl_X12_319 rfl rfl rfl rfl (Nat.le_of_ble_eq_true rfl) ⟨(Nat.le_of_ble_eq_true rfl), (Nat.le_of_ble_eq_true rfl), (Nat.le_of_ble_eq_true rfl), (Nat.le_of_ble_eq_true rfl)⟩ ?_
      exact kw_iret dX12_block_151 rfl (Nat.le_of_ble_eq_true rfl) (Nat.le_of_ble_eq_true rfl) (hK _ _ _ ⟨rfl, rfl, rfl⟩)
    by_cases e7 : w = 7
    · skip
      subst e7
      refine kw_tableIn (off := 132) (tgt := 152) dX12_block_20 (by decide) (by decide) (by decide) (by decide) ?_
      refine kw_aload_n dX12_block_152 rfl ?_
      refine kw_get dX12_block_153 fl_X12_27 rfl rfl ?_
      refine kw_iload_n dX12_block_156 rfl ?_
      refine kw_ialdN dX12_block_157 rfl (by omega) (by decide) ?_
      exact kw_iret dX12_block_158 rfl (Nat.le_of_ble_eq_true rfl) (Nat.le_of_ble_eq_true rfl) (hK _ _ _ ⟨rfl, rfl, rfl⟩)
    have n0 : (w).toInt ≠ 0 := fun q => e0 (Int32.toInt_inj.mp (q.trans (by decide)))
    have n1 : (w).toInt ≠ 1 := fun q => e1 (Int32.toInt_inj.mp (q.trans (by decide)))
    have n2 : (w).toInt ≠ 2 := fun q => e2 (Int32.toInt_inj.mp (q.trans (by decide)))
    have n3 : (w).toInt ≠ 3 := fun q => e3 (Int32.toInt_inj.mp (q.trans (by decide)))
    have n4 : (w).toInt ≠ 4 := fun q => e4 (Int32.toInt_inj.mp (q.trans (by decide)))
    have n5 : (w).toInt ≠ 5 := fun q => e5 (Int32.toInt_inj.mp (q.trans (by decide)))
    have n6 : (w).toInt ≠ 6 := fun q => e6 (Int32.toInt_inj.mp (q.trans (by decide)))
    have n7 : (w).toInt ≠ 7 := fun q => e7 (Int32.toInt_inj.mp (q.trans (by decide)))
    refine kw_tableOut (tgt := 159) dX12_block_20 (by omega) (by decide) ?_
    rw [if_neg e0, if_neg e1, if_neg e2, if_neg e3, if_neg e4, if_neg e5, if_neg e6, if_neg e7] at hK
    refine kw_iload_n dX12_block_159 rfl ?_
    refine kw_i2l dX12_block_160 ?_
    refine kw_ldc2 dX12_block_161 kt_1283 ?_
    refine kw_top (v' := pl_ ((8 : Int32).toInt64)) (by decide) ?_
    refine kw_ldc2 dX12_block_164 kt_1284 ?_
    refine kw_top (v' := pl_ ((11 : Int32).toInt64)) (by decide) ?_
    refine kw_callSf (As := [pl_ w.toInt64, pl_ (8 : Int32).toInt64, pl_ (11 : Int32).toInt64]) (n_inI l _ w 8 11) dX12_block_167 cl_X12_144 rfl rfl (Nat.le_of_ble_eq_true rfl) ⟨(Nat.le_of_ble_eq_true rfl), (Nat.le_of_ble_eq_true rfl), (Nat.le_of_ble_eq_true rfl), (Nat.le_of_ble_eq_true rfl)⟩ ?_
    refine kw_if_ne (tgt := 178) dX12_block_170 (by decide) (fun c170 => ?_) (fun c170 => ?_)
    · skip
      have e170 := inB_t (b2_n0.mp c170)
      rw [if_pos e170] at hK
      obtain ⟨y, hy31, rfl⟩ := nI_of (x := w) (fun q => absurd (Int32.le_trans e170.1 (Int32.le_of_lt q)) (by decide))
      have hy8 : 8 ≤ y := nI_le' (a := 8) (by decide) hy31 e170.1
      have hy11 : y ≤ 11 := nI_le' (b := 11) hy31 (by decide) e170.2
      rw [show cl_ (nI y) = y from nI_clamp hy31] at hK
      refine kw_iload_n dX12_block_178 rfl ?_
      refine kw_bipush (v := (nI 8)) dX12_block_179 (by decide) ?_
      refine kw_isub dX12_block_181 ?_
      refine kw_top (v' := pi_ (nI (y - 8))) (by rw [pk_sub hy8]) ?_
      refine kw_aload_n dX12_block_182 rfl ?_
      refine kw_get dX12_block_183 fl_X12_27 rfl rfl ?_
      refine kw_iload_n dX12_block_186 rfl ?_
      refine kw_ialdN dX12_block_187 rfl (by omega) (by decide) ?_
      refine kw_icmp_ge (tgt := 207) dX12_block_188 (by decide) (fun c188 => ?_) (fun c188 => ?_)
      · skip
        have e188 : ¬ y - 8 < cm_ s j := fun q => absurd (nI_le' (by omega) (by omega) c188) (by omega)
        refine kw_iconst (v := (-1)) dX12_block_207 (by decide) ?_
        exact kw_iret dX12_block_208 rfl (Nat.le_of_ble_eq_true rfl) (Nat.le_of_ble_eq_true rfl) (hK _ _ _ ⟨rfl, by rw [if_neg e188], rfl⟩)
      · skip
        have e188 : y - 8 < cm_ s j := nI_nle' (by omega) (by omega) c188
        rw [if_pos e188] at hK
        refine kw_aload_n dX12_block_191 rfl ?_
        refine kw_get dX12_block_192 fl_X12_30 rfl rfl ?_
        refine kw_iconst (v := (nI 4)) dX12_block_195 (by decide) ?_
        refine kw_iload_n dX12_block_196 rfl ?_
        refine kw_imul dX12_block_197 ?_
        refine kw_top (v' := pi_ (nI (4 * j))) (by rw [nI_mul]) ?_
        refine kw_iload_n dX12_block_198 rfl ?_
        refine kw_iadd dX12_block_199 ?_
        refine kw_top (v' := pi_ (nI (4 * j + y))) (by rw [nI_add]) ?_
        refine kw_bipush (v := (nI 8)) dX12_block_200 (by decide) ?_
        refine kw_isub dX12_block_202 ?_
        refine kw_top (v' := pi_ (nI (4 * j + (y - 8)))) (by rw [pk_sub (by omega)]; exact congrArg (fun q => pi_ (nI q)) (by omega)) ?_
        refine kw_ialdN dX12_block_203 rfl (by omega) (by decide) ?_
        refine kw_top (v' := pi_ (nI (ch_ s j (y - 8)))) (by rw [← hMI.1 j hlt _ e188]) ?_
        refine kw_goto (tgt := 208) dX12_block_204 (by decide) ?_
        exact kw_iret dX12_block_208 rfl (Nat.le_of_ble_eq_true rfl) (Nat.le_of_ble_eq_true rfl) (hK _ _ _ ⟨rfl, rfl, rfl⟩)
    · skip
      refine kw_bipush (v := (-102)) dX12_block_173 (by decide) ?_
      refine kw_goto (tgt := 208) dX12_block_175 (by decide) ?_
      exact kw_iret dX12_block_208 rfl (Nat.le_of_ble_eq_true rfl) (Nat.le_of_ble_eq_true rfl) (hK _ _ _ ⟨rfl, by rw [if_neg (fun q => (inB_f (b2_0.mp c170)).elim (fun z => Int32.not_lt.mpr q.1 z) (fun z => Int32.not_lt.mpr q.2 z))], rfl⟩)
  · skip
    refine kw_bipush (v := (-101)) dX12_block_16 (by decide) ?_
    exact kw_iret dX12_block_18 rfl (Nat.le_of_ble_eq_true rfl) (Nat.le_of_ble_eq_true rfl) (hK _ _ _ ⟨rfl, by rw [a_block, if_pos (inB_out (by omega) (b2_0.mp c13))], rfl⟩)
set_option maxHeartbeats 4000000 in
set_option maxRecDepth 100000 in
theorem M_key (l : Launch) (s : SG) (k : KG) (hb : nb_ s ≤ 80) (x : Int32) : kw_F l yX12_key cX12_key 2 (Option.some Jvm.ClassFile.FieldType.long) { frames := 1, cells := 0, slots := 0, locals := 25 } [pr_ (40, 0), pi_ x] (hM s k) (some (pl_ (a_key s x))) (hM s k) := by
  refine kw_M_of RX12 "key" [some (pr_ (40, 0)), some (pi_ x)] (by decide) rfl rfl rfl (Nat.le_of_ble_eq_true rfl) ?_
  intro D ad A
  refine kw_Kgen (fun K hK => ?_)
  refine kw_iload_n dX12_key_0 rfl ?_
  refine kw_i2l dX12_key_1 ?_
  refine kw_lconst (v := 0) dX12_key_2 (by decide) ?_
  refine kw_top (v' := pl_ ((0 : Int32).toInt64)) (by decide) ?_
  refine kw_aload_n dX12_key_3 rfl ?_
  refine kw_get dX12_key_4 fl_X12_156 rfl rfl ?_
  refine kw_iconst (v := 1) dX12_key_7 (by decide) ?_
  refine kw_isub dX12_key_8 ?_
  refine kw_i2l dX12_key_9 ?_
  refine kw_callSf (As := [pl_ x.toInt64, pl_ (0 : Int32).toInt64, pl_ (nI (nb_ s) - 1).toInt64]) (n_inI l _ x 0 (nI (nb_ s) - 1)) dX12_key_10 cl_X12_144 rfl rfl (Nat.le_of_ble_eq_true rfl) ⟨(Nat.le_of_ble_eq_true rfl), (Nat.le_of_ble_eq_true rfl), (Nat.le_of_ble_eq_true rfl), (Nat.le_of_ble_eq_true rfl)⟩ ?_
  refine kw_if_eq (tgt := 25) dX12_key_13 (by decide) (fun c13 => ?_) (fun c13 => ?_)
  · skip
    refine kw_lconst (v := 0) dX12_key_25 (by decide) ?_
    exact kw_lret dX12_key_26 rfl (Nat.le_of_ble_eq_true rfl) (Nat.le_of_ble_eq_true rfl) (hK _ _ _ ⟨rfl, by rw [a_key, if_pos (inB_out (by omega) (b2_0.mp c13))], rfl⟩)
  · skip
    obtain ⟨j, hlt, rfl⟩ := inB_ix (by omega) (b2_n0.mp c13)
    rw [a_key, if_neg (ix_in hlt (by omega)), show cl_ (nI j) = j from nI_clamp (by omega)] at hK
    refine kw_aload_n dX12_key_16 rfl ?_
    refine kw_get dX12_key_17 fl_X12_19 rfl rfl ?_
    refine kw_iload_n dX12_key_20 rfl ?_
    refine kw_laldN dX12_key_21 rfl (by omega) (by decide) ?_
    refine kw_goto (tgt := 26) dX12_key_22 (by decide) ?_
    exact kw_lret dX12_key_26 rfl (Nat.le_of_ble_eq_true rfl) (Nat.le_of_ble_eq_true rfl) (hK _ _ _ ⟨rfl, rfl, rfl⟩)
set_option maxHeartbeats 4000000 in
set_option maxRecDepth 100000 in
theorem M_pack (l : Launch) (s : SG) (k : KG) (hb : nb_ s ≤ 80) (hp : np_ s ≤ 40) (hby : ∀ p, p < np_ s → byN s p ≤ al_ s p) (x w : Int32) : kw_F l yX12_pack cX12_pack 3 (Option.some Jvm.ClassFile.FieldType.int) { frames := 1, cells := 0, slots := 0, locals := 25 } [pr_ (40, 0), pi_ x, pi_ w] (hM s k) (some (pi_ (a_pack s x w))) (hM s k) := by
  refine kw_M_of RX12 "pack" [some (pr_ (40, 0)), some (pi_ x), some (pi_ w)] (by decide) rfl rfl rfl (Nat.le_of_ble_eq_true rfl) ?_
  intro D ad A
  refine kw_Kgen (fun K hK => ?_)
  refine kw_iload_n dX12_pack_0 rfl ?_
  refine kw_i2l dX12_pack_1 ?_
  refine kw_lconst (v := 0) dX12_pack_2 (by decide) ?_
  refine kw_top (v' := pl_ ((0 : Int32).toInt64)) (by decide) ?_
  refine kw_aload_n dX12_pack_3 rfl ?_
  refine kw_get dX12_pack_4 fl_X12_178 rfl rfl ?_
  refine kw_iconst (v := 1) dX12_pack_7 (by decide) ?_
  refine kw_isub dX12_pack_8 ?_
  refine kw_i2l dX12_pack_9 ?_
  refine kw_callSf (As := [pl_ x.toInt64, pl_ (0 : Int32).toInt64, pl_ (nI (np_ s) - 1).toInt64]) (n_inI l _ x 0 (nI (np_ s) - 1)) dX12_pack_10 cl_X12_144 rfl rfl (Nat.le_of_ble_eq_true rfl) ⟨(Nat.le_of_ble_eq_true rfl), (Nat.le_of_ble_eq_true rfl), (Nat.le_of_ble_eq_true rfl), (Nat.le_of_ble_eq_true rfl)⟩ ?_
  refine kw_if_ne (tgt := 19) dX12_pack_13 (by decide) (fun c13 => ?_) (fun c13 => ?_)
  · skip
    obtain ⟨j, hlt, rfl⟩ := inB_ix (by omega) (b2_n0.mp c13)
    rw [a_pack, if_neg (ix_in hlt (by omega)), show cl_ (nI j) = j from nI_clamp (by omega)] at hK
    refine kw_iload_n dX12_pack_19 rfl ?_
    by_cases e0 : w = 0
    · skip
      subst e0
      refine kw_tableIn (off := 32) (tgt := 52) dX12_pack_20 (by decide) (by decide) (by decide) (by decide) ?_
      refine kw_aload_n dX12_pack_52 rfl ?_
      refine kw_get dX12_pack_53 fl_X12_46 rfl rfl ?_
      refine kw_iload_n dX12_pack_56 rfl ?_
      refine kw_zaldN dX12_pack_57 rfl (by omega) (by decide) ?_
      refine kw_if_eq (tgt := 65) dX12_pack_58 (by decide) (fun c58 => ?_) (fun c58 => ?_)
      · skip
        refine kw_iconst (v := 1) dX12_pack_65 (by decide) ?_
        exact kw_iret dX12_pack_66 rfl (Nat.le_of_ble_eq_true rfl) (Nat.le_of_ble_eq_true rfl) (hK _ _ _ ⟨rfl, congrArg (fun z => some (pi_ z)) (show (1 : Int32) = b2 (!gn_ s j) by rw [b2_0.mp c58]; rfl), rfl⟩)
      · skip
        refine kw_iconst (v := 0) dX12_pack_61 (by decide) ?_
        refine kw_goto (tgt := 66) dX12_pack_62 (by decide) ?_
        exact kw_iret dX12_pack_66 rfl (Nat.le_of_ble_eq_true rfl) (Nat.le_of_ble_eq_true rfl) (hK _ _ _ ⟨rfl, congrArg (fun z => some (pi_ z)) (show (0 : Int32) = b2 (!gn_ s j) by rw [b2_n0.mp c58]; rfl), rfl⟩)
    by_cases e1 : w = 1
    · skip
      subst e1
      refine kw_tableIn (off := 47) (tgt := 67) dX12_pack_20 (by decide) (by decide) (by decide) (by decide) ?_
      refine kw_aload_n dX12_pack_67 rfl ?_
      refine kw_get dX12_pack_68 fl_X12_46 rfl rfl ?_
      refine kw_iload_n dX12_pack_71 rfl ?_
      refine kw_zaldN dX12_pack_72 rfl (by omega) (by decide) ?_
      refine kw_if_eq (tgt := 80) dX12_pack_73 (by decide) (fun c73 => ?_) (fun c73 => ?_)
      · skip
        refine kw_aload_n dX12_pack_80 rfl ?_
        refine kw_get dX12_pack_81 fl_X12_49 rfl rfl ?_
        refine kw_iload_n dX12_pack_84 rfl ?_
        refine kw_ialdN dX12_pack_85 rfl (by omega) (by decide) ?_
        exact kw_iret dX12_pack_86 rfl (Nat.le_of_ble_eq_true rfl) (Nat.le_of_ble_eq_true rfl) (hK _ _ _ ⟨rfl, congrArg (fun z => some (pi_ z)) (show nI (al_ s j) = if gn_ s j = true then 0 else nI (al_ s j) by rw [if_neg (by rw [b2_0.mp c73]; decide)]), rfl⟩)
      · skip
        refine kw_iconst (v := 0) dX12_pack_76 (by decide) ?_
        refine kw_goto (tgt := 86) dX12_pack_77 (by decide) ?_
        exact kw_iret dX12_pack_86 rfl (Nat.le_of_ble_eq_true rfl) (Nat.le_of_ble_eq_true rfl) (hK _ _ _ ⟨rfl, congrArg (fun z => some (pi_ z)) (show (0 : Int32) = if gn_ s j = true then 0 else nI (al_ s j) by rw [if_pos (b2_n0.mp c73)]), rfl⟩)
    by_cases e2 : w = 2
    · skip
      subst e2
      refine kw_tableIn (off := 67) (tgt := 87) dX12_pack_20 (by decide) (by decide) (by decide) (by decide) ?_
      refine kw_aload_n dX12_pack_87 rfl ?_
      refine kw_get dX12_pack_88 fl_X12_46 rfl rfl ?_
      refine kw_iload_n dX12_pack_91 rfl ?_
      refine kw_zaldN dX12_pack_92 rfl (by omega) (by decide) ?_
      refine kw_if_eq (tgt := 100) dX12_pack_93 (by decide) (fun c93 => ?_) (fun c93 => ?_)
      · skip
        refine kw_aload_n dX12_pack_100 rfl ?_
        refine kw_get dX12_pack_101 fl_X12_49 rfl rfl ?_
        refine kw_iload_n dX12_pack_104 rfl ?_
        refine kw_ialdN dX12_pack_105 rfl (by omega) (by decide) ?_
        refine kw_aload_n dX12_pack_106 rfl ?_
        refine kw_iload_n dX12_pack_107 rfl ?_
        refine kw_callVf (As := [pi_ (nI j)]) (n_bytes l s k hb (nI j)) dX12_pack_108 cl_X12_288 rfl rfl rfl rfl (Nat.le_of_ble_eq_true rfl) ⟨(Nat.le_of_ble_eq_true rfl), (Nat.le_of_ble_eq_true rfl), (Nat.le_of_ble_eq_true rfl), (Nat.le_of_ble_eq_true rfl)⟩ ?_
        refine kw_isub dX12_pack_111 ?_
        exact kw_iret dX12_pack_112 rfl (Nat.le_of_ble_eq_true rfl) (Nat.le_of_ble_eq_true rfl) (hK _ _ _ ⟨rfl, congrArg (fun z => some (pi_ z)) (show nI (al_ s j) - nI (byN s j) = if gn_ s j = true then 0 else nI (al_ s j - byN s j) by rw [if_neg (by rw [b2_0.mp c93]; decide), pk_sub (hby j hlt)]), rfl⟩)
      · skip
        refine kw_iconst (v := 0) dX12_pack_96 (by decide) ?_
        refine kw_goto (tgt := 112) dX12_pack_97 (by decide) ?_
        exact kw_iret dX12_pack_112 rfl (Nat.le_of_ble_eq_true rfl) (Nat.le_of_ble_eq_true rfl) (hK _ _ _ ⟨rfl, congrArg (fun z => some (pi_ z)) (show (0 : Int32) = if gn_ s j = true then 0 else nI (al_ s j - byN s j) by rw [if_pos (b2_n0.mp c93)]), rfl⟩)
    by_cases e3 : w = 3
    · skip
      subst e3
      refine kw_tableIn (off := 93) (tgt := 113) dX12_pack_20 (by decide) (by decide) (by decide) (by decide) ?_
      refine kw_aload_n dX12_pack_113 rfl ?_
      refine kw_iload_n dX12_pack_114 rfl ?_
      refine kw_callVf (As := [pi_ (nI j)]) (n_blocks l s k hb (nI j)) dX12_pack_115 cl_X12_291 rfl rfl rfl rfl (Nat.le_of_ble_eq_true rfl) ⟨(Nat.le_of_ble_eq_true rfl), (Nat.le_of_ble_eq_true rfl), (Nat.le_of_ble_eq_true rfl), (Nat.le_of_ble_eq_true rfl)⟩ ?_
      exact kw_iret dX12_pack_118 rfl (Nat.le_of_ble_eq_true rfl) (Nat.le_of_ble_eq_true rfl) (hK _ _ _ ⟨rfl, rfl, rfl⟩)
    have n0 : (w).toInt ≠ 0 := fun q => e0 (Int32.toInt_inj.mp (q.trans (by decide)))
    have n1 : (w).toInt ≠ 1 := fun q => e1 (Int32.toInt_inj.mp (q.trans (by decide)))
    have n2 : (w).toInt ≠ 2 := fun q => e2 (Int32.toInt_inj.mp (q.trans (by decide)))
    have n3 : (w).toInt ≠ 3 := fun q => e3 (Int32.toInt_inj.mp (q.trans (by decide)))
    refine kw_tableOut (tgt := 119) dX12_pack_20 (by omega) (by decide) ?_
    refine kw_bipush (v := (-102)) dX12_pack_119 (by decide) ?_
    exact kw_iret dX12_pack_121 rfl (Nat.le_of_ble_eq_true rfl) (Nat.le_of_ble_eq_true rfl) (hK _ _ _ ⟨rfl, by rw [if_neg e0, if_neg e1, if_neg e2, if_neg e3], rfl⟩)
  · skip
    refine kw_bipush (v := (-101)) dX12_pack_16 (by decide) ?_
    exact kw_iret dX12_pack_18 rfl (Nat.le_of_ble_eq_true rfl) (Nat.le_of_ble_eq_true rfl) (hK _ _ _ ⟨rfl, by rw [a_pack, if_pos (inB_out (by omega) (b2_0.mp c13))], rfl⟩)
set_option maxHeartbeats 4000000 in
set_option maxRecDepth 100000 in
theorem M_snapshot (l : Launch) (s : SG) (k : KG) (hMI : MI s k) (hns : ns_ s ≤ 40) (hrm : ∀ j, j < ns_ s → rm_ s j ≤ 8) (x w : Int32) : kw_F l yX12_snapshot cX12_snapshot 3 (Option.some Jvm.ClassFile.FieldType.int) { frames := 2, cells := 0, slots := 0, locals := 46 } [pr_ (40, 0), pi_ x, pi_ w] (hM s k) (some (pi_ (a_snapshot s x w))) (hM s k) := by
  refine kw_M_of RX12 "snapshot" [some (pr_ (40, 0)), some (pi_ x), some (pi_ w)] (by decide) rfl rfl rfl (Nat.le_of_ble_eq_true rfl) ?_
  intro D ad A
  refine kw_Kgen (fun K hK => ?_)
  refine kw_aload_n dX12_snapshot_0 rfl ?_
  refine kw_iload_n dX12_snapshot_1 rfl ?_
  refine kw_callVf (As := [pi_ x]) (n_isSnap l s k hns x) dX12_snapshot_2 cl_X12_225 rfl rfl rfl rfl (Nat.le_of_ble_eq_true rfl) ⟨(Nat.le_of_ble_eq_true rfl), (Nat.le_of_ble_eq_true rfl), (Nat.le_of_ble_eq_true rfl), (Nat.le_of_ble_eq_true rfl)⟩ ?_
  refine kw_if_ne (tgt := 11) dX12_snapshot_5 (by decide) (fun c5 => ?_) (fun c5 => ?_)
  · skip
    have e15 := b2_n0.mp c5
    obtain ⟨j, hj, e16⟩ := anyN_iff.mp e15
    rw [Bool.and_eq_true] at e16
    have ex := of_decide_eq_true e16.1
    subst ex
    have hr8 := hrm j hj
    rw [a_snapshot, if_pos e15, show cl_ (nI j) = j from nI_clamp (by omega)] at hK
    refine kw_iload_n dX12_snapshot_11 rfl ?_
    refine kw_i2l dX12_snapshot_12 ?_
    refine kw_lconst (v := 0) dX12_snapshot_13 (by decide) ?_
    refine kw_top (v' := pl_ ((0 : Int32).toInt64)) (by decide) ?_
    refine kw_iconst (v := (nI 1)) dX12_snapshot_14 (by decide) ?_
    refine kw_aload_n dX12_snapshot_15 rfl ?_
    refine kw_get dX12_snapshot_16 fl_X12_64 rfl rfl ?_
    refine kw_iload_n dX12_snapshot_19 rfl ?_
    refine kw_ialdN dX12_snapshot_20 rfl (by omega) (by decide) ?_
    refine kw_iadd dX12_snapshot_21 ?_
    refine kw_top (v' := pi_ (nI (rm_ s j + 1))) (by rw [nI_add, Nat.add_comm]) ?_
    refine kw_i2l dX12_snapshot_22 ?_
    refine kw_callSf (As := [pl_ w.toInt64, pl_ (0 : Int32).toInt64, pl_ (nI (rm_ s j + 1)).toInt64]) (n_inI l _ w 0 (nI (rm_ s j + 1))) dX12_snapshot_23 cl_X12_144 rfl rfl (Nat.le_of_ble_eq_true rfl) ⟨(Nat.le_of_ble_eq_true rfl), (Nat.le_of_ble_eq_true rfl), (Nat.le_of_ble_eq_true rfl), (Nat.le_of_ble_eq_true rfl)⟩ ?_
    refine kw_if_ne (tgt := 32) dX12_snapshot_26 (by decide) (fun c26 => ?_) (fun c26 => ?_)
    · skip
      obtain ⟨e26, e27⟩ := inB_t (b2_n0.mp c26)
      rw [if_neg (fun q => q.elim (fun z => Int32.not_lt.mpr e26 z) (fun z => Int32.not_lt.mpr e27 z))] at hK
      refine kw_iload_n dX12_snapshot_32 rfl ?_
      refine kw_if_ne (tgt := 45) dX12_snapshot_33 (by decide) (fun c33 => ?_) (fun c33 => ?_)
      · skip
        rw [if_neg c33] at hK
        refine kw_iload_n dX12_snapshot_45 rfl ?_
        refine kw_iconst (v := 1) dX12_snapshot_46 (by decide) ?_
        refine kw_icmp_ne (tgt := 59) dX12_snapshot_47 (by decide) (fun c47 => ?_) (fun c47 => ?_)
        · skip
          rw [if_neg c47] at hK
          obtain ⟨y, hy31, rfl⟩ := nI_of (x := w) (Int32.not_lt.mpr e26)
          have hy : y ≤ rm_ s j + 1 := nI_le' hy31 (by omega) e27
          have hy2 : 2 ≤ y := by
            have h0 : y ≠ 0 := fun q => c33 (by rw [q]; rfl)
            have h1 : y ≠ 1 := fun q => c47 (by rw [q]; rfl)
            omega
          rw [show cl_ (nI y) = y from nI_clamp hy31] at hK
          refine kw_aload_n dX12_snapshot_59 rfl ?_
          refine kw_get dX12_snapshot_60 fl_X12_67 rfl rfl ?_
          refine kw_bipush (v := (nI 8)) dX12_snapshot_63 (by decide) ?_
          refine kw_iload_n dX12_snapshot_65 rfl ?_
          refine kw_imul dX12_snapshot_66 ?_
          refine kw_top (v' := pi_ (nI (8 * j))) (by rw [nI_mul]) ?_
          refine kw_iload_n dX12_snapshot_67 rfl ?_
          refine kw_iadd dX12_snapshot_68 ?_
          refine kw_top (v' := pi_ (nI (8 * j + y))) (by rw [nI_add]) ?_
          refine kw_iconst (v := (nI 2)) dX12_snapshot_69 (by decide) ?_
          refine kw_isub dX12_snapshot_70 ?_
          refine kw_top (v' := pi_ (nI (8 * j + (y - 2)))) (by rw [pk_sub (by omega)]; exact congrArg (fun q => pi_ (nI q)) (by omega)) ?_
          refine kw_ialdN dX12_snapshot_71 rfl (by omega) (by decide) ?_
          refine kw_top (v' := pi_ (nI (ro_ s j (y - 2)))) (by rw [← hMI.2.1 j hj _ (by omega)]) ?_
          exact kw_iret dX12_snapshot_72 rfl (Nat.le_of_ble_eq_true rfl) (Nat.le_of_ble_eq_true rfl) (hK _ _ _ ⟨rfl, rfl, rfl⟩)
        · skip
          have e47 : w = 1 := c47
          rw [if_pos e47] at hK
          refine kw_aload_n dX12_snapshot_50 rfl ?_
          refine kw_get dX12_snapshot_51 fl_X12_64 rfl rfl ?_
          refine kw_iload_n dX12_snapshot_54 rfl ?_
          refine kw_ialdN dX12_snapshot_55 rfl (by omega) (by decide) ?_
          refine kw_goto (tgt := 72) dX12_snapshot_56 (by decide) ?_
          exact kw_iret dX12_snapshot_72 rfl (Nat.le_of_ble_eq_true rfl) (Nat.le_of_ble_eq_true rfl) (hK _ _ _ ⟨rfl, rfl, rfl⟩)
      · skip
        have e33 : w = 0 := c33
        rw [if_pos e33] at hK
        refine kw_aload_n dX12_snapshot_36 rfl ?_
        refine kw_get dX12_snapshot_37 fl_X12_61 rfl rfl ?_
        refine kw_iload_n dX12_snapshot_40 rfl ?_
        refine kw_ialdN dX12_snapshot_41 rfl (by omega) (by decide) ?_
        refine kw_goto (tgt := 72) dX12_snapshot_42 (by decide) ?_
        exact kw_iret dX12_snapshot_72 rfl (Nat.le_of_ble_eq_true rfl) (Nat.le_of_ble_eq_true rfl) (hK _ _ _ ⟨rfl, rfl, rfl⟩)
    · skip
      refine kw_bipush (v := (-102)) dX12_snapshot_29 (by decide) ?_
      exact kw_iret dX12_snapshot_31 rfl (Nat.le_of_ble_eq_true rfl) (Nat.le_of_ble_eq_true rfl) (hK _ _ _ ⟨rfl, by rw [if_pos (inB_f (b2_0.mp c26))], rfl⟩)
  · skip
    refine kw_bipush (v := (-101)) dX12_snapshot_8 (by decide) ?_
    exact kw_iret dX12_snapshot_10 rfl (Nat.le_of_ble_eq_true rfl) (Nat.le_of_ble_eq_true rfl) (hK _ _ _ ⟨rfl, by rw [a_snapshot, if_neg (by rw [b2_0.mp c5]; decide)], rfl⟩)
set_option maxHeartbeats 4000000 in
set_option maxRecDepth 100000 in
theorem M_time (l : Launch) (s : SG) (k : KG) (hns : ns_ s ≤ 40) (x : Int32) : kw_F l yX12_time cX12_time 2 (Option.some Jvm.ClassFile.FieldType.long) { frames := 2, cells := 0, slots := 0, locals := 46 } [pr_ (40, 0), pi_ x] (hM s k) (some (pl_ (a_time s x))) (hM s k) := by
  refine kw_M_of RX12 "time" [some (pr_ (40, 0)), some (pi_ x)] (by decide) rfl rfl rfl (Nat.le_of_ble_eq_true rfl) ?_
  intro D ad A
  refine kw_Kgen (fun K hK => ?_)
  refine kw_aload_n dX12_time_0 rfl ?_
  refine kw_iload_n dX12_time_1 rfl ?_
  refine kw_callVf (As := [pi_ x]) (n_isSnap l s k hns x) dX12_time_2 cl_X12_225 rfl rfl rfl rfl (Nat.le_of_ble_eq_true rfl) ⟨(Nat.le_of_ble_eq_true rfl), (Nat.le_of_ble_eq_true rfl), (Nat.le_of_ble_eq_true rfl), (Nat.le_of_ble_eq_true rfl)⟩ ?_
  refine kw_if_eq (tgt := 17) dX12_time_5 (by decide) (fun c5 => ?_) (fun c5 => ?_)
  · skip
    refine kw_lconst (v := 0) dX12_time_17 (by decide) ?_
    exact kw_lret dX12_time_18 rfl (Nat.le_of_ble_eq_true rfl) (Nat.le_of_ble_eq_true rfl) (hK _ _ _ ⟨rfl, by rw [a_time, if_neg (by rw [b2_0.mp c5]; decide)], rfl⟩)
  · skip
    have e15 := b2_n0.mp c5
    obtain ⟨j, hj, e16⟩ := anyN_iff.mp e15
    rw [Bool.and_eq_true] at e16
    have ex := of_decide_eq_true e16.1
    subst ex
    rw [a_time, if_pos e15, show cl_ (nI j) = j from nI_clamp (by omega)] at hK
    refine kw_aload_n dX12_time_8 rfl ?_
    refine kw_get dX12_time_9 fl_X12_58 rfl rfl ?_
    refine kw_iload_n dX12_time_12 rfl ?_
    refine kw_laldN dX12_time_13 rfl (by omega) (by decide) ?_
    refine kw_goto (tgt := 18) dX12_time_14 (by decide) ?_
    exact kw_lret dX12_time_18 rfl (Nat.le_of_ble_eq_true rfl) (Nat.le_of_ble_eq_true rfl) (hK _ _ _ ⟨rfl, rfl, rfl⟩)
set_option maxHeartbeats 4000000 in
set_option maxRecDepth 100000 in
theorem M_saver (l : Launch) (s : SG) (k : KG) (hMI : MI s k) (hu : ∀ i, i < 4 → um_ s i ≤ 8) (x w : Int32) : kw_F l yX12_saver cX12_saver 3 (Option.some Jvm.ClassFile.FieldType.int) { frames := 2, cells := 0, slots := 0, locals := 46 } [pr_ (40, 0), pi_ x, pi_ w] (hM s k) (some (pi_ (a_saver s x w))) (hM s k) := by
  refine kw_M_of RX12 "saver" [some (pr_ (40, 0)), some (pi_ x), some (pi_ w)] (by decide) rfl rfl rfl (Nat.le_of_ble_eq_true rfl) ?_
  intro D ad A
  refine kw_Kgen (fun K hK => ?_)
  refine kw_aload_n dX12_saver_0 rfl ?_
  refine kw_iload_n dX12_saver_1 rfl ?_
  refine kw_callVf (As := [pi_ x]) (n_isSaver l s k x) dX12_saver_2 cl_X12_165 rfl rfl rfl rfl (Nat.le_of_ble_eq_true rfl) ⟨(Nat.le_of_ble_eq_true rfl), (Nat.le_of_ble_eq_true rfl), (Nat.le_of_ble_eq_true rfl), (Nat.le_of_ble_eq_true rfl)⟩ ?_
  refine kw_if_ne (tgt := 11) dX12_saver_5 (by decide) (fun c5 => ?_) (fun c5 => ?_)
  · skip
    have e15 := b2_n0.mp c5
    obtain ⟨j, hj, e16⟩ := anyN_iff.mp e15
    rw [Bool.and_eq_true] at e16
    have ex := of_decide_eq_true e16.1
    subst ex
    have hr8 := hu j hj
    rw [a_saver, if_pos e15, show cl_ (nI j) = j from nI_clamp (by omega)] at hK
    refine kw_iload_n dX12_saver_11 rfl ?_
    refine kw_i2l dX12_saver_12 ?_
    refine kw_lconst (v := 0) dX12_saver_13 (by decide) ?_
    refine kw_top (v' := pl_ ((0 : Int32).toInt64)) (by decide) ?_
    refine kw_iconst (v := (nI 2)) dX12_saver_14 (by decide) ?_
    refine kw_aload_n dX12_saver_15 rfl ?_
    refine kw_get dX12_saver_16 fl_X12_88 rfl rfl ?_
    refine kw_iload_n dX12_saver_19 rfl ?_
    refine kw_ialdN dX12_saver_20 rfl (by omega) (by decide) ?_
    refine kw_iadd dX12_saver_21 ?_
    refine kw_top (v' := pi_ (nI (um_ s j + 2))) (by rw [nI_add, Nat.add_comm]) ?_
    refine kw_i2l dX12_saver_22 ?_
    refine kw_callSf (As := [pl_ w.toInt64, pl_ (0 : Int32).toInt64, pl_ (nI (um_ s j + 2)).toInt64]) (n_inI l _ w 0 (nI (um_ s j + 2))) dX12_saver_23 cl_X12_144 rfl rfl (Nat.le_of_ble_eq_true rfl) ⟨(Nat.le_of_ble_eq_true rfl), (Nat.le_of_ble_eq_true rfl), (Nat.le_of_ble_eq_true rfl), (Nat.le_of_ble_eq_true rfl)⟩ ?_
    refine kw_if_ne (tgt := 32) dX12_saver_26 (by decide) (fun c26 => ?_) (fun c26 => ?_)
    · skip
      obtain ⟨e26, e27⟩ := inB_t (b2_n0.mp c26)
      rw [if_neg (fun q => q.elim (fun z => Int32.not_lt.mpr e26 z) (fun z => Int32.not_lt.mpr e27 z))] at hK
      refine kw_iload_n dX12_saver_32 rfl ?_
      refine kw_if_ne (tgt := 52) dX12_saver_33 (by decide) (fun c33 => ?_) (fun c33 => ?_)
      · skip
        rw [if_neg c33] at hK
        refine kw_iload_n dX12_saver_52 rfl ?_
        refine kw_iconst (v := 1) dX12_saver_53 (by decide) ?_
        refine kw_icmp_ne (tgt := 66) dX12_saver_54 (by decide) (fun c54 => ?_) (fun c54 => ?_)
        · skip
          rw [if_neg c54] at hK
          refine kw_iload_n dX12_saver_66 rfl ?_
          refine kw_iconst (v := 2) dX12_saver_67 (by decide) ?_
          refine kw_icmp_ne (tgt := 80) dX12_saver_68 (by decide) (fun c68 => ?_) (fun c68 => ?_)
          · skip
            rw [if_neg c68] at hK
            obtain ⟨y, hy31, rfl⟩ := nI_of (x := w) (Int32.not_lt.mpr e26)
            have hy : y ≤ um_ s j + 2 := nI_le' hy31 (by omega) e27
            have hy2 : 3 ≤ y := by
              have h0 : y ≠ 0 := fun q => c33 (by rw [q]; rfl)
              have h1 : y ≠ 1 := fun q => c54 (by rw [q]; rfl)
              have h2 : y ≠ 2 := fun q => c68 (by rw [q]; rfl)
              omega
            rw [show cl_ (nI y) = y from nI_clamp hy31] at hK
            refine kw_aload_n dX12_saver_80 rfl ?_
            refine kw_get dX12_saver_81 fl_X12_91 rfl rfl ?_
            refine kw_bipush (v := (nI 8)) dX12_saver_84 (by decide) ?_
            refine kw_iload_n dX12_saver_86 rfl ?_
            refine kw_imul dX12_saver_87 ?_
            refine kw_top (v' := pi_ (nI (8 * j))) (by rw [nI_mul]) ?_
            refine kw_iload_n dX12_saver_88 rfl ?_
            refine kw_iadd dX12_saver_89 ?_
            refine kw_top (v' := pi_ (nI (8 * j + y))) (by rw [nI_add]) ?_
            refine kw_iconst (v := (nI 3)) dX12_saver_90 (by decide) ?_
            refine kw_isub dX12_saver_91 ?_
            refine kw_top (v' := pi_ (nI (8 * j + (y - 3)))) (by rw [pk_sub (by omega)]; exact congrArg (fun q => pi_ (nI q)) (by omega)) ?_
            refine kw_ialdN dX12_saver_92 rfl (by omega) (by decide) ?_
            refine kw_top (v' := pi_ (nI (us_ s j (y - 3)))) (by rw [← hMI.2.2.1 j hj _ (by omega)]) ?_
            exact kw_iret dX12_saver_93 rfl (Nat.le_of_ble_eq_true rfl) (Nat.le_of_ble_eq_true rfl) (hK _ _ _ ⟨rfl, rfl, rfl⟩)
          · skip
            have e68 : w = 2 := c68
            rw [if_pos e68] at hK
            refine kw_aload_n dX12_saver_71 rfl ?_
            refine kw_get dX12_saver_72 fl_X12_94 rfl rfl ?_
            refine kw_iload_n dX12_saver_75 rfl ?_
            refine kw_ialdN dX12_saver_76 rfl (by omega) (by decide) ?_
            refine kw_goto (tgt := 93) dX12_saver_77 (by decide) ?_
            exact kw_iret dX12_saver_93 rfl (Nat.le_of_ble_eq_true rfl) (Nat.le_of_ble_eq_true rfl) (hK _ _ _ ⟨rfl, rfl, rfl⟩)
        · skip
          have e54 : w = 1 := c54
          rw [if_pos e54] at hK
          refine kw_aload_n dX12_saver_57 rfl ?_
          refine kw_get dX12_saver_58 fl_X12_88 rfl rfl ?_
          refine kw_iload_n dX12_saver_61 rfl ?_
          refine kw_ialdN dX12_saver_62 rfl (by omega) (by decide) ?_
          refine kw_goto (tgt := 93) dX12_saver_63 (by decide) ?_
          exact kw_iret dX12_saver_93 rfl (Nat.le_of_ble_eq_true rfl) (Nat.le_of_ble_eq_true rfl) (hK _ _ _ ⟨rfl, rfl, rfl⟩)
      · skip
        have e33 : w = 0 := c33
        rw [if_pos e33] at hK
        refine kw_aload_n dX12_saver_36 rfl ?_
        refine kw_iload_n dX12_saver_37 rfl ?_
        refine kw_callVf (As := [pi_ (nI j)]) (n_isDead l s k j hj) dX12_saver_38 cl_X12_159 rfl rfl rfl rfl (Nat.le_of_ble_eq_true rfl) ⟨(Nat.le_of_ble_eq_true rfl), (Nat.le_of_ble_eq_true rfl), (Nat.le_of_ble_eq_true rfl), (Nat.le_of_ble_eq_true rfl)⟩ ?_
        refine kw_if_eq (tgt := 48) dX12_saver_41 (by decide) (fun c41 => ?_) (fun c41 => ?_)
        · skip
          refine kw_iconst (v := 0) dX12_saver_48 (by decide) ?_
          refine kw_goto (tgt := 93) dX12_saver_49 (by decide) ?_
          exact kw_iret dX12_saver_93 rfl (Nat.le_of_ble_eq_true rfl) (Nat.le_of_ble_eq_true rfl) (hK _ _ _ ⟨rfl, congrArg (fun z => some (pi_ z)) (show (0 : Int32) = b2 (dead_ s j) by rw [b2_0.mp c41]; rfl), rfl⟩)
        · skip
          refine kw_iconst (v := 1) dX12_saver_44 (by decide) ?_
          refine kw_goto (tgt := 93) dX12_saver_45 (by decide) ?_
          exact kw_iret dX12_saver_93 rfl (Nat.le_of_ble_eq_true rfl) (Nat.le_of_ble_eq_true rfl) (hK _ _ _ ⟨rfl, congrArg (fun z => some (pi_ z)) (show (1 : Int32) = b2 (dead_ s j) by rw [b2_n0.mp c41]; rfl), rfl⟩)
    · skip
      refine kw_bipush (v := (-102)) dX12_saver_29 (by decide) ?_
      exact kw_iret dX12_saver_31 rfl (Nat.le_of_ble_eq_true rfl) (Nat.le_of_ble_eq_true rfl) (hK _ _ _ ⟨rfl, by rw [if_pos (inB_f (b2_0.mp c26))], rfl⟩)
  · skip
    refine kw_bipush (v := (-101)) dX12_saver_8 (by decide) ?_
    exact kw_iret dX12_saver_10 rfl (Nat.le_of_ble_eq_true rfl) (Nat.le_of_ble_eq_true rfl) (hK _ _ _ ⟨rfl, by rw [a_saver, if_neg (by rw [b2_0.mp c5]; decide)], rfl⟩)
theorem sw_123 {w : Int32} (h0 : ¬ w = 0) (h1 : 0 ≤ w) (h3 : w ≤ 3) : w = 1 ∨ w = 2 ∨ w = 3 := by
  obtain ⟨y, hy, rfl⟩ := nI_of (x := w) (Int32.not_lt.mpr h1)
  have h4 : y ≤ 3 := nI_le' (b := 3) hy (by decide) h3
  have h5 : y ≠ 0 := fun q => h0 (by rw [q]; rfl)
  have : y = 1 ∨ y = 2 ∨ y = 3 := by omega
  rcases this with rfl | rfl | rfl
  · exact Or.inl rfl
  · exact Or.inr (Or.inl rfl)
  · exact Or.inr (Or.inr rfl)
set_option maxHeartbeats 4000000 in
set_option maxRecDepth 100000 in
theorem M_swept (l : Launch) (s : SG) (k : KG) (hph : ph_ s ≤ 4) (hrf : rf_ s ≤ rt_ s) (hnx : 2 ≤ ph_ s → nx_ k = nI (at_ s)) (w : Int32) : kw_F l yX12_swept cX12_swept 2 (Option.some Jvm.ClassFile.FieldType.int) { frames := 1, cells := 0, slots := 0, locals := 25 } [pr_ (40, 0), pi_ w] (hM s k) (some (pi_ (a_swept s w))) (hM s k) := by
  refine kw_M_of RX12 "swept" [some (pr_ (40, 0)), some (pi_ w)] (by decide) rfl rfl rfl (Nat.le_of_ble_eq_true rfl) ?_
  intro D ad A
  refine kw_Kgen (fun K hK => ?_)
  refine kw_iload_n dX12_swept_0 rfl ?_
  refine kw_i2l dX12_swept_1 ?_
  refine kw_lconst (v := 0) dX12_swept_2 (by decide) ?_
  refine kw_top (v' := pl_ ((0 : Int32).toInt64)) (by decide) ?_
  refine kw_ldc2 dX12_swept_3 kt_1100 ?_
  refine kw_top (v' := pl_ ((3 : Int32).toInt64)) (by decide) ?_
  refine kw_callSf (As := [pl_ w.toInt64, pl_ (0 : Int32).toInt64, pl_ (3 : Int32).toInt64]) (n_inI l _ w 0 3) dX12_swept_6 cl_X12_144 rfl rfl (Nat.le_of_ble_eq_true rfl) ⟨(Nat.le_of_ble_eq_true rfl), (Nat.le_of_ble_eq_true rfl), (Nat.le_of_ble_eq_true rfl), (Nat.le_of_ble_eq_true rfl)⟩ ?_
  refine kw_if_ne (tgt := 15) dX12_swept_9 (by decide) (fun c9 => ?_) (fun c9 => ?_)
  · skip
    have e9 := inB_t (b2_n0.mp c9)
    refine kw_iload_n dX12_swept_15 rfl ?_
    refine kw_if_ne (tgt := 24) dX12_swept_16 (by decide) (fun c16 => ?_) (fun c16 => ?_)
    · skip
      rw [a_swept, if_neg c16] at hK
      have hw3 : w = 1 ∨ w = 2 ∨ w = 3 := sw_123 c16 e9.1 e9.2
      refine kw_aload_n dX12_swept_24 rfl ?_
      refine kw_get dX12_swept_25 fl_X12_131 rfl rfl ?_
      refine kw_if_ne (tgt := 33) dX12_swept_28 (by decide) (fun c28 => ?_) (fun c28 => ?_)
      · skip
        have e28 : ¬ ph_ s = 0 := fun q => c28 (by rw [q]; rfl)
        refine kw_iload_n dX12_swept_33 rfl ?_
        refine kw_iconst (v := 1) dX12_swept_34 (by decide) ?_
        refine kw_icmp_ne (tgt := 62) dX12_swept_35 (by decide) (fun c35 => ?_) (fun c35 => ?_)
        · skip
          rw [if_neg c35] at hK
          refine kw_iload_n dX12_swept_62 rfl ?_
          refine kw_iconst (v := 2) dX12_swept_63 (by decide) ?_
          refine kw_icmp_ne (tgt := 74) dX12_swept_64 (by decide) (fun c64 => ?_) (fun c64 => ?_)
          · skip
            have e64 : w = 3 := (hw3.resolve_left c35).resolve_left c64
            rw [if_neg c64, if_pos e64] at hK
            refine kw_aload_n dX12_swept_74 rfl ?_
            refine kw_get dX12_swept_75 fl_X12_131 rfl rfl ?_
            refine kw_iconst (v := 1) dX12_swept_78 (by decide) ?_
            refine kw_icmp_ne (tgt := 86) dX12_swept_79 (by decide) (fun c79 => ?_) (fun c79 => ?_)
            · skip
              have e79 : ¬ ph_ s = 1 := fun q => c79 (by rw [q]; rfl)
              rw [if_neg (fun q => q.elim e28 e79), ← hnx (by omega)] at hK
              refine kw_aload_n dX12_swept_86 rfl ?_
              refine kw_get dX12_swept_87 fl_X12_267 rfl rfl ?_
              exact kw_iret dX12_swept_90 rfl (Nat.le_of_ble_eq_true rfl) (Nat.le_of_ble_eq_true rfl) (hK _ _ _ ⟨rfl, rfl, rfl⟩)
            · skip
              have e79 : ph_ s = 1 := nI_eq' (b := 1) (by omega) (by decide) c79
              rw [if_pos (Or.inr e79)] at hK
              refine kw_iconst (v := (-1)) dX12_swept_82 (by decide) ?_
              refine kw_goto (tgt := 90) dX12_swept_83 (by decide) ?_
              exact kw_iret dX12_swept_90 rfl (Nat.le_of_ble_eq_true rfl) (Nat.le_of_ble_eq_true rfl) (hK _ _ _ ⟨rfl, rfl, rfl⟩)
          · skip
            have e64 : w = 2 := c64
            rw [if_pos e64, if_neg e28] at hK
            refine kw_aload_n dX12_swept_67 rfl ?_
            refine kw_get dX12_swept_68 fl_X12_270 rfl rfl ?_
            refine kw_goto (tgt := 90) dX12_swept_71 (by decide) ?_
            exact kw_iret dX12_swept_90 rfl (Nat.le_of_ble_eq_true rfl) (Nat.le_of_ble_eq_true rfl) (hK _ _ _ ⟨rfl, rfl, rfl⟩)
        · skip
          have e35 : w = 1 := c35
          rw [if_pos e35, if_neg e28] at hK
          refine kw_aload_n dX12_swept_38 rfl ?_
          refine kw_get dX12_swept_39 fl_X12_131 rfl rfl ?_
          refine kw_iconst (v := 1) dX12_swept_42 (by decide) ?_
          refine kw_icmp_ne (tgt := 58) dX12_swept_43 (by decide) (fun c43 => ?_) (fun c43 => ?_)
          · skip
            rw [if_neg (fun q => c43 (by rw [q]; rfl))] at hK
            refine kw_iconst (v := 0) dX12_swept_58 (by decide) ?_
            refine kw_goto (tgt := 90) dX12_swept_59 (by decide) ?_
            exact kw_iret dX12_swept_90 rfl (Nat.le_of_ble_eq_true rfl) (Nat.le_of_ble_eq_true rfl) (hK _ _ _ ⟨rfl, rfl, rfl⟩)
          · skip
            have e43 : ph_ s = 1 := nI_eq' (b := 1) (by omega) (by decide) c43
            rw [if_pos e43] at hK
            refine kw_aload_n dX12_swept_46 rfl ?_
            refine kw_get dX12_swept_47 fl_X12_215 rfl rfl ?_
            refine kw_aload_n dX12_swept_50 rfl ?_
            refine kw_get dX12_swept_51 fl_X12_264 rfl rfl ?_
            refine kw_isub dX12_swept_54 ?_
            refine kw_top (v' := pi_ (nI (rt_ s - rf_ s))) (by rw [pk_sub hrf]) ?_
            refine kw_goto (tgt := 90) dX12_swept_55 (by decide) ?_
            exact kw_iret dX12_swept_90 rfl (Nat.le_of_ble_eq_true rfl) (Nat.le_of_ble_eq_true rfl) (hK _ _ _ ⟨rfl, rfl, rfl⟩)
      · skip
        have e28 : ph_ s = 0 := nI_eq' (b := 0) (by omega) (by decide) c28
        refine kw_iconst (v := (-1)) dX12_swept_31 (by decide) ?_
        exact kw_iret dX12_swept_32 rfl (Nat.le_of_ble_eq_true rfl) (Nat.le_of_ble_eq_true rfl) (hK _ _ _ ⟨rfl, by rcases hw3 with rfl | rfl | rfl <;> simp [e28], rfl⟩)
    · skip
      have e16 : w = 0 := c16
      rw [a_swept, if_pos e16] at hK
      refine kw_aload_n dX12_swept_19 rfl ?_
      refine kw_get dX12_swept_20 fl_X12_131 rfl rfl ?_
      exact kw_iret dX12_swept_23 rfl (Nat.le_of_ble_eq_true rfl) (Nat.le_of_ble_eq_true rfl) (hK _ _ _ ⟨rfl, rfl, rfl⟩)
  · skip
    have e9 := inB_f (b2_0.mp c9)
    refine kw_bipush (v := (-102)) dX12_swept_12 (by decide) ?_
    exact kw_iret dX12_swept_14 rfl (Nat.le_of_ble_eq_true rfl) (Nat.le_of_ble_eq_true rfl) (hK _ _ _ ⟨rfl, by rw [a_swept, if_neg (fun q => by subst q; revert e9; decide), if_neg (fun q => by subst q; revert e9; decide), if_neg (fun q => by subst q; revert e9; decide), if_neg (fun q => by subst q; revert e9; decide)], rfl⟩)
