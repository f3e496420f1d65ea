/-! THE MODEL'S RULES -/
set_option maxHeartbeats 4000000 in
set_option maxRecDepth 100000 in
theorem n_behind0 (l : Launch) (s : SG) (k : KG) (hns : ns_ s ≤ 40)  : kw_F l yX12_behind cX12_behind 4 (Option.some Jvm.ClassFile.FieldType.int) { frames := 0, cells := 0, slots := 0, locals := 0 } [pr_ (40, 0), pi_ (-1)] (hM s k) (some (pi_ (encO (prevK (kp_ s) (ns_ s))))) (hM s k) := by
  refine kw_M_of RX12 "behind" [some (pr_ (40, 0)), some (pi_ (-1)), none, none] (by decide) rfl rfl rfl (Nat.le_of_ble_eq_true rfl) ?_
  intro D ad A
  refine kw_Kgen (fun K hK => ?_)
  have loop : ∀ (n_ : Nat) (i : Nat), ns_ s - i < n_ → i ≤ ns_ s → kw_G l D cX12_behind RX12 (Option.some Jvm.ClassFile.FieldType.int) "behind" { frames := 0, cells := 0, slots := 0, locals := 0 } A K ad (hM s k) 0 0 4 [some (pr_ (40, 0)), some (pi_ (-1)), some (pi_ (encO (prevK (kp_ s) i))), some (pi_ (nI i))] [] := by
    intro n_
    induction n_ with
    | zero =>
      intro i hm_
      exact absurd hm_ (Nat.not_lt_zero _)
    | succ n_ ih =>
      intro i hm_ hi
      refine kw_iload_n dX12_behind_4 rfl ?_
      refine kw_aload_n dX12_behind_5 rfl ?_
      refine kw_get dX12_behind_6 fl_X12_218 rfl rfl ?_
      refine kw_icmp_ge (tgt := 43) dX12_behind_9 (by decide) (fun c9 => ?_) (fun c9 => ?_)
      · skip
        have e : i = ns_ s := Nat.le_antisymm hi (nI_le' (by omega) (by omega) c9)
        rw [e]
        refine kw_iload_n dX12_behind_43 rfl ?_
        exact kw_iret dX12_behind_44 rfl (Nat.le_of_ble_eq_true rfl) (Nat.le_of_ble_eq_true rfl) (hK _ _ _ ⟨rfl, rfl, rfl⟩)
      · skip
        have hlt : i < ns_ s := nI_nle' (by omega) (by omega) c9
        refine kw_aload_n dX12_behind_12 rfl ?_
        refine kw_get dX12_behind_13 fl_X12_55 rfl rfl ?_
        refine kw_iload_n dX12_behind_16 rfl ?_
        refine kw_zaldN dX12_behind_17 rfl (by omega) (by decide) ?_
        refine kw_if_eq (tgt := 35) dX12_behind_18 (by decide) (fun c18 => ?_) (fun c18 => ?_)
        · skip
          refine kw_iload_n dX12_behind_35 rfl ?_
          refine kw_istore_n dX12_behind_36 (Nat.le_of_ble_eq_true rfl) ?_
          refine kw_iinc dX12_behind_37 rfl (nI_i i) ?_
          refine kw_goto (tgt := 4) dX12_behind_40 (by decide) ?_
          refine kw_lvle (lv' := [some (pr_ (40, 0)), some (pi_ (-1)), some (pi_ (encO (prevK (kp_ s) (i + 1)))), some (pi_ (nI (i + 1)))]) (by rw [show prevK (kp_ s) (i + 1) = prevK (kp_ s) i from (by rw [prevK, if_neg (by rw [b2_0.mp c18]; decide)])]; exact kw_le_s (kw_le_s (kw_le_s (kw_le_s kw_le_0)))) ?_
          exact ih (i + 1) (by omega) (by omega)
        · skip
          refine kw_iload_n dX12_behind_21 rfl ?_
          refine kw_iconst (v := (-1)) dX12_behind_22 (by decide) ?_
          refine kw_icmp_eq (tgt := 31) dX12_behind_23 (by decide) (fun c23 => ?_) (fun c23 => ?_)
          · skip
            refine kw_iload_n dX12_behind_31 rfl ?_
            refine kw_goto (tgt := 36) dX12_behind_32 (by decide) ?_
            refine kw_istore_n dX12_behind_36 (Nat.le_of_ble_eq_true rfl) ?_
            refine kw_iinc dX12_behind_37 rfl (nI_i i) ?_
            refine kw_goto (tgt := 4) dX12_behind_40 (by decide) ?_
            refine kw_lvle (lv' := [some (pr_ (40, 0)), some (pi_ (-1)), some (pi_ (encO (prevK (kp_ s) (i + 1)))), some (pi_ (nI (i + 1)))]) (by rw [show prevK (kp_ s) (i + 1) = some i from (by rw [prevK, if_pos (b2_n0.mp c18)])]; exact kw_le_s (kw_le_s (kw_le_s (kw_le_s kw_le_0)))) ?_
            exact ih (i + 1) (by omega) (by omega)
          · skip
            exact absurd rfl c23
  refine kw_iconst (v := (-1)) dX12_behind_0 (by decide) ?_
  refine kw_top (v' := pi_ (encO (prevK (kp_ s) 0))) rfl ?_
  refine kw_istore_n dX12_behind_1 (Nat.le_of_ble_eq_true rfl) ?_
  refine kw_iconst (v := 0) dX12_behind_2 (by decide) ?_
  refine kw_istore_n dX12_behind_3 (Nat.le_of_ble_eq_true rfl) ?_
  exact loop (ns_ s + 1) 0 (by omega) (by omega)
set_option maxHeartbeats 4000000 in
set_option maxRecDepth 100000 in
theorem n_behind (l : Launch) (s : SG) (k : KG) (hns : ns_ s ≤ 40) (b : Nat) (hb : b ≤ ns_ s) : kw_F l yX12_behind cX12_behind 4 (Option.some Jvm.ClassFile.FieldType.int) { frames := 0, cells := 0, slots := 0, locals := 0 } [pr_ (40, 0), pi_ (nI b)] (hM s k) (some (pi_ (encO (prevK (kp_ s) b)))) (hM s k) := by
  refine kw_M_of RX12 "behind" [some (pr_ (40, 0)), some (pi_ (nI b)), none, none] (by decide) rfl rfl rfl (Nat.le_of_ble_eq_true rfl) ?_
  intro D ad A
  refine kw_Kgen (fun K hK => ?_)
  have loop : ∀ (n_ : Nat) (i : Nat), ns_ s - i < n_ → i ≤ ns_ s → kw_G l D cX12_behind RX12 (Option.some Jvm.ClassFile.FieldType.int) "behind" { frames := 0, cells := 0, slots := 0, locals := 0 } A K ad (hM s k) 0 0 4 [some (pr_ (40, 0)), some (pi_ (nI b)), some (pi_ (encO (prevK (fun q => kp_ s q && decide (q < b)) i))), some (pi_ (nI i))] [] := by
    intro n_
    induction n_ with
    | zero =>
      intro i hm_
      exact absurd hm_ (Nat.not_lt_zero _)
    | succ n_ ih =>
      intro i hm_ hi
      refine kw_iload_n dX12_behind_4 rfl ?_
      refine kw_aload_n dX12_behind_5 rfl ?_
      refine kw_get dX12_behind_6 fl_X12_218 rfl rfl ?_
      refine kw_icmp_ge (tgt := 43) dX12_behind_9 (by decide) (fun c9 => ?_) (fun c9 => ?_)
      · skip
        have e : i = ns_ s := Nat.le_antisymm hi (nI_le' (by omega) (by omega) c9)
        rw [e]
        refine kw_iload_n dX12_behind_43 rfl ?_
        exact kw_iret dX12_behind_44 rfl (Nat.le_of_ble_eq_true rfl) (Nat.le_of_ble_eq_true rfl) (hK _ _ _ ⟨rfl, by rw [prevK_lt hb], rfl⟩)
      · skip
        have hlt : i < ns_ s := nI_nle' (by omega) (by omega) c9
        refine kw_aload_n dX12_behind_12 rfl ?_
        refine kw_get dX12_behind_13 fl_X12_55 rfl rfl ?_
        refine kw_iload_n dX12_behind_16 rfl ?_
        refine kw_zaldN dX12_behind_17 rfl (by omega) (by decide) ?_
        refine kw_if_eq (tgt := 35) dX12_behind_18 (by decide) (fun c18 => ?_) (fun c18 => ?_)
        · skip
          refine kw_iload_n dX12_behind_35 rfl ?_
          refine kw_istore_n dX12_behind_36 (Nat.le_of_ble_eq_true rfl) ?_
          refine kw_iinc dX12_behind_37 rfl (nI_i i) ?_
          refine kw_goto (tgt := 4) dX12_behind_40 (by decide) ?_
          refine kw_lvle (lv' := [some (pr_ (40, 0)), some (pi_ (nI b)), some (pi_ (encO (prevK (fun q => kp_ s q && decide (q < b)) (i + 1)))), some (pi_ (nI (i + 1)))]) (by rw [show prevK (fun q => kp_ s q && decide (q < b)) (i + 1) = prevK (fun q => kp_ s q && decide (q < b)) i from (by rw [prevK, if_neg (by rw [b2_0.mp c18, Bool.false_and]; decide)])]; exact kw_le_s (kw_le_s (kw_le_s (kw_le_s kw_le_0)))) ?_
          exact ih (i + 1) (by omega) (by omega)
        · skip
          refine kw_iload_n dX12_behind_21 rfl ?_
          refine kw_iconst (v := (-1)) dX12_behind_22 (by decide) ?_
          refine kw_icmp_eq (tgt := 31) dX12_behind_23 (by decide) (fun c23 => ?_) (fun c23 => ?_)
          · skip
            exact absurd c23 (nI_m1 (by omega))
          · skip
            refine kw_iload_n dX12_behind_26 rfl ?_
            refine kw_iload_n dX12_behind_27 rfl ?_
            refine kw_icmp_ge (tgt := 35) dX12_behind_28 (by decide) (fun c28 => ?_) (fun c28 => ?_)
            · skip
              refine kw_iload_n dX12_behind_35 rfl ?_
              refine kw_istore_n dX12_behind_36 (Nat.le_of_ble_eq_true rfl) ?_
              refine kw_iinc dX12_behind_37 rfl (nI_i i) ?_
              refine kw_goto (tgt := 4) dX12_behind_40 (by decide) ?_
              refine kw_lvle (lv' := [some (pr_ (40, 0)), some (pi_ (nI b)), some (pi_ (encO (prevK (fun q => kp_ s q && decide (q < b)) (i + 1)))), some (pi_ (nI (i + 1)))]) (by rw [show prevK (fun q => kp_ s q && decide (q < b)) (i + 1) = prevK (fun q => kp_ s q && decide (q < b)) i from (by rw [prevK, if_neg (by rw [decide_eq_false (p := i < b) (fun q => absurd (nI_le' (by omega) (by omega) c28) (by omega)), Bool.and_false]; decide)])]; exact kw_le_s (kw_le_s (kw_le_s (kw_le_s kw_le_0)))) ?_
              exact ih (i + 1) (by omega) (by omega)
            · skip
              refine kw_iload_n dX12_behind_31 rfl ?_
              refine kw_goto (tgt := 36) dX12_behind_32 (by decide) ?_
              refine kw_istore_n dX12_behind_36 (Nat.le_of_ble_eq_true rfl) ?_
              refine kw_iinc dX12_behind_37 rfl (nI_i i) ?_
              refine kw_goto (tgt := 4) dX12_behind_40 (by decide) ?_
              refine kw_lvle (lv' := [some (pr_ (40, 0)), some (pi_ (nI b)), some (pi_ (encO (prevK (fun q => kp_ s q && decide (q < b)) (i + 1)))), some (pi_ (nI (i + 1)))]) (by rw [show prevK (fun q => kp_ s q && decide (q < b)) (i + 1) = some i from (by rw [prevK, if_pos (by rw [b2_n0.mp c18, decide_eq_true (nI_nle' (by omega) (by omega) c28)]; rfl)])]; exact kw_le_s (kw_le_s (kw_le_s (kw_le_s kw_le_0)))) ?_
              exact ih (i + 1) (by omega) (by omega)
  refine kw_iconst (v := (-1)) dX12_behind_0 (by decide) ?_
  refine kw_top (v' := pi_ (encO (prevK (fun q => kp_ s q && decide (q < b)) 0))) rfl ?_
  refine kw_istore_n dX12_behind_1 (Nat.le_of_ble_eq_true rfl) ?_
  refine kw_iconst (v := 0) dX12_behind_2 (by decide) ?_
  refine kw_istore_n dX12_behind_3 (Nat.le_of_ble_eq_true rfl) ?_
  exact loop (ns_ s + 1) 0 (by omega) (by omega)
def spI (s : SG) (kd i : Nat) : Int := if kd = 3 then perI s kd i + 1 else perI s kd i
theorem sp_b {s : SG} (h : tmB s) (hn : ns_ s ≤ 40) (kd : Nat) {i : Nat} (hi : i < ns_ s) : -100000001 ≤ spI s kd i ∧ spI s kd i ≤ 100000001 := by
  have := perI_b h hn kd hi
  unfold spI
  split <;> omega
theorem sp_eq {s : SG} {kd i j : Nat} : spI s kd i = spI s kd j ↔ perI s kd i = perI s kd j := by
  unfold spI
  split <;> omega
theorem iI_lI {z : Int} (h1 : -2000000000 ≤ z) (h2 : z ≤ 2000000000) : (iI z).toInt64 = lI z := by
  apply Int64.toInt_inj.mp
  rw [Int32.toInt_toInt64, lI_toInt (by omega) (by omega)]
  exact Int32.toInt_ofInt_of_le (by omega) (by omega)
set_option maxHeartbeats 4000000 in
set_option maxRecDepth 100000 in
theorem n_span (l : Launch) (s : SG) (k : KG) (htm : tmB s) (kd i : Nat) (hkd : 1 ≤ kd ∧ kd ≤ 4) (hi : i < ns_ s) : kw_F l yX12_spanOf cX12_spanOf 6 (Option.some Jvm.ClassFile.FieldType.long) { frames := 2, cells := 0, slots := 0, locals := 57 } [pr_ (40, 0), pl_ (tm_ s i), pi_ (nI kd)] (hM s k) (some (pl_ (lI (spI s kd i)))) (hM s k) := by
  refine kw_M_of RX12 "spanOf" [some (pr_ (40, 0)), some (pl_ (tm_ s i)), none, some (pi_ (nI kd)), none, none] (by decide) rfl rfl rfl (Nat.le_of_ble_eq_true rfl) ?_
  intro D ad A
  refine kw_Kgen (fun K hK => ?_)
  obtain ⟨b1, b2_⟩ := htm i hi
  have hd := tm_d htm hi
  obtain ⟨m1, m2⟩ := mon_b hd
  obtain ⟨d, hdd⟩ : ∃ d, d = dayI (tm_ s i) := ⟨_, rfl⟩
  have ed : (tm_ s i).toInt / 86400 = d := hdd.symm
  obtain ⟨d1, d2⟩ := id hd
  rw [← hdd] at d1 d2 m1 m2
  have hcal : ∀ w : Int32, a_calendar (tm_ s i) w = if w = 0 then iI (monI d / 12) else if w = 1 then iI (monI d % 12 + 1) else if w = 2 then iI (domI d) else if w = 3 then iI ((d + 3) % 7) else if w = 4 then iI d else -102 := by
    intro w
    unfold a_calendar
    rw [if_neg, hdd]
    intro q
    rcases q with q | q
    · rw [Int64.lt_iff_toInt_lt] at q; have q : (tm_ s i).toInt < -1000000000000 := q; omega
    · rw [Int64.lt_iff_toInt_lt] at q; have q : 1000000000000 < (tm_ s i).toInt := q; omega
  refine kw_lload_n dX12_spanOf_0 rfl ?_
  refine kw_top (v' := pl_ (lI (tm_ s i).toInt)) (by rw [nm_lI]) ?_
  refine kw_ldc2 dX12_spanOf_1 kt_1204 ?_
  refine kw_top (v' := pl_ (lI 86400)) (by rfl) ?_
  refine kw_callSf (As := [pl_ (lI (tm_ s i).toInt), pl_ (lI 86400)]) (n_floor l _ (tm_ s i).toInt 86400 (by omega) (by omega) (by decide) (by decide)) dX12_spanOf_4 cl_X12_239 rfl rfl (Nat.le_of_ble_eq_true rfl) ⟨(Nat.le_of_ble_eq_true rfl), (Nat.le_of_ble_eq_true rfl), (Nat.le_of_ble_eq_true rfl), (Nat.le_of_ble_eq_true rfl)⟩ ?_
  refine kw_top (v' := pl_ (lI d)) (by rw [ed]) ?_
  refine kw_lstore dX12_spanOf_7 (Nat.le_of_ble_eq_true rfl) ?_
  refine kw_iload_n dX12_spanOf_9 rfl ?_
  refine kw_iconst (v := 1) dX12_spanOf_10 (by decide) ?_
  refine kw_icmp_ne (tgt := 19) dX12_spanOf_11 (by decide) (fun c11 => ?_) (fun c11 => ?_)
  · skip
    have e11 : kd ≠ 1 := fun q => c11 (by rw [q]; rfl)
    refine kw_iload_n dX12_spanOf_19 rfl ?_
    refine kw_iconst (v := 2) dX12_spanOf_20 (by decide) ?_
    refine kw_icmp_ne (tgt := 39) dX12_spanOf_21 (by decide) (fun c21 => ?_) (fun c21 => ?_)
    · skip
      have e21 : kd ≠ 2 := fun q => c21 (by rw [q]; rfl)
      refine kw_iload_n dX12_spanOf_39 rfl ?_
      refine kw_iconst (v := 3) dX12_spanOf_40 (by decide) ?_
      refine kw_icmp_ne (tgt := 66) dX12_spanOf_41 (by decide) (fun c41 => ?_) (fun c41 => ?_)
      · skip
        have n41 : kd ≠ 3 := fun q => c41 (by rw [q]; rfl)
        have e41 : kd = 4 := by omega
        refine kw_aload_n dX12_spanOf_66 rfl ?_
        refine kw_lload_n dX12_spanOf_67 rfl ?_
        refine kw_iconst (v := 0) dX12_spanOf_68 (by decide) ?_
        refine kw_callVf (As := [pl_ (tm_ s i), pi_ 0]) (M_calendar l s k (tm_ s i) 0) dX12_spanOf_69 cl_X12_247 rfl rfl rfl rfl (Nat.le_of_ble_eq_true rfl) ⟨(Nat.le_of_ble_eq_true rfl), (Nat.le_of_ble_eq_true rfl), (Nat.le_of_ble_eq_true rfl), (Nat.le_of_ble_eq_true rfl)⟩ ?_
        rw [hcal 0]
        refine kw_i2l dX12_spanOf_72 ?_
        refine kw_top (v' := pl_ (lI (monI d / 12))) (congrArg pl_ (iI_lI (by omega) (by omega))) ?_
        exact kw_lret dX12_spanOf_73 rfl (Nat.le_of_ble_eq_true rfl) (Nat.le_of_ble_eq_true rfl) (hK _ _ _ ⟨rfl, by rw [e41, hdd]; rfl, rfl⟩)
      · skip
        have e41 : kd = 3 := nI_eq' (b := 3) (by omega) (by decide) c41
        subst e41
        refine kw_ldc2 dX12_spanOf_44 kt_1209 ?_
        refine kw_top (v' := pl_ (lI 12)) (by rfl) ?_
        refine kw_aload_n dX12_spanOf_47 rfl ?_
        refine kw_lload_n dX12_spanOf_48 rfl ?_
        refine kw_iconst (v := 0) dX12_spanOf_49 (by decide) ?_
        refine kw_callVf (As := [pl_ (tm_ s i), pi_ 0]) (M_calendar l s k (tm_ s i) 0) dX12_spanOf_50 cl_X12_247 rfl rfl rfl rfl (Nat.le_of_ble_eq_true rfl) ⟨(Nat.le_of_ble_eq_true rfl), (Nat.le_of_ble_eq_true rfl), (Nat.le_of_ble_eq_true rfl), (Nat.le_of_ble_eq_true rfl)⟩ ?_
        rw [hcal 0]
        refine kw_i2l dX12_spanOf_53 ?_
        refine kw_top (v' := pl_ (lI (monI d / 12))) (congrArg pl_ (iI_lI (by omega) (by omega))) ?_
        refine kw_lmul dX12_spanOf_54 ?_
        refine kw_top (v' := pl_ (lI (12 * (monI d / 12)))) (congrArg pl_ (lI_mul _ _)) ?_
        refine kw_aload_n dX12_spanOf_55 rfl ?_
        refine kw_lload_n dX12_spanOf_56 rfl ?_
        refine kw_iconst (v := 1) dX12_spanOf_57 (by decide) ?_
        refine kw_callVf (As := [pl_ (tm_ s i), pi_ 1]) (M_calendar l s k (tm_ s i) 1) dX12_spanOf_58 cl_X12_247 rfl rfl rfl rfl (Nat.le_of_ble_eq_true rfl) ⟨(Nat.le_of_ble_eq_true rfl), (Nat.le_of_ble_eq_true rfl), (Nat.le_of_ble_eq_true rfl), (Nat.le_of_ble_eq_true rfl)⟩ ?_
        rw [hcal 1]
        refine kw_i2l dX12_spanOf_61 ?_
        refine kw_top (v' := pl_ (lI (monI d % 12 + 1))) (congrArg pl_ (iI_lI (by omega) (by omega))) ?_
        refine kw_ladd dX12_spanOf_62 ?_
        refine kw_top (v' := pl_ (lI (12 * (monI d / 12) + (monI d % 12 + 1)))) (congrArg pl_ (lI_add _ _)) ?_
        refine kw_goto (tgt := 73) dX12_spanOf_63 (by decide) ?_
        exact kw_lret dX12_spanOf_73 rfl (Nat.le_of_ble_eq_true rfl) (Nat.le_of_ble_eq_true rfl) (hK _ _ _ ⟨rfl, by rw [show 12 * (monI d / 12) + (monI d % 12 + 1) = monI d + 1 by omega, hdd]; rfl, rfl⟩)
    · skip
      have e21 : kd = 2 := nI_eq' (b := 2) (by omega) (by decide) c21
      subst e21
      refine kw_lload dX12_spanOf_24 rfl ?_
      refine kw_ldc2 dX12_spanOf_26 kt_1100 ?_
      refine kw_top (v' := pl_ (lI 3)) (by rfl) ?_
      refine kw_ladd dX12_spanOf_29 ?_
      refine kw_top (v' := pl_ (lI (d + 3))) (congrArg pl_ (lI_add _ _)) ?_
      refine kw_ldc2 dX12_spanOf_30 kt_1208 ?_
      refine kw_top (v' := pl_ (lI 7)) (by rfl) ?_
      refine kw_callSf (As := [pl_ (lI (d + 3)), pl_ (lI 7)]) (n_floor l _ (d + 3) 7 (by omega) (by omega) (by decide) (by decide)) dX12_spanOf_33 cl_X12_239 rfl rfl (Nat.le_of_ble_eq_true rfl) ⟨(Nat.le_of_ble_eq_true rfl), (Nat.le_of_ble_eq_true rfl), (Nat.le_of_ble_eq_true rfl), (Nat.le_of_ble_eq_true rfl)⟩ ?_
      refine kw_goto (tgt := 73) dX12_spanOf_36 (by decide) ?_
      exact kw_lret dX12_spanOf_73 rfl (Nat.le_of_ble_eq_true rfl) (Nat.le_of_ble_eq_true rfl) (hK _ _ _ ⟨rfl, by rw [hdd]; rfl, rfl⟩)
  · skip
    have e11 : kd = 1 := nI_eq' (b := 1) (by omega) (by decide) c11
    subst e11
    refine kw_lload dX12_spanOf_14 rfl ?_
    refine kw_goto (tgt := 73) dX12_spanOf_16 (by decide) ?_
    exact kw_lret dX12_spanOf_73 rfl (Nat.le_of_ble_eq_true rfl) (Nat.le_of_ble_eq_true rfl) (hK _ _ _ ⟨rfl, congrArg (fun z => some (pl_ (lI z))) hdd, rfl⟩)
set_option maxHeartbeats 4000000 in
set_option maxRecDepth 100000 in
theorem n_spanKeeps (l : Launch) (s : SG) (k : KG) (hns : ns_ s ≤ 40) (htm : tmB s) (hru : ∀ i, i < 6 → ru_ s i ≤ 100) (kd i : Nat) (hkd : 1 ≤ kd ∧ kd ≤ 4) (hi : i < ns_ s) (hkp : kp_ s i = true) : kw_F l yX12_spanKeeps cX12_spanKeeps 6 (Option.some Jvm.ClassFile.FieldType.boolean) { frames := 3, cells := 0, slots := 0, locals := 82 } [pr_ (40, 0), pi_ (nI kd), pi_ (nI i)] (hM s k) (some (pi_ (b2 (chB s kd i)))) (hM s k) := by
  refine kw_M_of RX12 "spanKeeps" [some (pr_ (40, 0)), some (pi_ (nI kd)), some (pi_ (nI i)), none, none, none] (by decide) rfl rfl rfl (Nat.le_of_ble_eq_true rfl) ?_
  intro D ad A
  refine kw_Kgen (fun K hK => ?_)
  have hr := hru kd (by omega)
  have loop : ∀ (n_ : Nat) (n : Nat) (lst : Int32), n < n_ → n ≤ ns_ s → (n ≤ i → chB s kd i = false) → (((jst s kd (ns_ s - n)).1 = 0 ∧ lst = -1) ∨ (0 < (jst s kd (ns_ s - n)).1 ∧ ∃ q, q < ns_ s ∧ lst = nI q ∧ (jst s kd (ns_ s - n)).2 = perI s kd q)) → kw_G l D cX12_spanKeeps RX12 (Option.some Jvm.ClassFile.FieldType.boolean) "spanKeeps" { frames := 3, cells := 0, slots := 0, locals := 82 } A K ad (hM s k) 0 0 12 [some (pr_ (40, 0)), some (pi_ (nI kd)), some (pi_ (nI i)), some (pi_ (nI (jst s kd (ns_ s - n)).1)), some (pi_ lst), some (pi_ (encO (prevK (kp_ s) n)))] [] := by
    intro n_
    induction n_ with
    | zero =>
      intro n lst hm_
      exact absurd hm_ (Nat.not_lt_zero _)
    | succ n_ ih =>
      intro n lst hm_ hn hs hl
      have hjl := jst_le s kd (ns_ s - n)
      cases hp : prevK (kp_ s) n with
      | none =>
        have hRF : chB s kd i = false := hs (Nat.not_lt.mp (fun q => by have := prevK_none hp i q; rw [hkp] at this; cases this))
        refine kw_iload dX12_spanKeeps_12 rfl ?_
        refine kw_iconst (v := (-1)) dX12_spanKeeps_14 (by decide) ?_
        refine kw_icmp_eq (tgt := 88) dX12_spanKeeps_15 (by decide) (fun c15 => ?_) (fun c15 => ?_)
        · skip
          refine kw_iconst (v := 0) dX12_spanKeeps_88 (by decide) ?_
          exact kw_zret dX12_spanKeeps_89 rfl (by decide) (Nat.le_of_ble_eq_true rfl) (Nat.le_of_ble_eq_true rfl) (hK _ _ _ ⟨rfl, by rw [hRF]; rfl, rfl⟩)
        · skip
          exact absurd rfl c15
      | some c =>
        obtain ⟨hcn, hkc, hcb⟩ := prevK_some hp
        have hx := jst_prev (kd := kd) hn hp
        have hstep := jst_s (s := s) (kd := kd) (j := c) (by omega)
        have hch := chB_e (s := s) (kd := kd) (j := c)
        rw [← hx] at hstep hch
        have hci : n ≤ i ∨ i ≤ c := by
          by_cases q : i < n
          · refine Or.inr (Nat.not_lt.mp (fun z => ?_))
            have := hcb i z q
            rw [hkp] at this
            cases this
          · exact Or.inl (by omega)
        refine kw_iload dX12_spanKeeps_12 rfl ?_
        refine kw_iconst (v := (-1)) dX12_spanKeeps_14 (by decide) ?_
        refine kw_icmp_eq (tgt := 88) dX12_spanKeeps_15 (by decide) (fun c15 => ?_) (fun c15 => ?_)
        · skip
          exact absurd c15 (nI_m1 (by omega))
        · skip
          refine kw_iload_n dX12_spanKeeps_18 rfl ?_
          refine kw_aload_n dX12_spanKeeps_19 rfl ?_
          refine kw_get dX12_spanKeeps_20 fl_X12_100 rfl rfl ?_
          refine kw_iload_n dX12_spanKeeps_23 rfl ?_
          refine kw_ialdN dX12_spanKeeps_24 rfl (by omega) (by decide) ?_
          refine kw_icmp_ge (tgt := 88) dX12_spanKeeps_25 (by decide) (fun c25 => ?_) (fun c25 => ?_)
          · skip
            have e25 : ru_ s kd ≤ (jst s kd (ns_ s - n)).1 := nI_le' (by omega) (by omega) c25
            have hRF : chB s kd i = false := by
              by_cases q : n ≤ i
              · exact hs q
              · exact chB_sat e25 (by omega)
            refine kw_iconst (v := 0) dX12_spanKeeps_88 (by decide) ?_
            exact kw_zret dX12_spanKeeps_89 rfl (by decide) (Nat.le_of_ble_eq_true rfl) (Nat.le_of_ble_eq_true rfl) (hK _ _ _ ⟨rfl, by rw [hRF]; rfl, rfl⟩)
          · skip
            have e25 : (jst s kd (ns_ s - n)).1 < ru_ s kd := nI_nle' (by omega) (by omega) c25
            refine kw_iload dX12_spanKeeps_28 rfl ?_
            refine kw_iconst (v := (-1)) dX12_spanKeeps_30 (by decide) ?_
            refine kw_icmp_eq (tgt := 62) dX12_spanKeeps_31 (by decide) (fun c31 => ?_) (fun c31 => ?_)
            · skip
              have hnew : (decide ((jst s kd (ns_ s - n)).1 = 0) || !decide (perI s kd c = (jst s kd (ns_ s - n)).2)) = true := by
                rcases hl with q | ⟨_, q, hq, e, _⟩
                · rw [decide_eq_true q.1]; rfl
                · rw [e] at c31; exact absurd c31 (nI_m1 (by omega))
              have hch9 : chB s kd c = true := by rw [hch]; unfold jc; rw [decide_eq_true e25, hkc, hnew]; rfl
              refine kw_iinc dX12_spanKeeps_62 rfl (nI_i _) ?_
              refine kw_iload dX12_spanKeeps_65 rfl ?_
              refine kw_istore dX12_spanKeeps_67 (Nat.le_of_ble_eq_true rfl) ?_
              refine kw_iload dX12_spanKeeps_69 rfl ?_
              refine kw_iload_n dX12_spanKeeps_71 rfl ?_
              refine kw_icmp_ne (tgt := 77) dX12_spanKeeps_72 (by decide) (fun c72 => ?_) (fun c72 => ?_)
              · skip
                have e72 : c ≠ i := nI_ne' (by omega) (by omega) c72
                refine kw_aload_n dX12_spanKeeps_77 rfl ?_
                refine kw_iload dX12_spanKeeps_78 rfl ?_
                refine kw_callVf (As := [pi_ (nI c)]) (n_behind l s k hns c (by omega)) dX12_spanKeeps_80 cl_X12_251 rfl rfl rfl rfl (Nat.le_of_ble_eq_true rfl) ⟨(Nat.le_of_ble_eq_true rfl), (Nat.le_of_ble_eq_true rfl), (Nat.le_of_ble_eq_true rfl), (Nat.le_of_ble_eq_true rfl)⟩ ?_
                refine kw_istore dX12_spanKeeps_83 (Nat.le_of_ble_eq_true rfl) ?_
                refine kw_goto (tgt := 12) dX12_spanKeeps_85 (by decide) ?_
                refine kw_lvle (lv' := [some (pr_ (40, 0)), some (pi_ (nI kd)), some (pi_ (nI i)), some (pi_ (nI (jst s kd (ns_ s - c)).1)), some (pi_ (nI c)), some (pi_ (encO (prevK (kp_ s) c)))]) (by rw [hstep, if_pos hch9]; exact kw_le_s (kw_le_s (kw_le_s (kw_le_s (kw_le_s (kw_le_s kw_le_0)))))) ?_
                refine ih c (nI c) (by omega) (by omega) (fun q => hs (hci.resolve_right (by omega))) (Or.inr ?_)
                rw [hstep, if_pos hch9]
                exact ⟨Nat.succ_pos _, c, by omega, rfl, rfl⟩
              · skip
                have e72 : c = i := nI_eq' (by omega) (by omega) c72
                refine kw_iconst (v := 1) dX12_spanKeeps_75 (by decide) ?_
                exact kw_zret dX12_spanKeeps_76 rfl (by decide) (Nat.le_of_ble_eq_true rfl) (Nat.le_of_ble_eq_true rfl) (hK _ _ _ ⟨rfl, by rw [← e72, hch9]; rfl, rfl⟩)
            · skip
              obtain ⟨hpos, q, hq, elq, epq⟩ := hl.resolve_left (fun z => c31 z.2)
              subst elq
              refine kw_aload_n dX12_spanKeeps_34 rfl ?_
              refine kw_aload_n dX12_spanKeeps_35 rfl ?_
              refine kw_get dX12_spanKeeps_36 fl_X12_58 rfl rfl ?_
              refine kw_iload dX12_spanKeeps_39 rfl ?_
              refine kw_laldN dX12_spanKeeps_41 rfl (by omega) (by decide) ?_
              refine kw_iload_n dX12_spanKeeps_42 rfl ?_
              refine kw_callVf (As := [pl_ (tm_ s c), pi_ (nI kd)]) (n_span l s k htm kd c hkd (by omega)) dX12_spanKeeps_43 cl_X12_254 rfl rfl rfl rfl (Nat.le_of_ble_eq_true rfl) ⟨(Nat.le_of_ble_eq_true rfl), (Nat.le_of_ble_eq_true rfl), (Nat.le_of_ble_eq_true rfl), (Nat.le_of_ble_eq_true rfl)⟩ ?_
              refine kw_aload_n dX12_spanKeeps_46 rfl ?_
              refine kw_aload_n dX12_spanKeeps_47 rfl ?_
              refine kw_get dX12_spanKeeps_48 fl_X12_58 rfl rfl ?_
              refine kw_iload dX12_spanKeeps_51 rfl ?_
              refine kw_laldN dX12_spanKeeps_53 rfl (by omega) (by decide) ?_
              refine kw_iload_n dX12_spanKeeps_54 rfl ?_
              refine kw_callVf (As := [pl_ (tm_ s q), pi_ (nI kd)]) (n_span l s k htm kd q hkd hq) dX12_spanKeeps_55 cl_X12_254 rfl rfl rfl rfl (Nat.le_of_ble_eq_true rfl) ⟨(Nat.le_of_ble_eq_true rfl), (Nat.le_of_ble_eq_true rfl), (Nat.le_of_ble_eq_true rfl), (Nat.le_of_ble_eq_true rfl)⟩ ?_
              refine kw_lcmp dX12_spanKeeps_58 ?_
              refine kw_if_eq (tgt := 77) dX12_spanKeeps_59 (by decide) (fun c59 => ?_) (fun c59 => ?_)
              · skip
                have b1 := sp_b htm hns kd (show c < ns_ s by omega)
                have b2_ := sp_b htm hns kd hq
                have e59 : perI s kd c = perI s kd q := sp_eq.mp (lI_inj (by omega) (by omega) (by omega) (by omega) ((lg_cmp_eq _ _).mp c59))
                have hnew : (decide ((jst s kd (ns_ s - n)).1 = 0) || !decide (perI s kd c = (jst s kd (ns_ s - n)).2)) = false := by rw [decide_eq_false (by omega), epq, decide_eq_true e59]; rfl
                obtain ⟨lst, elst⟩ : ∃ lst, lst = nI q := ⟨_, rfl⟩
                rw [← elst] at hl ⊢
                have hch9 : chB s kd c = false := by rw [hch]; unfold jc; rw [hnew, Bool.and_false, Bool.and_false]
                refine kw_aload_n dX12_spanKeeps_77 rfl ?_
                refine kw_iload dX12_spanKeeps_78 rfl ?_
                refine kw_callVf (As := [pi_ (nI c)]) (n_behind l s k hns c (by omega)) dX12_spanKeeps_80 cl_X12_251 rfl rfl rfl rfl (Nat.le_of_ble_eq_true rfl) ⟨(Nat.le_of_ble_eq_true rfl), (Nat.le_of_ble_eq_true rfl), (Nat.le_of_ble_eq_true rfl), (Nat.le_of_ble_eq_true rfl)⟩ ?_
                refine kw_istore dX12_spanKeeps_83 (Nat.le_of_ble_eq_true rfl) ?_
                refine kw_goto (tgt := 12) dX12_spanKeeps_85 (by decide) ?_
                refine kw_lvle (lv' := [some (pr_ (40, 0)), some (pi_ (nI kd)), some (pi_ (nI i)), some (pi_ (nI (jst s kd (ns_ s - c)).1)), some (pi_ lst), some (pi_ (encO (prevK (kp_ s) c)))]) (by rw [hstep, if_neg (by rw [hch9]; decide)]; exact kw_le_s (kw_le_s (kw_le_s (kw_le_s (kw_le_s (kw_le_s kw_le_0)))))) ?_
                refine ih c lst (by omega) (by omega) (fun q => ?_) ?_
                · by_cases z : i = c
                  · rw [z]; exact hch9
                  · exact hs (by omega)
                · rw [hstep, if_neg (by rw [hch9]; decide)]; exact hl
              · skip
                have e59 : ¬ perI s kd c = perI s kd q := fun z => c59 ((lg_cmp_eq _ _).mpr (by rw [sp_eq.mpr z]))
                have hnew : (decide ((jst s kd (ns_ s - n)).1 = 0) || !decide (perI s kd c = (jst s kd (ns_ s - n)).2)) = true := by rw [epq, decide_eq_false e59]; simp
                have hch9 : chB s kd c = true := by rw [hch]; unfold jc; rw [decide_eq_true e25, hkc, hnew]; rfl
                refine kw_iinc dX12_spanKeeps_62 rfl (nI_i _) ?_
                refine kw_iload dX12_spanKeeps_65 rfl ?_
                refine kw_istore dX12_spanKeeps_67 (Nat.le_of_ble_eq_true rfl) ?_
                refine kw_iload dX12_spanKeeps_69 rfl ?_
                refine kw_iload_n dX12_spanKeeps_71 rfl ?_
                refine kw_icmp_ne (tgt := 77) dX12_spanKeeps_72 (by decide) (fun c72 => ?_) (fun c72 => ?_)
                · skip
                  have e72 : c ≠ i := nI_ne' (by omega) (by omega) c72
                  refine kw_aload_n dX12_spanKeeps_77 rfl ?_
                  refine kw_iload dX12_spanKeeps_78 rfl ?_
                  refine kw_callVf (As := [pi_ (nI c)]) (n_behind l s k hns c (by omega)) dX12_spanKeeps_80 cl_X12_251 rfl rfl rfl rfl (Nat.le_of_ble_eq_true rfl) ⟨(Nat.le_of_ble_eq_true rfl), (Nat.le_of_ble_eq_true rfl), (Nat.le_of_ble_eq_true rfl), (Nat.le_of_ble_eq_true rfl)⟩ ?_
                  refine kw_istore dX12_spanKeeps_83 (Nat.le_of_ble_eq_true rfl) ?_
                  refine kw_goto (tgt := 12) dX12_spanKeeps_85 (by decide) ?_
                  refine kw_lvle (lv' := [some (pr_ (40, 0)), some (pi_ (nI kd)), some (pi_ (nI i)), some (pi_ (nI (jst s kd (ns_ s - c)).1)), some (pi_ (nI c)), some (pi_ (encO (prevK (kp_ s) c)))]) (by rw [hstep, if_pos hch9]; exact kw_le_s (kw_le_s (kw_le_s (kw_le_s (kw_le_s (kw_le_s kw_le_0)))))) ?_
                  refine ih c (nI c) (by omega) (by omega) (fun q => hs (hci.resolve_right (by omega))) (Or.inr ?_)
                  rw [hstep, if_pos hch9]
                  exact ⟨Nat.succ_pos _, c, by omega, rfl, rfl⟩
                · skip
                  have e72 : c = i := nI_eq' (by omega) (by omega) c72
                  refine kw_iconst (v := 1) dX12_spanKeeps_75 (by decide) ?_
                  exact kw_zret dX12_spanKeeps_76 rfl (by decide) (Nat.le_of_ble_eq_true rfl) (Nat.le_of_ble_eq_true rfl) (hK _ _ _ ⟨rfl, by rw [← e72, hch9]; rfl, rfl⟩)
  refine kw_iconst (v := 0) dX12_spanKeeps_0 (by decide) ?_
  refine kw_top (v' := pi_ (nI (jst s kd (ns_ s - ns_ s)).1)) (by rw [Nat.sub_self]; rfl) ?_
  refine kw_istore_n dX12_spanKeeps_1 (Nat.le_of_ble_eq_true rfl) ?_
  refine kw_iconst (v := (-1)) dX12_spanKeeps_2 (by decide) ?_
  refine kw_istore dX12_spanKeeps_3 (Nat.le_of_ble_eq_true rfl) ?_
  refine kw_aload_n dX12_spanKeeps_5 rfl ?_
  refine kw_iconst (v := (-1)) dX12_spanKeeps_6 (by decide) ?_
  refine kw_callVf (As := [pi_ (-1)]) (n_behind0 l s k hns) dX12_spanKeeps_7 cl_X12_251 rfl rfl rfl rfl (Nat.le_of_ble_eq_true rfl) ⟨(Nat.le_of_ble_eq_true rfl), (Nat.le_of_ble_eq_true rfl), (Nat.le_of_ble_eq_true rfl), (Nat.le_of_ble_eq_true rfl)⟩ ?_
  refine kw_istore dX12_spanKeeps_10 (Nat.le_of_ble_eq_true rfl) ?_
  exact loop (ns_ s + 1) (ns_ s) (-1) (by omega) (Nat.le_refl _) (fun q => absurd q (by omega)) (Or.inl ⟨by rw [Nat.sub_self]; rfl, rfl⟩)
set_option maxHeartbeats 4000000 in
set_option maxRecDepth 100000 in
theorem n_kept (l : Launch) (s : SG) (k : KG) (hns : ns_ s ≤ 40) (htm : tmB s) (hru : ∀ i, i < 6 → ru_ s i ≤ 100) (i : Nat) (hi : i < ns_ s) (hkp : kp_ s i = true) : kw_F l yX12_keptBy cX12_keptBy 5 (Option.some Jvm.ClassFile.FieldType.int) { frames := 4, cells := 0, slots := 0, locals := 107 } [pr_ (40, 0), pi_ (nI i)] (hM s k) (some (pi_ (kbits s i 5))) (hM s k) := by
  refine kw_M_of RX12 "keptBy" [some (pr_ (40, 0)), some (pi_ (nI i)), none, none, none] (by decide) rfl rfl rfl (Nat.le_of_ble_eq_true rfl) ?_
  intro D ad A
  refine kw_Kgen (fun K hK => ?_)
  have loopB : ∀ (n_ : Nat) (q : Nat), 5 - q < n_ → 1 ≤ q → q ≤ 5 → kw_G l D cX12_keptBy RX12 (Option.some Jvm.ClassFile.FieldType.int) "keptBy" { frames := 4, cells := 0, slots := 0, locals := 107 } A K ad (hM s k) 0 0 49 [some (pr_ (40, 0)), some (pi_ (nI i)), none, some (pi_ (sumB s i q)), some (pi_ (nI q))] [] := by
    intro n_
    induction n_ with
    | zero =>
      intro q hm_
      exact absurd hm_ (Nat.not_lt_zero _)
    | succ n_ ih =>
      intro q hm_ hq hq5
      refine kw_iload dX12_keptBy_49 rfl ?_
      refine kw_iconst (v := 5) dX12_keptBy_51 (by decide) ?_
      refine kw_icmp_ge (tgt := 82) dX12_keptBy_52 (by decide) (fun c52 => ?_) (fun c52 => ?_)
      · skip
        have e : q = 5 := Nat.le_antisymm hq5 (nI_le' (a := 5) (by decide) (by omega) c52)
        subst e
        refine kw_iload_n dX12_keptBy_82 rfl ?_
        refine kw_aload_n dX12_keptBy_83 rfl ?_
        refine kw_get dX12_keptBy_84 fl_X12_100 rfl rfl ?_
        refine kw_iconst (v := (nI 5)) dX12_keptBy_87 (by decide) ?_
        refine kw_ialdN dX12_keptBy_88 rfl (by omega) (by decide) ?_
        refine kw_aload_n dX12_keptBy_89 rfl ?_
        refine kw_get dX12_keptBy_90 fl_X12_61 rfl rfl ?_
        refine kw_iload_n dX12_keptBy_93 rfl ?_
        refine kw_ialdN dX12_keptBy_94 rfl (by omega) (by decide) ?_
        refine kw_ishr dX12_keptBy_95 ?_
        refine kw_iconst (v := 1) dX12_keptBy_96 (by decide) ?_
        refine kw_iand dX12_keptBy_97 ?_
        refine kw_iconst (v := 1) dX12_keptBy_98 (by decide) ?_
        refine kw_icmp_ne (tgt := 107) dX12_keptBy_99 (by decide) (fun c99 => ?_) (fun c99 => ?_)
        · skip
          have ht : tagB s i = false := decide_eq_false c99
          refine kw_iconst (v := 0) dX12_keptBy_107 (by decide) ?_
          refine kw_iadd dX12_keptBy_108 ?_
          refine kw_top (v' := pi_ (kbits s i 5)) (by rw [← kb_sum hkp, ht]; rfl) ?_
          exact kw_iret dX12_keptBy_109 rfl (Nat.le_of_ble_eq_true rfl) (Nat.le_of_ble_eq_true rfl) (hK _ _ _ ⟨rfl, rfl, rfl⟩)
        · skip
          have ht : tagB s i = true := decide_eq_true c99
          refine kw_bipush (v := 32) dX12_keptBy_102 (by decide) ?_
          refine kw_goto (tgt := 108) dX12_keptBy_104 (by decide) ?_
          refine kw_iadd dX12_keptBy_108 ?_
          refine kw_top (v' := pi_ (kbits s i 5)) (by rw [← kb_sum hkp, ht]; rfl) ?_
          exact kw_iret dX12_keptBy_109 rfl (Nat.le_of_ble_eq_true rfl) (Nat.le_of_ble_eq_true rfl) (hK _ _ _ ⟨rfl, rfl, rfl⟩)
      · skip
        have hlt : q < 5 := nI_nle' (a := 5) (by decide) (by omega) c52
        refine kw_iload_n dX12_keptBy_55 rfl ?_
        refine kw_aload_n dX12_keptBy_56 rfl ?_
        refine kw_iload dX12_keptBy_57 rfl ?_
        refine kw_iload_n dX12_keptBy_59 rfl ?_
        refine kw_callVf (As := [pi_ (nI q), pi_ (nI i)]) (n_spanKeeps l s k hns htm hru q i ⟨hq, by omega⟩ hi hkp) dX12_keptBy_60 cl_X12_258 rfl rfl rfl rfl (Nat.le_of_ble_eq_true rfl) ⟨(Nat.le_of_ble_eq_true rfl), (Nat.le_of_ble_eq_true rfl), (Nat.le_of_ble_eq_true rfl), (Nat.le_of_ble_eq_true rfl)⟩ ?_
        refine kw_if_eq (tgt := 73) dX12_keptBy_63 (by decide) (fun c63 => ?_) (fun c63 => ?_)
        · skip
          refine kw_iconst (v := 0) dX12_keptBy_73 (by decide) ?_
          refine kw_iadd dX12_keptBy_74 ?_
          refine kw_top (v' := pi_ (sumB s i (q + 1))) (by rw [sumB, if_neg (by rw [b2_0.mp c63]; decide)]) ?_
          refine kw_istore_n dX12_keptBy_75 (Nat.le_of_ble_eq_true rfl) ?_
          refine kw_iinc dX12_keptBy_76 rfl (nI_i q) ?_
          refine kw_goto (tgt := 49) dX12_keptBy_79 (by decide) ?_
          exact ih (q + 1) (by omega) (by omega) (by omega)
        · skip
          refine kw_iconst (v := 1) dX12_keptBy_66 (by decide) ?_
          refine kw_iload dX12_keptBy_67 rfl ?_
          refine kw_ishl dX12_keptBy_69 ?_
          refine kw_goto (tgt := 74) dX12_keptBy_70 (by decide) ?_
          refine kw_iadd dX12_keptBy_74 ?_
          refine kw_top (v' := pi_ (sumB s i (q + 1))) (by rw [sumB, if_pos (b2_n0.mp c63)]; rfl) ?_
          refine kw_istore_n dX12_keptBy_75 (Nat.le_of_ble_eq_true rfl) ?_
          refine kw_iinc dX12_keptBy_76 rfl (nI_i q) ?_
          refine kw_goto (tgt := 49) dX12_keptBy_79 (by decide) ?_
          exact ih (q + 1) (by omega) (by omega) (by omega)
  have loopA : ∀ (n_ : Nat) (n : Nat), n < n_ → n ≤ ns_ s → i < n → kw_G l D cX12_keptBy RX12 (Option.some Jvm.ClassFile.FieldType.int) "keptBy" { frames := 4, cells := 0, slots := 0, locals := 107 } A K ad (hM s k) 0 0 8 [some (pr_ (40, 0)), some (pi_ (nI i)), some (pi_ (nI (cK (kp_ s) n (ns_ s)))), some (pi_ (encO (prevK (kp_ s) n))), none] [] := by
    intro n_
    induction n_ with
    | zero =>
      intro n hm_
      exact absurd hm_ (Nat.not_lt_zero _)
    | succ n_ ih =>
      intro n hm_ hn hin
      have hck := cK_le (kp_ s) n (ns_ s)
      cases hp : prevK (kp_ s) n with
      | none =>
        have := prevK_none hp i hin
        rw [hkp] at this
        cases this
      | some c =>
        obtain ⟨hcn, hkc, hcb⟩ := prevK_some hp
        obtain ⟨k1, k2⟩ := cK_prev hn hp
        have hci : i ≤ c := Nat.not_lt.mp (fun z => by have := hcb i z hin; rw [hkp] at this; cases this)
        refine kw_iload_n dX12_keptBy_8 rfl ?_
        refine kw_iload_n dX12_keptBy_9 rfl ?_
        refine kw_icmp_eq (tgt := 30) dX12_keptBy_10 (by decide) (fun c10 => ?_) (fun c10 => ?_)
        · skip
          have e10 : c = i := nI_eq' (by omega) (by omega) c10
          rw [e10] at k1
          have hr0 := hru 0 (by decide)
          have hc0 := chB0 hi hkp
          rw [k1] at hc0
          refine kw_iload_n dX12_keptBy_30 rfl ?_
          refine kw_aload_n dX12_keptBy_31 rfl ?_
          refine kw_get dX12_keptBy_32 fl_X12_100 rfl rfl ?_
          refine kw_iconst (v := (nI 0)) dX12_keptBy_35 (by decide) ?_
          refine kw_ialdN dX12_keptBy_36 rfl (by omega) (by decide) ?_
          refine kw_icmp_ge (tgt := 44) dX12_keptBy_37 (by decide) (fun c37 => ?_) (fun c37 => ?_)
          · skip
            have e37 : ¬ cK (kp_ s) n (ns_ s) < ru_ s 0 := fun q => absurd (nI_le' (by omega) (by omega) c37) (by omega)
            rw [decide_eq_false e37] at hc0
            refine kw_iconst (v := 0) dX12_keptBy_44 (by decide) ?_
            refine kw_top (v' := pi_ (sumB s i 1)) (by show _ = pi_ (0 + if chB s 0 i = true then bitV 0 else 0); rw [hc0]; decide) ?_
            refine kw_istore_n dX12_keptBy_45 (Nat.le_of_ble_eq_true rfl) ?_
            refine kw_iconst (v := (nI 1)) dX12_keptBy_46 (by decide) ?_
            refine kw_istore dX12_keptBy_47 (Nat.le_of_ble_eq_true rfl) ?_
            refine kw_lvle (lv' := [some (pr_ (40, 0)), some (pi_ (nI i)), none, some (pi_ (sumB s i 1)), some (pi_ (nI 1))]) (kw_le_s (kw_le_s (kw_le_n (kw_le_s (kw_le_s kw_le_0))))) ?_
            exact loopB 6 1 (by omega) (by omega) (by omega)
          · skip
            have e37 : cK (kp_ s) n (ns_ s) < ru_ s 0 := nI_nle' (by omega) (by omega) c37
            rw [decide_eq_true e37] at hc0
            refine kw_iconst (v := 1) dX12_keptBy_40 (by decide) ?_
            refine kw_top (v' := pi_ (sumB s i 1)) (by show _ = pi_ (0 + if chB s 0 i = true then bitV 0 else 0); rw [hc0]; decide) ?_
            refine kw_goto (tgt := 45) dX12_keptBy_41 (by decide) ?_
            refine kw_istore_n dX12_keptBy_45 (Nat.le_of_ble_eq_true rfl) ?_
            refine kw_iconst (v := (nI 1)) dX12_keptBy_46 (by decide) ?_
            refine kw_istore dX12_keptBy_47 (Nat.le_of_ble_eq_true rfl) ?_
            refine kw_lvle (lv' := [some (pr_ (40, 0)), some (pi_ (nI i)), none, some (pi_ (sumB s i 1)), some (pi_ (nI 1))]) (kw_le_s (kw_le_s (kw_le_n (kw_le_s (kw_le_s kw_le_0))))) ?_
            exact loopB 6 1 (by omega) (by omega) (by omega)
        · skip
          have e10 : c ≠ i := nI_ne' (by omega) (by omega) c10
          refine kw_iload_n dX12_keptBy_13 rfl ?_
          refine kw_iconst (v := (-1)) dX12_keptBy_14 (by decide) ?_
          refine kw_icmp_eq (tgt := 30) dX12_keptBy_15 (by decide) (fun c15 => ?_) (fun c15 => ?_)
          · skip
            exact absurd c15 (nI_m1 (by omega))
          · skip
            refine kw_iinc dX12_keptBy_18 rfl (nI_i _) ?_
            refine kw_aload_n dX12_keptBy_21 rfl ?_
            refine kw_iload_n dX12_keptBy_22 rfl ?_
            refine kw_callVf (As := [pi_ (nI c)]) (n_behind l s k hns c (by omega)) dX12_keptBy_23 cl_X12_251 rfl rfl rfl rfl (Nat.le_of_ble_eq_true rfl) ⟨(Nat.le_of_ble_eq_true rfl), (Nat.le_of_ble_eq_true rfl), (Nat.le_of_ble_eq_true rfl), (Nat.le_of_ble_eq_true rfl)⟩ ?_
            refine kw_istore_n dX12_keptBy_26 (Nat.le_of_ble_eq_true rfl) ?_
            refine kw_goto (tgt := 8) dX12_keptBy_27 (by decide) ?_
            refine kw_lvle (lv' := [some (pr_ (40, 0)), some (pi_ (nI i)), some (pi_ (nI (cK (kp_ s) c (ns_ s)))), some (pi_ (encO (prevK (kp_ s) c))), none]) (by rw [k2]; exact kw_le_s (kw_le_s (kw_le_s (kw_le_s (kw_le_n kw_le_0))))) ?_
            exact ih c (by omega) (by omega) (by omega)
  refine kw_iconst (v := 0) dX12_keptBy_0 (by decide) ?_
  refine kw_top (v' := pi_ (nI (cK (kp_ s) (ns_ s) (ns_ s)))) (congrArg (fun q => pi_ (nI q)) (cntN_0 (fun q hq => by rw [decide_eq_false (by omega : ¬ ns_ s ≤ q), Bool.and_false])).symm) ?_
  refine kw_istore_n dX12_keptBy_1 (Nat.le_of_ble_eq_true rfl) ?_
  refine kw_aload_n dX12_keptBy_2 rfl ?_
  refine kw_iconst (v := (-1)) dX12_keptBy_3 (by decide) ?_
  refine kw_callVf (As := [pi_ (-1)]) (n_behind0 l s k hns) dX12_keptBy_4 cl_X12_251 rfl rfl rfl rfl (Nat.le_of_ble_eq_true rfl) ⟨(Nat.le_of_ble_eq_true rfl), (Nat.le_of_ble_eq_true rfl), (Nat.le_of_ble_eq_true rfl), (Nat.le_of_ble_eq_true rfl)⟩ ?_
  refine kw_istore_n dX12_keptBy_7 (Nat.le_of_ble_eq_true rfl) ?_
  exact loopA (ns_ s + 1) (ns_ s) (by omega) (Nat.le_refl _) hi
set_option maxHeartbeats 4000000 in
set_option maxRecDepth 100000 in
theorem M_keeps (l : Launch) (s : SG) (k : KG) (hns : ns_ s ≤ 40) (htm : tmB s) (hru : ∀ i, i < 6 → ru_ s i ≤ 100) (x : Int32) : kw_F l yX12_keeps cX12_keeps 2 (Option.some Jvm.ClassFile.FieldType.int) { frames := 5, cells := 0, slots := 0, locals := 131 } [pr_ (40, 0), pi_ x] (hM s k) (some (pi_ (a_keeps s x))) (hM s k) := by
  refine kw_M_of RX12 "keeps" [some (pr_ (40, 0)), some (pi_ x)] (by decide) rfl rfl rfl (Nat.le_of_ble_eq_true rfl) ?_
  intro D ad A
  refine kw_Kgen (fun K hK => ?_)
  refine kw_aload_n dX12_keeps_0 rfl ?_
  refine kw_get dX12_keeps_1 fl_X12_127 rfl rfl ?_
  refine kw_if_eq (tgt := 10) dX12_keeps_4 (by decide) (fun c4 => ?_) (fun c4 => ?_)
  · skip
    have hd : ¬ dn_ s = true := by rw [b2_0.mp c4]; decide
    refine kw_aload_n dX12_keeps_10 rfl ?_
    refine kw_iload_n dX12_keeps_11 rfl ?_
    refine kw_callVf (As := [pi_ x]) (n_isSnap l s k hns x) dX12_keeps_12 cl_X12_225 rfl rfl rfl rfl (Nat.le_of_ble_eq_true rfl) ⟨(Nat.le_of_ble_eq_true rfl), (Nat.le_of_ble_eq_true rfl), (Nat.le_of_ble_eq_true rfl), (Nat.le_of_ble_eq_true rfl)⟩ ?_
    refine kw_if_eq (tgt := 26) dX12_keeps_15 (by decide) (fun c15 => ?_) (fun c15 => ?_)
    · skip
      refine kw_bipush (v := (-101)) dX12_keeps_26 (by decide) ?_
      exact kw_iret dX12_keeps_28 rfl (Nat.le_of_ble_eq_true rfl) (Nat.le_of_ble_eq_true rfl) (hK _ _ _ ⟨rfl, by rw [a_keeps, if_neg hd, if_neg (by rw [b2_0.mp c15]; decide)], rfl⟩)
    · skip
      have e15 := b2_n0.mp c15
      obtain ⟨j, hj, e16⟩ := anyN_iff.mp e15
      rw [Bool.and_eq_true] at e16
      have ex := of_decide_eq_true e16.1
      subst ex
      rw [a_keeps, if_neg hd, if_pos e15, show cl_ (nI j) = j from nI_clamp (by omega)] at hK
      refine kw_aload_n dX12_keeps_18 rfl ?_
      refine kw_iload_n dX12_keeps_19 rfl ?_
      refine kw_callVf (As := [pi_ (nI j)]) (n_kept l s k hns htm hru j hj e16.2) dX12_keeps_20 cl_X12_261 rfl rfl rfl rfl (Nat.le_of_ble_eq_true rfl) ⟨(Nat.le_of_ble_eq_true rfl), (Nat.le_of_ble_eq_true rfl), (Nat.le_of_ble_eq_true rfl), (Nat.le_of_ble_eq_true rfl)⟩ ?_
      refine kw_goto (tgt := 28) dX12_keeps_23 (by decide) ?_
      exact kw_iret dX12_keeps_28 rfl (Nat.le_of_ble_eq_true rfl) (Nat.le_of_ble_eq_true rfl) (hK _ _ _ ⟨rfl, rfl, rfl⟩)
  · skip
    refine kw_bipush (v := (-106)) dX12_keeps_7 (by decide) ?_
    exact kw_iret dX12_keeps_9 rfl (Nat.le_of_ble_eq_true rfl) (Nat.le_of_ble_eq_true rfl) (hK _ _ _ ⟨rfl, by rw [a_keeps, if_pos (b2_n0.mp c4)], rfl⟩)
set_option maxHeartbeats 4000000 in
set_option maxRecDepth 100000 in
theorem M_prune (l : Launch) (s : SG) (k : KG) (hMI : MI s k) (hns : ns_ s ≤ 40) (htm : tmB s) (hru : ∀ i, i < 6 → ru_ s i ≤ 100) (hnh : nh_ s + thereN s ≤ 240) (w : Bool) : kw_P l yX12_prune cX12_prune 7 (Option.some Jvm.ClassFile.FieldType.int) { frames := 5, cells := 0, slots := 0, locals := 131 } [pr_ (40, 0), pi_ (b2 w)] (hM s k) (fun r h' => r = some (pi_ (a_prune s w).1) ∧ mW (a_prune s w).2 k h') := by
  refine kw_M_of RX12 "prune" [some (pr_ (40, 0)), some (pi_ (b2 w)), none, none, none, none, none] (by decide) rfl rfl rfl (Nat.le_of_ble_eq_true rfl) ?_
  intro D ad A
  refine kw_Kgen (fun K hK => ?_)
  have hst := stay_e (s := s)
  obtain ⟨g, hg⟩ : ∃ g, g = unkB s := ⟨_, rfl⟩
  obtain ⟨G, hG⟩ : ∃ G, G = cntN g (ns_ s) := ⟨_, rfl⟩
  have hGn : G ≤ ns_ s := by rw [hG]; exact cntN_le _
  have hgk : ∀ q, kp_ s q = false → g q = false := fun q e => by rw [hg]; unfold unkB; rw [e]; rfl
  rw [← hg, ← hG] at hst
  refine kw_aload_n dX12_prune_0 rfl ?_
  refine kw_get dX12_prune_1 fl_X12_127 rfl rfl ?_
  refine kw_if_eq (tgt := 10) dX12_prune_4 (by decide) (fun c4 => ?_) (fun c4 => ?_)
  · skip
    have hd : ¬ dn_ s = true := by rw [b2_0.mp c4]; decide
    rw [a_prune, if_neg hd, ← hg, ← hG] at hK
    have loop1 : ∀ (n_ : Nat) (i : Nat) (R : Nat → Bool), ns_ s - i < n_ → i ≤ ns_ s → (∀ q, q < i → R q = g q) → kw_G l D cX12_prune RX12 (Option.some Jvm.ClassFile.FieldType.int) "prune" { frames := 5, cells := 0, slots := 0, locals := 131 } A K ad (hM s (kB k 1 R)) 0 0 17 [some (pr_ (40, 0)), some (pi_ (b2 w)), some (pi_ (nI (cntN (fun q => kp_ s q && !g q) i))), some (pi_ (nI (cntN g i))), some (pi_ (nI i)), none, none] [] := by
      intro n_
      induction n_ with
      | zero =>
        intro i R hm_
        exact absurd hm_ (Nat.not_lt_zero _)
      | succ n_ ih =>
        intro i R hm_ hi hR
        refine kw_iload dX12_prune_17 rfl ?_
        refine kw_aload_n dX12_prune_19 rfl ?_
        refine kw_get dX12_prune_20 fl_X12_218 rfl rfl ?_
        refine kw_icmp_ge (tgt := 109) dX12_prune_23 (by decide) (fun c23 => ?_) (fun c23 => ?_)
        · skip
          have e : i = ns_ s := Nat.le_antisymm hi (nI_le' (by omega) (by omega) c23)
          subst e
          rw [← hG]
          refine kw_iload_n dX12_prune_109 rfl ?_
          refine kw_if_le (tgt := 124) dX12_prune_110 (by decide) (fun c110 => ?_) (fun c110 => ?_)
          · skip
            have e110 : G = 0 := Nat.eq_zero_of_not_pos (fun q => nI_nle q (by omega) c110)
            rw [if_neg (fun z => by have := z.1; have := z.2.1; omega)] at hK
            obtain ⟨RES, hRES⟩ : ∃ RES, RES = prL g (ns_ s) 0 s := ⟨_, rfl⟩
            rw [← hRES] at hK
            have loop2 : ∀ (n_ : Nat) (c : Nat) (t : SG) (p : Nat) (κ : KG), G - c < n_ → c ≤ G → ns_ t = ns_ s → p ≤ ns_ s → c + cK g p (ns_ s) = G → (∀ q, q < ns_ s → kp_ t q = (kp_ s q && !(decide (q < p) && g q))) → prL g (ns_ s - p) p t = RES → nh_ t + cK g p (ns_ s) ≤ 240 → MI t κ → mEq κ k → (∀ q, q < ns_ s → kb_ κ 1 q = g q) → kw_G l D cX12_prune RX12 (Option.some Jvm.ClassFile.FieldType.int) "prune" { frames := 5, cells := 0, slots := 0, locals := 131 } A K ad (hM t κ) 0 0 127 [some (pr_ (40, 0)), some (pi_ (b2 w)), none, some (pi_ (nI G)), some (pi_ (nI c)), none, none] [] := by
              intro n_
              induction n_ with
              | zero =>
                intro c t p κ hm_
                exact absurd hm_ (Nat.not_lt_zero _)
              | succ n_ ih =>
                intro c t p κ hm_ hc htn hp hcp hkt hres hnt hMt hEq hκ
                refine kw_iload dX12_prune_127 rfl ?_
                refine kw_iload_n dX12_prune_129 rfl ?_
                refine kw_icmp_ge (tgt := 197) dX12_prune_130 (by decide) (fun c130 => ?_) (fun c130 => ?_)
                · skip
                  have e : c = G := Nat.le_antisymm hc (nI_le' (by omega) (by omega) c130)
                  have hz := cK_0 (show cK g p (ns_ s) = 0 by omega)
                  have hR9 : RES = (true, t) := by
                    rw [← hres]
                    have := prL_skip (g := g) (N := ns_ s) (t := t) (p := p) (ns_ s - p) (by omega) (fun q h1 h2 => hz q h1 (by omega))
                    rw [show p + (ns_ s - p) = ns_ s by omega, Nat.sub_self] at this
                    exact this
                  rw [hR9, if_pos rfl] at hK
                  refine kw_iload_n dX12_prune_197 rfl ?_
                  exact kw_iret dX12_prune_198 rfl (Nat.le_of_ble_eq_true rfl) (Nat.le_of_ble_eq_true rfl) (hK _ _ _ ⟨rfl, rfl, κ, hEq, hMt, rfl⟩)
                · skip
                  have hlt : c < G := nI_nle' (by omega) (by omega) c130
                  obtain ⟨f, hpf, hfn, hgf, hfm⟩ : ∃ f, p ≤ f ∧ f < ns_ s ∧ g f = true ∧ ∀ q, p ≤ q → q < f → g q = false := by
                    rcases findF_min (p := g) (ns_ s - p) p with z | ⟨b, z1, z2, z3, _, z5⟩
                    · have : cK g p (ns_ s) = 0 := cntN_0 (fun q hq => by
                        by_cases y : p ≤ q
                        · rw [z q y (by omega)]; rfl
                        · rw [decide_eq_false y, Bool.and_false])
                      omega
                    · exact ⟨b, z1, by omega, z3, z5⟩
                  have hskip : prL g (ns_ s - p) p t = prL g (ns_ s - f) f t := by
                    have := prL_skip (g := g) (N := ns_ s) (t := t) (p := p) (f - p) (by omega) (fun q h1 h2 => hfm q h1 (by omega))
                    rw [show p + (f - p) = f by omega] at this
                    exact this
                  have hcf : cK g p (ns_ s) = cK g (f + 1) (ns_ s) + 1 := by
                    have h1 := cK_skip (g := g) (N := ns_ s) (c := p) (f - p) (by omega) (fun q h1 h2 => hfm q h1 (by omega))
                    rw [show p + (f - p) = f by omega] at h1
                    rw [h1, cK_step hfn, hgf]
                    rfl
                  have hksf : kp_ s f = true := by cases y : kp_ s f with | true => rfl | false => rw [hgk f y] at hgf; cases hgf
                  have hff : findF (fun q => kp_ t q && g q) (ns_ s) 0 = nI f := by
                    rcases findF_min (p := (fun q => kp_ t q && g q)) (ns_ s) 0 with z | ⟨b, z1, z2, z3, z4, z5⟩
                    · have := z f (by omega) (by omega)
                      rw [hkt f hfn, hksf, decide_eq_false (show ¬ f < p by omega), hgf] at this
                      cases this
                    · have hbf : b = f := by
                        have hz3 : kp_ t b = true ∧ g b = true := by rw [Bool.and_eq_true] at z3; exact z3
                        rcases Nat.lt_trichotomy b f with y | y | y
                        · by_cases y2 : b < p
                          · have := hz3.1
                            rw [hkt b (by omega), decide_eq_true y2, hz3.2] at this
                            simp at this
                          · have := hfm b (by omega) y
                            rw [hz3.2] at this
                            cases this
                        · exact y
                        · have := z5 f (by omega) y
                          rw [hkt f hfn, hksf, decide_eq_false (show ¬ f < p by omega), hgf] at this
                          cases this
                      rw [z4, hbf]
                  have inner : ∀ (n_ : Nat) (n : Nat), n < n_ → n ≤ ns_ s → kw_G l D cX12_prune RX12 (Option.some Jvm.ClassFile.FieldType.int) "prune" { frames := 5, cells := 0, slots := 0, locals := 131 } A K ad (hM t κ) 0 0 143 [some (pr_ (40, 0)), some (pi_ (b2 w)), none, some (pi_ (nI G)), some (pi_ (nI c)), some (pi_ (findF (fun q => kp_ t q && g q) (ns_ s - n) n)), some (pi_ (encO (prevK (kp_ t) n)))] [] := by
                    intro n_
                    induction n_ with
                    | zero =>
                      intro n hm_
                      exact absurd hm_ (Nat.not_lt_zero _)
                    | succ n_ ih2 =>
                      intro n hm_ hn
                      cases hp : prevK (kp_ t) n with
                      | none =>
                        have hfe := findF_end (h := fun q => kp_ t q && g q) hn (fun q e => by show (kp_ t q && g q) = false; rw [e]; rfl) hp
                        rw [← hfe, hff]
                        by_cases hcut : cut_ t = 0
                        · skip
                          have hR0 : RES = (false, s_w0 t) := by rw [← hres, hskip, show ns_ s - f = (ns_ s - (f + 1)) + 1 by omega, prL, if_pos hgf, if_pos hcut]
                          rw [hR0, if_neg (fun z => Bool.noConfusion (show false = true from z))] at hK
                          refine kw_iload dX12_prune_143 rfl ?_
                          refine kw_iconst (v := (-1)) dX12_prune_145 (by decide) ?_
                          refine kw_icmp_eq (tgt := 179) dX12_prune_146 (by decide) (fun c146 => ?_) (fun c146 => ?_)
                          · skip
                            refine kw_aload_n dX12_prune_179 rfl ?_
                            refine kw_iload dX12_prune_180 rfl ?_
                            refine kw_callVf (As := [pi_ (nI f)]) (n_goes0 l t κ hcut (nI f)) dX12_prune_182 cl_X12_228 rfl rfl rfl rfl (Nat.le_of_ble_eq_true rfl) ⟨(Nat.le_of_ble_eq_true rfl), (Nat.le_of_ble_eq_true rfl), (Nat.le_of_ble_eq_true rfl), (Nat.le_of_ble_eq_true rfl)⟩ ?_
                            refine kw_if_ne (tgt := 191) dX12_prune_185 (by decide) (fun c185 => ?_) (fun c185 => ?_)
                            · skip
                              exact absurd rfl c185
                            · skip
                              refine kw_bipush (v := (-105)) dX12_prune_188 (by decide) ?_
                              exact kw_iret dX12_prune_190 rfl (Nat.le_of_ble_eq_true rfl) (Nat.le_of_ble_eq_true rfl) (hK _ _ _ ⟨rfl, rfl, κ, hEq, MI_lost hMt, rfl⟩)
                          · skip
                            exact absurd rfl c146
                        have hR1 : prL g (ns_ s - (f + 1)) (f + 1) (s_rmv t f) = RES := by rw [← hres, hskip, show ns_ s - f = (ns_ s - (f + 1)) + 1 by omega, prL, if_pos hgf, if_neg hcut]
                        refine kw_iload dX12_prune_143 rfl ?_
                        refine kw_iconst (v := (-1)) dX12_prune_145 (by decide) ?_
                        refine kw_icmp_eq (tgt := 179) dX12_prune_146 (by decide) (fun c146 => ?_) (fun c146 => ?_)
                        · skip
                          refine kw_aload_n dX12_prune_179 rfl ?_
                          refine kw_iload dX12_prune_180 rfl ?_
                          refine kw_callVf (As := [pi_ (nI f)]) (n_goes1 l t κ hcut (by omega) (by omega) f (by omega)) dX12_prune_182 cl_X12_228 rfl rfl rfl rfl (Nat.le_of_ble_eq_true rfl) ⟨(Nat.le_of_ble_eq_true rfl), (Nat.le_of_ble_eq_true rfl), (Nat.le_of_ble_eq_true rfl), (Nat.le_of_ble_eq_true rfl)⟩ ?_
                          refine kw_if_ne (tgt := 191) dX12_prune_185 (by decide) (fun c185 => ?_) (fun c185 => ?_)
                          · skip
                            refine kw_iinc dX12_prune_191 rfl (nI_i c) ?_
                            refine kw_goto (tgt := 127) dX12_prune_194 (by decide) ?_
                            refine kw_lvle (lv' := [some (pr_ (40, 0)), some (pi_ (b2 w)), none, some (pi_ (nI G)), some (pi_ (nI (c + 1))), none, none]) (kw_le_s (kw_le_s (kw_le_n (kw_le_s (kw_le_s (kw_le_n (kw_le_n kw_le_0))))))) ?_
                            refine ih (c + 1) (s_rmv t f) (f + 1) κ (by omega) (by omega) (by rw [ns_, s_rmv_1 t f 7 (by decide)]; exact htn) (by omega) (by omega) ?_ hR1 (by rw [s_rmv_nh]; omega) (MI_rmv hMt f) hEq hκ
                            intro q hq
                            show va_up (kp_ t) f false q = _
                            by_cases z : q = f
                            · rw [z, va_s, decide_eq_true (Nat.lt_succ_self f), hgf]; simp
                            · rw [va_n _ _ z, hkt q hq]
                              by_cases z2 : q < p
                              · rw [decide_eq_true z2, decide_eq_true (show q < f + 1 by omega)]
                              · by_cases z3 : q < f
                                · rw [hfm q (by omega) z3, Bool.and_false, Bool.and_false]
                                · rw [decide_eq_false z2, decide_eq_false (show ¬ q < f + 1 by omega)]
                          · skip
                            exact absurd c185 (by decide)
                        · skip
                          exact absurd rfl c146
                      | some b =>
                        obtain ⟨hbn, hkb, hbb⟩ := prevK_some hp
                        have hfp := findF_prev (h := fun q => kp_ t q && g q) hn (fun q e => by show (kp_ t q && g q) = false; rw [e]; rfl) hp
                        refine kw_iload dX12_prune_143 rfl ?_
                        refine kw_iconst (v := (-1)) dX12_prune_145 (by decide) ?_
                        refine kw_icmp_eq (tgt := 179) dX12_prune_146 (by decide) (fun c146 => ?_) (fun c146 => ?_)
                        · skip
                          exact absurd c146 (nI_m1 (by omega))
                        · skip
                          refine kw_aload_n dX12_prune_149 rfl ?_
                          refine kw_get dX12_prune_150 fl_X12_112 rfl rfl ?_
                          refine kw_iload dX12_prune_153 rfl ?_
                          refine kw_zaldN dX12_prune_155 rfl (by omega) (by decide) ?_
                          refine kw_top (v' := pi_ (b2 (g b))) (by rw [hκ b (by omega)]) ?_
                          refine kw_if_eq (tgt := 164) dX12_prune_156 (by decide) (fun c156 => ?_) (fun c156 => ?_)
                          · skip
                            have e156 := b2_0.mp c156
                            refine kw_iload dX12_prune_164 rfl ?_
                            refine kw_istore dX12_prune_166 (Nat.le_of_ble_eq_true rfl) ?_
                            refine kw_aload_n dX12_prune_168 rfl ?_
                            refine kw_iload dX12_prune_169 rfl ?_
                            refine kw_callVf (As := [pi_ (nI b)]) (n_behind l t κ (by omega) b (by omega)) dX12_prune_171 cl_X12_251 rfl rfl rfl rfl (Nat.le_of_ble_eq_true rfl) ⟨(Nat.le_of_ble_eq_true rfl), (Nat.le_of_ble_eq_true rfl), (Nat.le_of_ble_eq_true rfl), (Nat.le_of_ble_eq_true rfl)⟩ ?_
                            refine kw_istore dX12_prune_174 (Nat.le_of_ble_eq_true rfl) ?_
                            refine kw_goto (tgt := 143) dX12_prune_176 (by decide) ?_
                            refine kw_lvle (lv' := [some (pr_ (40, 0)), some (pi_ (b2 w)), none, some (pi_ (nI G)), some (pi_ (nI c)), some (pi_ (findF (fun q => kp_ t q && g q) (ns_ s - b) b)), some (pi_ (encO (prevK (kp_ t) b)))]) (by rw [hfp, if_neg (by show ¬ (kp_ t b && g b) = true; rw [e156, Bool.and_false]; decide)]; exact kw_le_s (kw_le_s (kw_le_n (kw_le_s (kw_le_s (kw_le_s (kw_le_s kw_le_0))))))) ?_
                            exact ih2 b (by omega) (by omega)
                          · skip
                            have e156 := b2_n0.mp c156
                            refine kw_iload dX12_prune_159 rfl ?_
                            refine kw_goto (tgt := 166) dX12_prune_161 (by decide) ?_
                            refine kw_istore dX12_prune_166 (Nat.le_of_ble_eq_true rfl) ?_
                            refine kw_aload_n dX12_prune_168 rfl ?_
                            refine kw_iload dX12_prune_169 rfl ?_
                            refine kw_callVf (As := [pi_ (nI b)]) (n_behind l t κ (by omega) b (by omega)) dX12_prune_171 cl_X12_251 rfl rfl rfl rfl (Nat.le_of_ble_eq_true rfl) ⟨(Nat.le_of_ble_eq_true rfl), (Nat.le_of_ble_eq_true rfl), (Nat.le_of_ble_eq_true rfl), (Nat.le_of_ble_eq_true rfl)⟩ ?_
                            refine kw_istore dX12_prune_174 (Nat.le_of_ble_eq_true rfl) ?_
                            refine kw_goto (tgt := 143) dX12_prune_176 (by decide) ?_
                            refine kw_lvle (lv' := [some (pr_ (40, 0)), some (pi_ (b2 w)), none, some (pi_ (nI G)), some (pi_ (nI c)), some (pi_ (findF (fun q => kp_ t q && g q) (ns_ s - b) b)), some (pi_ (encO (prevK (kp_ t) b)))]) (by rw [hfp, if_pos (by show (kp_ t b && g b) = true; rw [hkb, e156]; rfl)]; exact kw_le_s (kw_le_s (kw_le_n (kw_le_s (kw_le_s (kw_le_s (kw_le_s kw_le_0))))))) ?_
                            exact ih2 b (by omega) (by omega)
                  refine kw_iconst (v := (-1)) dX12_prune_133 (by decide) ?_
                  refine kw_top (v' := pi_ (findF (fun q => kp_ t q && g q) (ns_ s - ns_ s) (ns_ s))) (by rw [Nat.sub_self]; rfl) ?_
                  refine kw_istore dX12_prune_134 (Nat.le_of_ble_eq_true rfl) ?_
                  refine kw_aload_n dX12_prune_136 rfl ?_
                  refine kw_iconst (v := (-1)) dX12_prune_137 (by decide) ?_
                  refine kw_callVf (As := [pi_ (-1)]) (n_behind0 l t κ (by omega)) dX12_prune_138 cl_X12_251 rfl rfl rfl rfl (Nat.le_of_ble_eq_true rfl) ⟨(Nat.le_of_ble_eq_true rfl), (Nat.le_of_ble_eq_true rfl), (Nat.le_of_ble_eq_true rfl), (Nat.le_of_ble_eq_true rfl)⟩ ?_
                  rw [htn]
                  refine kw_istore dX12_prune_141 (Nat.le_of_ble_eq_true rfl) ?_
                  refine kw_lvle (lv' := [some (pr_ (40, 0)), some (pi_ (b2 w)), none, some (pi_ (nI G)), some (pi_ (nI c)), some (pi_ (findF (fun q => kp_ t q && g q) (ns_ s - ns_ s) (ns_ s))), some (pi_ (encO (prevK (kp_ t) (ns_ s))))]) (kw_le_s (kw_le_s (kw_le_n (kw_le_s (kw_le_s (kw_le_s (kw_le_s kw_le_0))))))) ?_
                  exact inner (ns_ s + 1) (ns_ s) (by omega) (Nat.le_refl _)
            refine kw_iconst (v := 0) dX12_prune_124 (by decide) ?_
            refine kw_istore dX12_prune_125 (Nat.le_of_ble_eq_true rfl) ?_
            refine kw_lvle (lv' := [some (pr_ (40, 0)), some (pi_ (b2 w)), none, some (pi_ (nI G)), some (pi_ (nI 0)), none, none]) (kw_le_s (kw_le_s (kw_le_n (kw_le_s (kw_le_s (kw_le_n (kw_le_n kw_le_0))))))) ?_
            have hall := cK_all g (ns_ s)
            exact loop2 (G + 1) 0 s 0 (kB k 1 R) (by omega) (by omega) rfl (by omega) (by omega) (fun q hq => by rw [decide_eq_false (Nat.not_lt_zero q)]; simp) (by rw [Nat.sub_zero, hRES]) (by omega) (kB_MI hMI 1 R) ⟨rfl, rfl⟩ hR
          · skip
            have e110 : 0 < G := Nat.pos_of_ne_zero (fun q => c110 (by rw [q]; decide))
            refine kw_iload_n dX12_prune_113 rfl ?_
            refine kw_if_ne (tgt := 124) dX12_prune_114 (by decide) (fun c114 => ?_) (fun c114 => ?_)
            · skip
              have e114 : cntN (fun q => kp_ s q && !g q) (ns_ s) ≠ 0 := fun q => c114 (by rw [q]; rfl)
              rw [if_neg (fun z => by have := z.2.1; omega)] at hK
              obtain ⟨RES, hRES⟩ : ∃ RES, RES = prL g (ns_ s) 0 s := ⟨_, rfl⟩
              rw [← hRES] at hK
              have loop2 : ∀ (n_ : Nat) (c : Nat) (t : SG) (p : Nat) (κ : KG), G - c < n_ → c ≤ G → ns_ t = ns_ s → p ≤ ns_ s → c + cK g p (ns_ s) = G → (∀ q, q < ns_ s → kp_ t q = (kp_ s q && !(decide (q < p) && g q))) → prL g (ns_ s - p) p t = RES → nh_ t + cK g p (ns_ s) ≤ 240 → MI t κ → mEq κ k → (∀ q, q < ns_ s → kb_ κ 1 q = g q) → kw_G l D cX12_prune RX12 (Option.some Jvm.ClassFile.FieldType.int) "prune" { frames := 5, cells := 0, slots := 0, locals := 131 } A K ad (hM t κ) 0 0 127 [some (pr_ (40, 0)), some (pi_ (b2 w)), none, some (pi_ (nI G)), some (pi_ (nI c)), none, none] [] := by
                intro n_
                induction n_ with
                | zero =>
                  intro c t p κ hm_
                  exact absurd hm_ (Nat.not_lt_zero _)
                | succ n_ ih =>
                  intro c t p κ hm_ hc htn hp hcp hkt hres hnt hMt hEq hκ
                  refine kw_iload dX12_prune_127 rfl ?_
                  refine kw_iload_n dX12_prune_129 rfl ?_
                  refine kw_icmp_ge (tgt := 197) dX12_prune_130 (by decide) (fun c130 => ?_) (fun c130 => ?_)
                  · skip
                    have e : c = G := Nat.le_antisymm hc (nI_le' (by omega) (by omega) c130)
                    have hz := cK_0 (show cK g p (ns_ s) = 0 by omega)
                    have hR9 : RES = (true, t) := by
                      rw [← hres]
                      have := prL_skip (g := g) (N := ns_ s) (t := t) (p := p) (ns_ s - p) (by omega) (fun q h1 h2 => hz q h1 (by omega))
                      rw [show p + (ns_ s - p) = ns_ s by omega, Nat.sub_self] at this
                      exact this
                    rw [hR9, if_pos rfl] at hK
                    refine kw_iload_n dX12_prune_197 rfl ?_
                    exact kw_iret dX12_prune_198 rfl (Nat.le_of_ble_eq_true rfl) (Nat.le_of_ble_eq_true rfl) (hK _ _ _ ⟨rfl, rfl, κ, hEq, hMt, rfl⟩)
                  · skip
                    have hlt : c < G := nI_nle' (by omega) (by omega) c130
                    obtain ⟨f, hpf, hfn, hgf, hfm⟩ : ∃ f, p ≤ f ∧ f < ns_ s ∧ g f = true ∧ ∀ q, p ≤ q → q < f → g q = false := by
                      rcases findF_min (p := g) (ns_ s - p) p with z | ⟨b, z1, z2, z3, _, z5⟩
                      · have : cK g p (ns_ s) = 0 := cntN_0 (fun q hq => by
                          by_cases y : p ≤ q
                          · rw [z q y (by omega)]; rfl
                          · rw [decide_eq_false y, Bool.and_false])
                        omega
                      · exact ⟨b, z1, by omega, z3, z5⟩
                    have hskip : prL g (ns_ s - p) p t = prL g (ns_ s - f) f t := by
                      have := prL_skip (g := g) (N := ns_ s) (t := t) (p := p) (f - p) (by omega) (fun q h1 h2 => hfm q h1 (by omega))
                      rw [show p + (f - p) = f by omega] at this
                      exact this
                    have hcf : cK g p (ns_ s) = cK g (f + 1) (ns_ s) + 1 := by
                      have h1 := cK_skip (g := g) (N := ns_ s) (c := p) (f - p) (by omega) (fun q h1 h2 => hfm q h1 (by omega))
                      rw [show p + (f - p) = f by omega] at h1
                      rw [h1, cK_step hfn, hgf]
                      rfl
                    have hksf : kp_ s f = true := by cases y : kp_ s f with | true => rfl | false => rw [hgk f y] at hgf; cases hgf
                    have hff : findF (fun q => kp_ t q && g q) (ns_ s) 0 = nI f := by
                      rcases findF_min (p := (fun q => kp_ t q && g q)) (ns_ s) 0 with z | ⟨b, z1, z2, z3, z4, z5⟩
                      · have := z f (by omega) (by omega)
                        rw [hkt f hfn, hksf, decide_eq_false (show ¬ f < p by omega), hgf] at this
                        cases this
                      · have hbf : b = f := by
                          have hz3 : kp_ t b = true ∧ g b = true := by rw [Bool.and_eq_true] at z3; exact z3
                          rcases Nat.lt_trichotomy b f with y | y | y
                          · by_cases y2 : b < p
                            · have := hz3.1
                              rw [hkt b (by omega), decide_eq_true y2, hz3.2] at this
                              simp at this
                            · have := hfm b (by omega) y
                              rw [hz3.2] at this
                              cases this
                          · exact y
                          · have := z5 f (by omega) y
                            rw [hkt f hfn, hksf, decide_eq_false (show ¬ f < p by omega), hgf] at this
                            cases this
                        rw [z4, hbf]
                    have inner : ∀ (n_ : Nat) (n : Nat), n < n_ → n ≤ ns_ s → kw_G l D cX12_prune RX12 (Option.some Jvm.ClassFile.FieldType.int) "prune" { frames := 5, cells := 0, slots := 0, locals := 131 } A K ad (hM t κ) 0 0 143 [some (pr_ (40, 0)), some (pi_ (b2 w)), none, some (pi_ (nI G)), some (pi_ (nI c)), some (pi_ (findF (fun q => kp_ t q && g q) (ns_ s - n) n)), some (pi_ (encO (prevK (kp_ t) n)))] [] := by
                      intro n_
                      induction n_ with
                      | zero =>
                        intro n hm_
                        exact absurd hm_ (Nat.not_lt_zero _)
                      | succ n_ ih2 =>
                        intro n hm_ hn
                        cases hp : prevK (kp_ t) n with
                        | none =>
                          have hfe := findF_end (h := fun q => kp_ t q && g q) hn (fun q e => by show (kp_ t q && g q) = false; rw [e]; rfl) hp
                          rw [← hfe, hff]
                          by_cases hcut : cut_ t = 0
                          · skip
                            have hR0 : RES = (false, s_w0 t) := by rw [← hres, hskip, show ns_ s - f = (ns_ s - (f + 1)) + 1 by omega, prL, if_pos hgf, if_pos hcut]
                            rw [hR0, if_neg (fun z => Bool.noConfusion (show false = true from z))] at hK
                            refine kw_iload dX12_prune_143 rfl ?_
                            refine kw_iconst (v := (-1)) dX12_prune_145 (by decide) ?_
                            refine kw_icmp_eq (tgt := 179) dX12_prune_146 (by decide) (fun c146 => ?_) (fun c146 => ?_)
                            · skip
                              refine kw_aload_n dX12_prune_179 rfl ?_
                              refine kw_iload dX12_prune_180 rfl ?_
                              refine kw_callVf (As := [pi_ (nI f)]) (n_goes0 l t κ hcut (nI f)) dX12_prune_182 cl_X12_228 rfl rfl rfl rfl (Nat.le_of_ble_eq_true rfl) ⟨(Nat.le_of_ble_eq_true rfl), (Nat.le_of_ble_eq_true rfl), (Nat.le_of_ble_eq_true rfl), (Nat.le_of_ble_eq_true rfl)⟩ ?_
                              refine kw_if_ne (tgt := 191) dX12_prune_185 (by decide) (fun c185 => ?_) (fun c185 => ?_)
                              · skip
                                exact absurd rfl c185
                              · skip
                                refine kw_bipush (v := (-105)) dX12_prune_188 (by decide) ?_
                                exact kw_iret dX12_prune_190 rfl (Nat.le_of_ble_eq_true rfl) (Nat.le_of_ble_eq_true rfl) (hK _ _ _ ⟨rfl, rfl, κ, hEq, MI_lost hMt, rfl⟩)
                            · skip
                              exact absurd rfl c146
                          have hR1 : prL g (ns_ s - (f + 1)) (f + 1) (s_rmv t f) = RES := by rw [← hres, hskip, show ns_ s - f = (ns_ s - (f + 1)) + 1 by omega, prL, if_pos hgf, if_neg hcut]
                          refine kw_iload dX12_prune_143 rfl ?_
                          refine kw_iconst (v := (-1)) dX12_prune_145 (by decide) ?_
                          refine kw_icmp_eq (tgt := 179) dX12_prune_146 (by decide) (fun c146 => ?_) (fun c146 => ?_)
                          · skip
                            refine kw_aload_n dX12_prune_179 rfl ?_
                            refine kw_iload dX12_prune_180 rfl ?_
                            refine kw_callVf (As := [pi_ (nI f)]) (n_goes1 l t κ hcut (by omega) (by omega) f (by omega)) dX12_prune_182 cl_X12_228 rfl rfl rfl rfl (Nat.le_of_ble_eq_true rfl) ⟨(Nat.le_of_ble_eq_true rfl), (Nat.le_of_ble_eq_true rfl), (Nat.le_of_ble_eq_true rfl), (Nat.le_of_ble_eq_true rfl)⟩ ?_
                            refine kw_if_ne (tgt := 191) dX12_prune_185 (by decide) (fun c185 => ?_) (fun c185 => ?_)
                            · skip
                              refine kw_iinc dX12_prune_191 rfl (nI_i c) ?_
                              refine kw_goto (tgt := 127) dX12_prune_194 (by decide) ?_
                              refine kw_lvle (lv' := [some (pr_ (40, 0)), some (pi_ (b2 w)), none, some (pi_ (nI G)), some (pi_ (nI (c + 1))), none, none]) (kw_le_s (kw_le_s (kw_le_n (kw_le_s (kw_le_s (kw_le_n (kw_le_n kw_le_0))))))) ?_
                              refine ih (c + 1) (s_rmv t f) (f + 1) κ (by omega) (by omega) (by rw [ns_, s_rmv_1 t f 7 (by decide)]; exact htn) (by omega) (by omega) ?_ hR1 (by rw [s_rmv_nh]; omega) (MI_rmv hMt f) hEq hκ
                              intro q hq
                              show va_up (kp_ t) f false q = _
                              by_cases z : q = f
                              · rw [z, va_s, decide_eq_true (Nat.lt_succ_self f), hgf]; simp
                              · rw [va_n _ _ z, hkt q hq]
                                by_cases z2 : q < p
                                · rw [decide_eq_true z2, decide_eq_true (show q < f + 1 by omega)]
                                · by_cases z3 : q < f
                                  · rw [hfm q (by omega) z3, Bool.and_false, Bool.and_false]
                                  · rw [decide_eq_false z2, decide_eq_false (show ¬ q < f + 1 by omega)]
                            · skip
                              exact absurd c185 (by decide)
                          · skip
                            exact absurd rfl c146
                        | some b =>
                          obtain ⟨hbn, hkb, hbb⟩ := prevK_some hp
                          have hfp := findF_prev (h := fun q => kp_ t q && g q) hn (fun q e => by show (kp_ t q && g q) = false; rw [e]; rfl) hp
                          refine kw_iload dX12_prune_143 rfl ?_
                          refine kw_iconst (v := (-1)) dX12_prune_145 (by decide) ?_
                          refine kw_icmp_eq (tgt := 179) dX12_prune_146 (by decide) (fun c146 => ?_) (fun c146 => ?_)
                          · skip
                            exact absurd c146 (nI_m1 (by omega))
                          · skip
                            refine kw_aload_n dX12_prune_149 rfl ?_
                            refine kw_get dX12_prune_150 fl_X12_112 rfl rfl ?_
                            refine kw_iload dX12_prune_153 rfl ?_
                            refine kw_zaldN dX12_prune_155 rfl (by omega) (by decide) ?_
                            refine kw_top (v' := pi_ (b2 (g b))) (by rw [hκ b (by omega)]) ?_
                            refine kw_if_eq (tgt := 164) dX12_prune_156 (by decide) (fun c156 => ?_) (fun c156 => ?_)
                            · skip
                              have e156 := b2_0.mp c156
                              refine kw_iload dX12_prune_164 rfl ?_
                              refine kw_istore dX12_prune_166 (Nat.le_of_ble_eq_true rfl) ?_
                              refine kw_aload_n dX12_prune_168 rfl ?_
                              refine kw_iload dX12_prune_169 rfl ?_
                              refine kw_callVf (As := [pi_ (nI b)]) (n_behind l t κ (by omega) b (by omega)) dX12_prune_171 cl_X12_251 rfl rfl rfl rfl (Nat.le_of_ble_eq_true rfl) ⟨(Nat.le_of_ble_eq_true rfl), (Nat.le_of_ble_eq_true rfl), (Nat.le_of_ble_eq_true rfl), (Nat.le_of_ble_eq_true rfl)⟩ ?_
                              refine kw_istore dX12_prune_174 (Nat.le_of_ble_eq_true rfl) ?_
                              refine kw_goto (tgt := 143) dX12_prune_176 (by decide) ?_
                              refine kw_lvle (lv' := [some (pr_ (40, 0)), some (pi_ (b2 w)), none, some (pi_ (nI G)), some (pi_ (nI c)), some (pi_ (findF (fun q => kp_ t q && g q) (ns_ s - b) b)), some (pi_ (encO (prevK (kp_ t) b)))]) (by rw [hfp, if_neg (by show ¬ (kp_ t b && g b) = true; rw [e156, Bool.and_false]; decide)]; exact kw_le_s (kw_le_s (kw_le_n (kw_le_s (kw_le_s (kw_le_s (kw_le_s kw_le_0))))))) ?_
                              exact ih2 b (by omega) (by omega)
                            · skip
                              have e156 := b2_n0.mp c156
                              refine kw_iload dX12_prune_159 rfl ?_
                              refine kw_goto (tgt := 166) dX12_prune_161 (by decide) ?_
                              refine kw_istore dX12_prune_166 (Nat.le_of_ble_eq_true rfl) ?_
                              refine kw_aload_n dX12_prune_168 rfl ?_
                              refine kw_iload dX12_prune_169 rfl ?_
                              refine kw_callVf (As := [pi_ (nI b)]) (n_behind l t κ (by omega) b (by omega)) dX12_prune_171 cl_X12_251 rfl rfl rfl rfl (Nat.le_of_ble_eq_true rfl) ⟨(Nat.le_of_ble_eq_true rfl), (Nat.le_of_ble_eq_true rfl), (Nat.le_of_ble_eq_true rfl), (Nat.le_of_ble_eq_true rfl)⟩ ?_
                              refine kw_istore dX12_prune_174 (Nat.le_of_ble_eq_true rfl) ?_
                              refine kw_goto (tgt := 143) dX12_prune_176 (by decide) ?_
                              refine kw_lvle (lv' := [some (pr_ (40, 0)), some (pi_ (b2 w)), none, some (pi_ (nI G)), some (pi_ (nI c)), some (pi_ (findF (fun q => kp_ t q && g q) (ns_ s - b) b)), some (pi_ (encO (prevK (kp_ t) b)))]) (by rw [hfp, if_pos (by show (kp_ t b && g b) = true; rw [hkb, e156]; rfl)]; exact kw_le_s (kw_le_s (kw_le_n (kw_le_s (kw_le_s (kw_le_s (kw_le_s kw_le_0))))))) ?_
                              exact ih2 b (by omega) (by omega)
                    refine kw_iconst (v := (-1)) dX12_prune_133 (by decide) ?_
                    refine kw_top (v' := pi_ (findF (fun q => kp_ t q && g q) (ns_ s - ns_ s) (ns_ s))) (by rw [Nat.sub_self]; rfl) ?_
                    refine kw_istore dX12_prune_134 (Nat.le_of_ble_eq_true rfl) ?_
                    refine kw_aload_n dX12_prune_136 rfl ?_
                    refine kw_iconst (v := (-1)) dX12_prune_137 (by decide) ?_
                    refine kw_callVf (As := [pi_ (-1)]) (n_behind0 l t κ (by omega)) dX12_prune_138 cl_X12_251 rfl rfl rfl rfl (Nat.le_of_ble_eq_true rfl) ⟨(Nat.le_of_ble_eq_true rfl), (Nat.le_of_ble_eq_true rfl), (Nat.le_of_ble_eq_true rfl), (Nat.le_of_ble_eq_true rfl)⟩ ?_
                    rw [htn]
                    refine kw_istore dX12_prune_141 (Nat.le_of_ble_eq_true rfl) ?_
                    refine kw_lvle (lv' := [some (pr_ (40, 0)), some (pi_ (b2 w)), none, some (pi_ (nI G)), some (pi_ (nI c)), some (pi_ (findF (fun q => kp_ t q && g q) (ns_ s - ns_ s) (ns_ s))), some (pi_ (encO (prevK (kp_ t) (ns_ s))))]) (kw_le_s (kw_le_s (kw_le_n (kw_le_s (kw_le_s (kw_le_s (kw_le_s kw_le_0))))))) ?_
                    exact inner (ns_ s + 1) (ns_ s) (by omega) (Nat.le_refl _)
              refine kw_iconst (v := 0) dX12_prune_124 (by decide) ?_
              refine kw_istore dX12_prune_125 (Nat.le_of_ble_eq_true rfl) ?_
              refine kw_lvle (lv' := [some (pr_ (40, 0)), some (pi_ (b2 w)), none, some (pi_ (nI G)), some (pi_ (nI 0)), none, none]) (kw_le_s (kw_le_s (kw_le_n (kw_le_s (kw_le_s (kw_le_n (kw_le_n kw_le_0))))))) ?_
              have hall := cK_all g (ns_ s)
              exact loop2 (G + 1) 0 s 0 (kB k 1 R) (by omega) (by omega) rfl (by omega) (by omega) (fun q hq => by rw [decide_eq_false (Nat.not_lt_zero q)]; simp) (by rw [Nat.sub_zero, hRES]) (by omega) (kB_MI hMI 1 R) ⟨rfl, rfl⟩ hR
            · skip
              have hsl : cntN (fun q => kp_ s q && !g q) (ns_ s) ≤ ns_ s := cntN_le _
              have e114 : cntN (fun q => kp_ s q && !g q) (ns_ s) = 0 := nI_eq' (b := 0) (by omega) (by decide) c114
              refine kw_iload_n dX12_prune_117 rfl ?_
              refine kw_if_ne (tgt := 124) dX12_prune_118 (by decide) (fun c118 => ?_) (fun c118 => ?_)
              · skip
                have e118 : w = true := by cases w with | true => rfl | false => exact absurd rfl c118
                rw [if_neg (fun z => by rw [e118] at z; cases z.2.2)] at hK
                obtain ⟨RES, hRES⟩ : ∃ RES, RES = prL g (ns_ s) 0 s := ⟨_, rfl⟩
                rw [← hRES] at hK
                have loop2 : ∀ (n_ : Nat) (c : Nat) (t : SG) (p : Nat) (κ : KG), G - c < n_ → c ≤ G → ns_ t = ns_ s → p ≤ ns_ s → c + cK g p (ns_ s) = G → (∀ q, q < ns_ s → kp_ t q = (kp_ s q && !(decide (q < p) && g q))) → prL g (ns_ s - p) p t = RES → nh_ t + cK g p (ns_ s) ≤ 240 → MI t κ → mEq κ k → (∀ q, q < ns_ s → kb_ κ 1 q = g q) → kw_G l D cX12_prune RX12 (Option.some Jvm.ClassFile.FieldType.int) "prune" { frames := 5, cells := 0, slots := 0, locals := 131 } A K ad (hM t κ) 0 0 127 [some (pr_ (40, 0)), some (pi_ (b2 w)), none, some (pi_ (nI G)), some (pi_ (nI c)), none, none] [] := by
                  intro n_
                  induction n_ with
                  | zero =>
                    intro c t p κ hm_
                    exact absurd hm_ (Nat.not_lt_zero _)
                  | succ n_ ih =>
                    intro c t p κ hm_ hc htn hp hcp hkt hres hnt hMt hEq hκ
                    refine kw_iload dX12_prune_127 rfl ?_
                    refine kw_iload_n dX12_prune_129 rfl ?_
                    refine kw_icmp_ge (tgt := 197) dX12_prune_130 (by decide) (fun c130 => ?_) (fun c130 => ?_)
                    · skip
                      have e : c = G := Nat.le_antisymm hc (nI_le' (by omega) (by omega) c130)
                      have hz := cK_0 (show cK g p (ns_ s) = 0 by omega)
                      have hR9 : RES = (true, t) := by
                        rw [← hres]
                        have := prL_skip (g := g) (N := ns_ s) (t := t) (p := p) (ns_ s - p) (by omega) (fun q h1 h2 => hz q h1 (by omega))
                        rw [show p + (ns_ s - p) = ns_ s by omega, Nat.sub_self] at this
                        exact this
                      rw [hR9, if_pos rfl] at hK
                      refine kw_iload_n dX12_prune_197 rfl ?_
                      exact kw_iret dX12_prune_198 rfl (Nat.le_of_ble_eq_true rfl) (Nat.le_of_ble_eq_true rfl) (hK _ _ _ ⟨rfl, rfl, κ, hEq, hMt, rfl⟩)
                    · skip
                      have hlt : c < G := nI_nle' (by omega) (by omega) c130
                      obtain ⟨f, hpf, hfn, hgf, hfm⟩ : ∃ f, p ≤ f ∧ f < ns_ s ∧ g f = true ∧ ∀ q, p ≤ q → q < f → g q = false := by
                        rcases findF_min (p := g) (ns_ s - p) p with z | ⟨b, z1, z2, z3, _, z5⟩
                        · have : cK g p (ns_ s) = 0 := cntN_0 (fun q hq => by
                            by_cases y : p ≤ q
                            · rw [z q y (by omega)]; rfl
                            · rw [decide_eq_false y, Bool.and_false])
                          omega
                        · exact ⟨b, z1, by omega, z3, z5⟩
                      have hskip : prL g (ns_ s - p) p t = prL g (ns_ s - f) f t := by
                        have := prL_skip (g := g) (N := ns_ s) (t := t) (p := p) (f - p) (by omega) (fun q h1 h2 => hfm q h1 (by omega))
                        rw [show p + (f - p) = f by omega] at this
                        exact this
                      have hcf : cK g p (ns_ s) = cK g (f + 1) (ns_ s) + 1 := by
                        have h1 := cK_skip (g := g) (N := ns_ s) (c := p) (f - p) (by omega) (fun q h1 h2 => hfm q h1 (by omega))
                        rw [show p + (f - p) = f by omega] at h1
                        rw [h1, cK_step hfn, hgf]
                        rfl
                      have hksf : kp_ s f = true := by cases y : kp_ s f with | true => rfl | false => rw [hgk f y] at hgf; cases hgf
                      have hff : findF (fun q => kp_ t q && g q) (ns_ s) 0 = nI f := by
                        rcases findF_min (p := (fun q => kp_ t q && g q)) (ns_ s) 0 with z | ⟨b, z1, z2, z3, z4, z5⟩
                        · have := z f (by omega) (by omega)
                          rw [hkt f hfn, hksf, decide_eq_false (show ¬ f < p by omega), hgf] at this
                          cases this
                        · have hbf : b = f := by
                            have hz3 : kp_ t b = true ∧ g b = true := by rw [Bool.and_eq_true] at z3; exact z3
                            rcases Nat.lt_trichotomy b f with y | y | y
                            · by_cases y2 : b < p
                              · have := hz3.1
                                rw [hkt b (by omega), decide_eq_true y2, hz3.2] at this
                                simp at this
                              · have := hfm b (by omega) y
                                rw [hz3.2] at this
                                cases this
                            · exact y
                            · have := z5 f (by omega) y
                              rw [hkt f hfn, hksf, decide_eq_false (show ¬ f < p by omega), hgf] at this
                              cases this
                          rw [z4, hbf]
                      have inner : ∀ (n_ : Nat) (n : Nat), n < n_ → n ≤ ns_ s → kw_G l D cX12_prune RX12 (Option.some Jvm.ClassFile.FieldType.int) "prune" { frames := 5, cells := 0, slots := 0, locals := 131 } A K ad (hM t κ) 0 0 143 [some (pr_ (40, 0)), some (pi_ (b2 w)), none, some (pi_ (nI G)), some (pi_ (nI c)), some (pi_ (findF (fun q => kp_ t q && g q) (ns_ s - n) n)), some (pi_ (encO (prevK (kp_ t) n)))] [] := by
                        intro n_
                        induction n_ with
                        | zero =>
                          intro n hm_
                          exact absurd hm_ (Nat.not_lt_zero _)
                        | succ n_ ih2 =>
                          intro n hm_ hn
                          cases hp : prevK (kp_ t) n with
                          | none =>
                            have hfe := findF_end (h := fun q => kp_ t q && g q) hn (fun q e => by show (kp_ t q && g q) = false; rw [e]; rfl) hp
                            rw [← hfe, hff]
                            by_cases hcut : cut_ t = 0
                            · skip
                              have hR0 : RES = (false, s_w0 t) := by rw [← hres, hskip, show ns_ s - f = (ns_ s - (f + 1)) + 1 by omega, prL, if_pos hgf, if_pos hcut]
                              rw [hR0, if_neg (fun z => Bool.noConfusion (show false = true from z))] at hK
                              refine kw_iload dX12_prune_143 rfl ?_
                              refine kw_iconst (v := (-1)) dX12_prune_145 (by decide) ?_
                              refine kw_icmp_eq (tgt := 179) dX12_prune_146 (by decide) (fun c146 => ?_) (fun c146 => ?_)
                              · skip
                                refine kw_aload_n dX12_prune_179 rfl ?_
                                refine kw_iload dX12_prune_180 rfl ?_
                                refine kw_callVf (As := [pi_ (nI f)]) (n_goes0 l t κ hcut (nI f)) dX12_prune_182 cl_X12_228 rfl rfl rfl rfl (Nat.le_of_ble_eq_true rfl) ⟨(Nat.le_of_ble_eq_true rfl), (Nat.le_of_ble_eq_true rfl), (Nat.le_of_ble_eq_true rfl), (Nat.le_of_ble_eq_true rfl)⟩ ?_
                                refine kw_if_ne (tgt := 191) dX12_prune_185 (by decide) (fun c185 => ?_) (fun c185 => ?_)
                                · skip
                                  exact absurd rfl c185
                                · skip
                                  refine kw_bipush (v := (-105)) dX12_prune_188 (by decide) ?_
                                  exact kw_iret dX12_prune_190 rfl (Nat.le_of_ble_eq_true rfl) (Nat.le_of_ble_eq_true rfl) (hK _ _ _ ⟨rfl, rfl, κ, hEq, MI_lost hMt, rfl⟩)
                              · skip
                                exact absurd rfl c146
                            have hR1 : prL g (ns_ s - (f + 1)) (f + 1) (s_rmv t f) = RES := by rw [← hres, hskip, show ns_ s - f = (ns_ s - (f + 1)) + 1 by omega, prL, if_pos hgf, if_neg hcut]
                            refine kw_iload dX12_prune_143 rfl ?_
                            refine kw_iconst (v := (-1)) dX12_prune_145 (by decide) ?_
                            refine kw_icmp_eq (tgt := 179) dX12_prune_146 (by decide) (fun c146 => ?_) (fun c146 => ?_)
                            · skip
                              refine kw_aload_n dX12_prune_179 rfl ?_
                              refine kw_iload dX12_prune_180 rfl ?_
                              refine kw_callVf (As := [pi_ (nI f)]) (n_goes1 l t κ hcut (by omega) (by omega) f (by omega)) dX12_prune_182 cl_X12_228 rfl rfl rfl rfl (Nat.le_of_ble_eq_true rfl) ⟨(Nat.le_of_ble_eq_true rfl), (Nat.le_of_ble_eq_true rfl), (Nat.le_of_ble_eq_true rfl), (Nat.le_of_ble_eq_true rfl)⟩ ?_
                              refine kw_if_ne (tgt := 191) dX12_prune_185 (by decide) (fun c185 => ?_) (fun c185 => ?_)
                              · skip
                                refine kw_iinc dX12_prune_191 rfl (nI_i c) ?_
                                refine kw_goto (tgt := 127) dX12_prune_194 (by decide) ?_
                                refine kw_lvle (lv' := [some (pr_ (40, 0)), some (pi_ (b2 w)), none, some (pi_ (nI G)), some (pi_ (nI (c + 1))), none, none]) (kw_le_s (kw_le_s (kw_le_n (kw_le_s (kw_le_s (kw_le_n (kw_le_n kw_le_0))))))) ?_
                                refine ih (c + 1) (s_rmv t f) (f + 1) κ (by omega) (by omega) (by rw [ns_, s_rmv_1 t f 7 (by decide)]; exact htn) (by omega) (by omega) ?_ hR1 (by rw [s_rmv_nh]; omega) (MI_rmv hMt f) hEq hκ
                                intro q hq
                                show va_up (kp_ t) f false q = _
                                by_cases z : q = f
                                · rw [z, va_s, decide_eq_true (Nat.lt_succ_self f), hgf]; simp
                                · rw [va_n _ _ z, hkt q hq]
                                  by_cases z2 : q < p
                                  · rw [decide_eq_true z2, decide_eq_true (show q < f + 1 by omega)]
                                  · by_cases z3 : q < f
                                    · rw [hfm q (by omega) z3, Bool.and_false, Bool.and_false]
                                    · rw [decide_eq_false z2, decide_eq_false (show ¬ q < f + 1 by omega)]
                              · skip
                                exact absurd c185 (by decide)
                            · skip
                              exact absurd rfl c146
                          | some b =>
                            obtain ⟨hbn, hkb, hbb⟩ := prevK_some hp
                            have hfp := findF_prev (h := fun q => kp_ t q && g q) hn (fun q e => by show (kp_ t q && g q) = false; rw [e]; rfl) hp
                            refine kw_iload dX12_prune_143 rfl ?_
                            refine kw_iconst (v := (-1)) dX12_prune_145 (by decide) ?_
                            refine kw_icmp_eq (tgt := 179) dX12_prune_146 (by decide) (fun c146 => ?_) (fun c146 => ?_)
                            · skip
                              exact absurd c146 (nI_m1 (by omega))
                            · skip
                              refine kw_aload_n dX12_prune_149 rfl ?_
                              refine kw_get dX12_prune_150 fl_X12_112 rfl rfl ?_
                              refine kw_iload dX12_prune_153 rfl ?_
                              refine kw_zaldN dX12_prune_155 rfl (by omega) (by decide) ?_
                              refine kw_top (v' := pi_ (b2 (g b))) (by rw [hκ b (by omega)]) ?_
                              refine kw_if_eq (tgt := 164) dX12_prune_156 (by decide) (fun c156 => ?_) (fun c156 => ?_)
                              · skip
                                have e156 := b2_0.mp c156
                                refine kw_iload dX12_prune_164 rfl ?_
                                refine kw_istore dX12_prune_166 (Nat.le_of_ble_eq_true rfl) ?_
                                refine kw_aload_n dX12_prune_168 rfl ?_
                                refine kw_iload dX12_prune_169 rfl ?_
                                refine kw_callVf (As := [pi_ (nI b)]) (n_behind l t κ (by omega) b (by omega)) dX12_prune_171 cl_X12_251 rfl rfl rfl rfl (Nat.le_of_ble_eq_true rfl) ⟨(Nat.le_of_ble_eq_true rfl), (Nat.le_of_ble_eq_true rfl), (Nat.le_of_ble_eq_true rfl), (Nat.le_of_ble_eq_true rfl)⟩ ?_
                                refine kw_istore dX12_prune_174 (Nat.le_of_ble_eq_true rfl) ?_
                                refine kw_goto (tgt := 143) dX12_prune_176 (by decide) ?_
                                refine kw_lvle (lv' := [some (pr_ (40, 0)), some (pi_ (b2 w)), none, some (pi_ (nI G)), some (pi_ (nI c)), some (pi_ (findF (fun q => kp_ t q && g q) (ns_ s - b) b)), some (pi_ (encO (prevK (kp_ t) b)))]) (by rw [hfp, if_neg (by show ¬ (kp_ t b && g b) = true; rw [e156, Bool.and_false]; decide)]; exact kw_le_s (kw_le_s (kw_le_n (kw_le_s (kw_le_s (kw_le_s (kw_le_s kw_le_0))))))) ?_
                                exact ih2 b (by omega) (by omega)
                              · skip
                                have e156 := b2_n0.mp c156
                                refine kw_iload dX12_prune_159 rfl ?_
                                refine kw_goto (tgt := 166) dX12_prune_161 (by decide) ?_
                                refine kw_istore dX12_prune_166 (Nat.le_of_ble_eq_true rfl) ?_
                                refine kw_aload_n dX12_prune_168 rfl ?_
                                refine kw_iload dX12_prune_169 rfl ?_
                                refine kw_callVf (As := [pi_ (nI b)]) (n_behind l t κ (by omega) b (by omega)) dX12_prune_171 cl_X12_251 rfl rfl rfl rfl (Nat.le_of_ble_eq_true rfl) ⟨(Nat.le_of_ble_eq_true rfl), (Nat.le_of_ble_eq_true rfl), (Nat.le_of_ble_eq_true rfl), (Nat.le_of_ble_eq_true rfl)⟩ ?_
                                refine kw_istore dX12_prune_174 (Nat.le_of_ble_eq_true rfl) ?_
                                refine kw_goto (tgt := 143) dX12_prune_176 (by decide) ?_
                                refine kw_lvle (lv' := [some (pr_ (40, 0)), some (pi_ (b2 w)), none, some (pi_ (nI G)), some (pi_ (nI c)), some (pi_ (findF (fun q => kp_ t q && g q) (ns_ s - b) b)), some (pi_ (encO (prevK (kp_ t) b)))]) (by rw [hfp, if_pos (by show (kp_ t b && g b) = true; rw [hkb, e156]; rfl)]; exact kw_le_s (kw_le_s (kw_le_n (kw_le_s (kw_le_s (kw_le_s (kw_le_s kw_le_0))))))) ?_
                                exact ih2 b (by omega) (by omega)
                      refine kw_iconst (v := (-1)) dX12_prune_133 (by decide) ?_
                      refine kw_top (v' := pi_ (findF (fun q => kp_ t q && g q) (ns_ s - ns_ s) (ns_ s))) (by rw [Nat.sub_self]; rfl) ?_
                      refine kw_istore dX12_prune_134 (Nat.le_of_ble_eq_true rfl) ?_
                      refine kw_aload_n dX12_prune_136 rfl ?_
                      refine kw_iconst (v := (-1)) dX12_prune_137 (by decide) ?_
                      refine kw_callVf (As := [pi_ (-1)]) (n_behind0 l t κ (by omega)) dX12_prune_138 cl_X12_251 rfl rfl rfl rfl (Nat.le_of_ble_eq_true rfl) ⟨(Nat.le_of_ble_eq_true rfl), (Nat.le_of_ble_eq_true rfl), (Nat.le_of_ble_eq_true rfl), (Nat.le_of_ble_eq_true rfl)⟩ ?_
                      rw [htn]
                      refine kw_istore dX12_prune_141 (Nat.le_of_ble_eq_true rfl) ?_
                      refine kw_lvle (lv' := [some (pr_ (40, 0)), some (pi_ (b2 w)), none, some (pi_ (nI G)), some (pi_ (nI c)), some (pi_ (findF (fun q => kp_ t q && g q) (ns_ s - ns_ s) (ns_ s))), some (pi_ (encO (prevK (kp_ t) (ns_ s))))]) (kw_le_s (kw_le_s (kw_le_n (kw_le_s (kw_le_s (kw_le_s (kw_le_s kw_le_0))))))) ?_
                      exact inner (ns_ s + 1) (ns_ s) (by omega) (Nat.le_refl _)
                refine kw_iconst (v := 0) dX12_prune_124 (by decide) ?_
                refine kw_istore dX12_prune_125 (Nat.le_of_ble_eq_true rfl) ?_
                refine kw_lvle (lv' := [some (pr_ (40, 0)), some (pi_ (b2 w)), none, some (pi_ (nI G)), some (pi_ (nI 0)), none, none]) (kw_le_s (kw_le_s (kw_le_n (kw_le_s (kw_le_s (kw_le_n (kw_le_n kw_le_0))))))) ?_
                have hall := cK_all g (ns_ s)
                exact loop2 (G + 1) 0 s 0 (kB k 1 R) (by omega) (by omega) rfl (by omega) (by omega) (fun q hq => by rw [decide_eq_false (Nat.not_lt_zero q)]; simp) (by rw [Nat.sub_zero, hRES]) (by omega) (kB_MI hMI 1 R) ⟨rfl, rfl⟩ hR
              · skip
                have e118 : w = false := by cases w with | false => rfl | true => exact absurd c118 (by decide)
                rw [if_pos ⟨by omega, by omega, e118⟩] at hK
                refine kw_bipush (v := (-103)) dX12_prune_121 (by decide) ?_
                exact kw_iret dX12_prune_123 rfl (Nat.le_of_ble_eq_true rfl) (Nat.le_of_ble_eq_true rfl) (hK _ _ _ ⟨rfl, rfl, kB k 1 R, ⟨rfl, rfl⟩, kB_MI hMI 1 R, rfl⟩)
        · skip
          have hlt : i < ns_ s := nI_nle' (by omega) (by omega) c23
          refine kw_aload_n dX12_prune_26 rfl ?_
          refine kw_get dX12_prune_27 fl_X12_112 rfl rfl ?_
          refine kw_iload dX12_prune_30 rfl ?_
          refine kw_aload_n dX12_prune_32 rfl ?_
          refine kw_get dX12_prune_33 fl_X12_55 rfl rfl ?_
          refine kw_iload dX12_prune_36 rfl ?_
          refine kw_zaldN dX12_prune_38 rfl (by omega) (by decide) ?_
          refine kw_if_eq (tgt := 55) dX12_prune_39 (by decide) (fun c39 => ?_) (fun c39 => ?_)
          · skip
            have hki := b2_0.mp c39
            have hgi : g i = false := hgk i hki
            refine kw_iconst (v := 0) dX12_prune_55 (by decide) ?_
            refine kw_top (v' := pi_ (b2 (g i))) (by rw [hgi]; rfl) ?_
            refine kw_zastN dX12_prune_56 rfl (by omega) (by decide) ?_
            refine kw_heq (h' := hM s (kB k 1 (va_up R i (g i)))) ((uma_29 s (kB k 1 R) i (g i)).trans (by rw [kB2]; rfl)) ?_
            refine kw_iload_n dX12_prune_57 rfl ?_
            refine kw_aload_n dX12_prune_58 rfl ?_
            refine kw_get dX12_prune_59 fl_X12_112 rfl rfl ?_
            refine kw_iload dX12_prune_62 rfl ?_
            refine kw_zaldN dX12_prune_64 rfl (by omega) (by decide) ?_
            refine kw_top (v' := pi_ (b2 (g i))) (congrArg (fun z => pi_ (b2 z)) (by show va_up R i (g i) i = _; rw [va_s])) ?_
            refine kw_if_eq (tgt := 72) dX12_prune_65 (by decide) (fun c65 => ?_) (fun c65 => ?_)
            · skip
              refine kw_iconst (v := 0) dX12_prune_72 (by decide) ?_
              refine kw_iadd dX12_prune_73 ?_
              refine kw_top (v' := pi_ (nI (cntN g (i + 1)))) (cnt_f hgi) ?_
              refine kw_istore_n dX12_prune_74 (Nat.le_of_ble_eq_true rfl) ?_
              refine kw_iload_n dX12_prune_75 rfl ?_
              refine kw_aload_n dX12_prune_76 rfl ?_
              refine kw_get dX12_prune_77 fl_X12_55 rfl rfl ?_
              refine kw_iload dX12_prune_80 rfl ?_
              refine kw_zaldN dX12_prune_82 rfl (by omega) (by decide) ?_
              refine kw_if_eq (tgt := 100) dX12_prune_83 (by decide) (fun c83 => ?_) (fun c83 => ?_)
              · skip
                refine kw_iconst (v := 0) dX12_prune_100 (by decide) ?_
                refine kw_iadd dX12_prune_101 ?_
                refine kw_top (v' := pi_ (nI (cntN (fun q => kp_ s q && !g q) (i + 1)))) (cnt_f (p := (fun q => kp_ s q && !g q)) (by show (kp_ s i && !g i) = false; rw [hki, hgi]; rfl)) ?_
                refine kw_istore_n dX12_prune_102 (Nat.le_of_ble_eq_true rfl) ?_
                refine kw_iinc dX12_prune_103 rfl (nI_i i) ?_
                refine kw_goto (tgt := 17) dX12_prune_106 (by decide) ?_
                refine ih (i + 1) (va_up R i (g i)) (by omega) (by omega) (fun q hq => ?_)
                by_cases z : q = i
                · rw [z, va_s]
                · rw [va_n _ _ z]; exact hR q (by omega)
              · skip
                exact absurd (by rw [hki]; rfl) c83
            · skip
              exact absurd (by rw [hgi]; rfl) c65
          · skip
            have hki := b2_n0.mp c39
            refine kw_aload_n dX12_prune_42 rfl ?_
            refine kw_iload dX12_prune_43 rfl ?_
            refine kw_callVf (As := [pi_ (nI i)]) (n_kept l s (kB k 1 R) hns htm hru i hlt hki) dX12_prune_45 cl_X12_261 rfl rfl rfl rfl (Nat.le_of_ble_eq_true rfl) ⟨(Nat.le_of_ble_eq_true rfl), (Nat.le_of_ble_eq_true rfl), (Nat.le_of_ble_eq_true rfl), (Nat.le_of_ble_eq_true rfl)⟩ ?_
            refine kw_if_ne (tgt := 55) dX12_prune_48 (by decide) (fun c48 => ?_) (fun c48 => ?_)
            · skip
              have hgi : g i = false := by rw [hg]; unfold unkB; rw [hki, decide_eq_false c48]; rfl
              refine kw_iconst (v := 0) dX12_prune_55 (by decide) ?_
              refine kw_top (v' := pi_ (b2 (g i))) (by rw [hgi]; rfl) ?_
              refine kw_zastN dX12_prune_56 rfl (by omega) (by decide) ?_
              refine kw_heq (h' := hM s (kB k 1 (va_up R i (g i)))) ((uma_29 s (kB k 1 R) i (g i)).trans (by rw [kB2]; rfl)) ?_
              refine kw_iload_n dX12_prune_57 rfl ?_
              refine kw_aload_n dX12_prune_58 rfl ?_
              refine kw_get dX12_prune_59 fl_X12_112 rfl rfl ?_
              refine kw_iload dX12_prune_62 rfl ?_
              refine kw_zaldN dX12_prune_64 rfl (by omega) (by decide) ?_
              refine kw_top (v' := pi_ (b2 (g i))) (congrArg (fun z => pi_ (b2 z)) (by show va_up R i (g i) i = _; rw [va_s])) ?_
              refine kw_if_eq (tgt := 72) dX12_prune_65 (by decide) (fun c65 => ?_) (fun c65 => ?_)
              · skip
                refine kw_iconst (v := 0) dX12_prune_72 (by decide) ?_
                refine kw_iadd dX12_prune_73 ?_
                refine kw_top (v' := pi_ (nI (cntN g (i + 1)))) (cnt_f hgi) ?_
                refine kw_istore_n dX12_prune_74 (Nat.le_of_ble_eq_true rfl) ?_
                refine kw_iload_n dX12_prune_75 rfl ?_
                refine kw_aload_n dX12_prune_76 rfl ?_
                refine kw_get dX12_prune_77 fl_X12_55 rfl rfl ?_
                refine kw_iload dX12_prune_80 rfl ?_
                refine kw_zaldN dX12_prune_82 rfl (by omega) (by decide) ?_
                refine kw_if_eq (tgt := 100) dX12_prune_83 (by decide) (fun c83 => ?_) (fun c83 => ?_)
                · skip
                  exact absurd c83 (by rw [hki]; decide)
                · skip
                  refine kw_aload_n dX12_prune_86 rfl ?_
                  refine kw_get dX12_prune_87 fl_X12_112 rfl rfl ?_
                  refine kw_iload dX12_prune_90 rfl ?_
                  refine kw_zaldN dX12_prune_92 rfl (by omega) (by decide) ?_
                  refine kw_top (v' := pi_ (b2 (g i))) (congrArg (fun z => pi_ (b2 z)) (by show va_up R i (g i) i = _; rw [va_s])) ?_
                  refine kw_if_ne (tgt := 100) dX12_prune_93 (by decide) (fun c93 => ?_) (fun c93 => ?_)
                  · skip
                    exact absurd (by rw [hgi]; rfl) c93
                  · skip
                    refine kw_iconst (v := 1) dX12_prune_96 (by decide) ?_
                    refine kw_goto (tgt := 101) dX12_prune_97 (by decide) ?_
                    refine kw_iadd dX12_prune_101 ?_
                    refine kw_top (v' := pi_ (nI (cntN (fun q => kp_ s q && !g q) (i + 1)))) (cnt_t (p := (fun q => kp_ s q && !g q)) (by show (kp_ s i && !g i) = true; rw [hki, hgi]; rfl)) ?_
                    refine kw_istore_n dX12_prune_102 (Nat.le_of_ble_eq_true rfl) ?_
                    refine kw_iinc dX12_prune_103 rfl (nI_i i) ?_
                    refine kw_goto (tgt := 17) dX12_prune_106 (by decide) ?_
                    refine ih (i + 1) (va_up R i (g i)) (by omega) (by omega) (fun q hq => ?_)
                    by_cases z : q = i
                    · rw [z, va_s]
                    · rw [va_n _ _ z]; exact hR q (by omega)
              · skip
                exact absurd (by rw [hgi]; rfl) c65
            · skip
              have hgi : g i = true := by rw [hg]; unfold unkB; rw [hki, decide_eq_true c48]; rfl
              refine kw_iconst (v := 1) dX12_prune_51 (by decide) ?_
              refine kw_top (v' := pi_ (b2 (g i))) (by rw [hgi]; rfl) ?_
              refine kw_goto (tgt := 56) dX12_prune_52 (by decide) ?_
              refine kw_zastN dX12_prune_56 rfl (by omega) (by decide) ?_
              refine kw_heq (h' := hM s (kB k 1 (va_up R i (g i)))) ((uma_29 s (kB k 1 R) i (g i)).trans (by rw [kB2]; rfl)) ?_
              refine kw_iload_n dX12_prune_57 rfl ?_
              refine kw_aload_n dX12_prune_58 rfl ?_
              refine kw_get dX12_prune_59 fl_X12_112 rfl rfl ?_
              refine kw_iload dX12_prune_62 rfl ?_
              refine kw_zaldN dX12_prune_64 rfl (by omega) (by decide) ?_
              refine kw_top (v' := pi_ (b2 (g i))) (congrArg (fun z => pi_ (b2 z)) (by show va_up R i (g i) i = _; rw [va_s])) ?_
              refine kw_if_eq (tgt := 72) dX12_prune_65 (by decide) (fun c65 => ?_) (fun c65 => ?_)
              · skip
                exact absurd c65 (by rw [hgi]; decide)
              · skip
                refine kw_iconst (v := 1) dX12_prune_68 (by decide) ?_
                refine kw_goto (tgt := 73) dX12_prune_69 (by decide) ?_
                refine kw_iadd dX12_prune_73 ?_
                refine kw_top (v' := pi_ (nI (cntN g (i + 1)))) (cnt_t hgi) ?_
                refine kw_istore_n dX12_prune_74 (Nat.le_of_ble_eq_true rfl) ?_
                refine kw_iload_n dX12_prune_75 rfl ?_
                refine kw_aload_n dX12_prune_76 rfl ?_
                refine kw_get dX12_prune_77 fl_X12_55 rfl rfl ?_
                refine kw_iload dX12_prune_80 rfl ?_
                refine kw_zaldN dX12_prune_82 rfl (by omega) (by decide) ?_
                refine kw_if_eq (tgt := 100) dX12_prune_83 (by decide) (fun c83 => ?_) (fun c83 => ?_)
                · skip
                  exact absurd c83 (by rw [hki]; decide)
                · skip
                  refine kw_aload_n dX12_prune_86 rfl ?_
                  refine kw_get dX12_prune_87 fl_X12_112 rfl rfl ?_
                  refine kw_iload dX12_prune_90 rfl ?_
                  refine kw_zaldN dX12_prune_92 rfl (by omega) (by decide) ?_
                  refine kw_top (v' := pi_ (b2 (g i))) (congrArg (fun z => pi_ (b2 z)) (by show va_up R i (g i) i = _; rw [va_s])) ?_
                  refine kw_if_ne (tgt := 100) dX12_prune_93 (by decide) (fun c93 => ?_) (fun c93 => ?_)
                  · skip
                    refine kw_iconst (v := 0) dX12_prune_100 (by decide) ?_
                    refine kw_iadd dX12_prune_101 ?_
                    refine kw_top (v' := pi_ (nI (cntN (fun q => kp_ s q && !g q) (i + 1)))) (cnt_f (p := (fun q => kp_ s q && !g q)) (by show (kp_ s i && !g i) = false; rw [hki, hgi]; rfl)) ?_
                    refine kw_istore_n dX12_prune_102 (Nat.le_of_ble_eq_true rfl) ?_
                    refine kw_iinc dX12_prune_103 rfl (nI_i i) ?_
                    refine kw_goto (tgt := 17) dX12_prune_106 (by decide) ?_
                    refine ih (i + 1) (va_up R i (g i)) (by omega) (by omega) (fun q hq => ?_)
                    by_cases z : q = i
                    · rw [z, va_s]
                    · rw [va_n _ _ z]; exact hR q (by omega)
                  · skip
                    exact absurd c93 (by rw [hgi]; decide)
    refine kw_iconst (v := 0) dX12_prune_10 (by decide) ?_
    refine kw_top (v' := pi_ (nI (cntN (fun q => kp_ s q && !g q) 0))) rfl ?_
    refine kw_istore_n dX12_prune_11 (Nat.le_of_ble_eq_true rfl) ?_
    refine kw_iconst (v := 0) dX12_prune_12 (by decide) ?_
    refine kw_top (v' := pi_ (nI (cntN g 0))) rfl ?_
    refine kw_istore_n dX12_prune_13 (Nat.le_of_ble_eq_true rfl) ?_
    refine kw_iconst (v := 0) dX12_prune_14 (by decide) ?_
    refine kw_istore dX12_prune_15 (Nat.le_of_ble_eq_true rfl) ?_
    refine kw_heq (h' := hM s (kB k 1 (kb_ k 1))) (by rw [kB_id]) ?_
    exact loop1 (ns_ s + 1) 0 _ (by omega) (by omega) (fun q hq => absurd hq (Nat.not_lt_zero _))
  · skip
    have hd := b2_n0.mp c4
    refine kw_bipush (v := (-106)) dX12_prune_7 (by decide) ?_
    exact kw_iret dX12_prune_9 rfl (Nat.le_of_ble_eq_true rfl) (Nat.le_of_ble_eq_true rfl) (hK _ _ _ ⟨rfl, by rw [a_prune, if_pos hd], by rw [a_prune, if_pos hd]; exact ⟨k, mEq.rf k, hMI, rfl⟩⟩)
