/-! SAVER -/
def dead_ (s : SG) (i : Nat) : Bool := decide (un_ s i < now_ s)
def usesB (s : SG) (i : Nat) (b : Int32) : Bool := anyN (fun j => decide (nI (us_ s i j) = b)) (um_ s i)
def s_renew (s : SG) (i : Nat) (t : Int64) : SG := sY s 2 (va_up (un_ s) i (t + (nI (le_ s i)).toInt64))
def s_arr0 (s : SG) (i j : Nat) : SG := sF (sF (sF (sGb s 4 (va_up (sv_ s) i true)) 14 (va_up (um_ s) i 0)) 16 (va_up (km_ s) i 0)) 13 (va_up (le_ s) i j)
def s_arr (s : SG) (i j : Nat) (t : Int64) : SG := s_renew (s_arr0 s i j) i t
def s_push (s : SG) (i b : Nat) : SG := sF (sFF s 2 (va_up (us_ s) i (va_up (us_ s i) (um_ s i) b))) 14 (va_up (um_ s) i (um_ s i + 1))
def s_use (s : SG) (i b : Nat) : SG := if um_ s i < 8 ∧ usesB s i (nI b) = false then s_push s i b else s
def s_kid (s : SG) (i b : Nat) : SG := sF (sFF s 3 (va_up (ks_ s) i (va_up (ks_ s i) (km_ s i) b))) 16 (va_up (km_ s) i (km_ s i + 1))

set_option maxHeartbeats 4000000 in
set_option maxRecDepth 100000 in
theorem v_renew (l : Launch) (s : SG) (k : KG) (i : Nat) (hi : i < 4) (t : Int64) : kw_F l yX7_renew cX7_renew 3 (Option.none : Option Jvm.ClassFile.FieldType) { frames := 0, cells := 0, slots := 0, locals := 0 } [pr_ (12, i), pl_ t] (hC s k) none (hC (s_renew s i t) k) := by
  refine kw_M_of RX7 "renew" [some (pr_ (12, i)), some (pl_ t), none] (by decide) rfl rfl rfl (Nat.le_of_ble_eq_true rfl) ?_
  intro D ad A
  refine kw_Kgen (fun K hK => ?_)
  refine kw_aload_n dX7_renew_0 rfl ?_
  refine kw_lload_n dX7_renew_1 rfl ?_
  refine kw_aload_n dX7_renew_2 rfl ?_
  refine kw_get dX7_renew_3 fl_X7_29 (hC_sa hi) rfl ?_
  refine kw_i2l dX7_renew_6 ?_
  refine kw_ladd dX7_renew_7 ?_
  refine kw_put dX7_renew_8 fl_X7_36 (hC_sa hi) (kw_ok_l _) (Nat.le_of_ble_eq_true rfl) ?_
  refine kw_heq (up_sun s k i hi _) ?_
  exact kw_vret dX7_renew_11 rfl (Nat.le_of_ble_eq_true rfl) (Nat.le_of_ble_eq_true rfl) (hK _ _ _ ⟨rfl, rfl, rfl⟩)
set_option maxHeartbeats 4000000 in
set_option maxRecDepth 100000 in
theorem v_arrive (l : Launch) (s : SG) (k : KG) (i : Nat) (hi : i < 4) (j : Nat) (t : Int64) : kw_F l yX7_arrive cX7_arrive 4 (Option.none : Option Jvm.ClassFile.FieldType) { frames := 1, cells := 0, slots := 0, locals := 22 } [pr_ (12, i), pi_ (nI j), pl_ t] (hC s k) none (hC (s_arr s i j t) k) := by
  refine kw_M_of RX7 "arrive" [some (pr_ (12, i)), some (pi_ (nI j)), some (pl_ t), none] (by decide) rfl rfl rfl (Nat.le_of_ble_eq_true rfl) ?_
  intro D ad A
  refine kw_Kgen (fun K hK => ?_)
  refine kw_aload_n dX7_arrive_0 rfl ?_
  refine kw_iconst (v := 1) dX7_arrive_1 (by decide) ?_
  refine kw_put dX7_arrive_2 fl_X7_18 (hC_sa hi) (kw_ok_z (Or.inr rfl)) (Nat.le_of_ble_eq_true rfl) ?_
  refine kw_heq (up_ssv s k i hi true) ?_
  refine kw_aload_n dX7_arrive_5 rfl ?_
  refine kw_iconst (v := 0) dX7_arrive_6 (by decide) ?_
  refine kw_put dX7_arrive_7 fl_X7_22 (hC_sa hi) (kw_ok_i _) (Nat.le_of_ble_eq_true rfl) ?_
  refine kw_heq (up_sum _ k i hi 0) ?_
  refine kw_aload_n dX7_arrive_10 rfl ?_
  refine kw_iconst (v := 0) dX7_arrive_11 (by decide) ?_
  refine kw_put dX7_arrive_12 fl_X7_26 (hC_sa hi) (kw_ok_i _) (Nat.le_of_ble_eq_true rfl) ?_
  refine kw_heq (up_skm _ k i hi 0) ?_
  refine kw_aload_n dX7_arrive_15 rfl ?_
  refine kw_iload_n dX7_arrive_16 rfl ?_
  refine kw_put dX7_arrive_17 fl_X7_29 (hC_sa hi) (kw_ok_i _) (Nat.le_of_ble_eq_true rfl) ?_
  refine kw_heq (up_sle _ k i hi j) ?_
  refine kw_aload_n dX7_arrive_20 rfl ?_
  refine kw_lload_n dX7_arrive_21 rfl ?_
  refine kw_callVf (As := [pl_ t]) (v_renew l (s_arr0 s i j) k i hi t) dX7_arrive_22 cl_X7_32 (hC_sa hi) rfl rfl rfl (Nat.le_of_ble_eq_true rfl) ⟨(Nat.le_of_ble_eq_true rfl), (Nat.le_of_ble_eq_true rfl), (Nat.le_of_ble_eq_true rfl), (Nat.le_of_ble_eq_true rfl)⟩ ?_
  exact kw_vret dX7_arrive_25 rfl (Nat.le_of_ble_eq_true rfl) (Nat.le_of_ble_eq_true rfl) (hK _ _ _ ⟨rfl, rfl, rfl⟩)
set_option maxHeartbeats 4000000 in
set_option maxRecDepth 100000 in
theorem v_isDead (l : Launch) (s : SG) (k : KG) (i : Nat) (hi : i < 4) : kw_F l yX7_isDead cX7_isDead 3 (Option.some Jvm.ClassFile.FieldType.boolean) { frames := 0, cells := 0, slots := 0, locals := 0 } [pr_ (12, i), pl_ (now_ s)] (hC s k) (some (pi_ (b2 (dead_ s i)))) (hC s k) := by
  refine kw_M_of RX7 "isDead" [some (pr_ (12, i)), some (pl_ (now_ s)), none] (by decide) rfl rfl rfl (Nat.le_of_ble_eq_true rfl) ?_
  intro D ad A
  refine kw_Kgen (fun K hK => ?_)
  refine kw_lload_n dX7_isDead_0 rfl ?_
  refine kw_aload_n dX7_isDead_1 rfl ?_
  refine kw_get dX7_isDead_2 fl_X7_36 (hC_sa hi) rfl ?_
  refine kw_lcmp dX7_isDead_5 ?_
  refine kw_if_le (tgt := 13) dX7_isDead_6 (by decide) (fun c6 => ?_) (fun c6 => ?_)
  · skip
    refine kw_iconst (v := 0) dX7_isDead_13 (by decide) ?_
    exact kw_zret dX7_isDead_14 rfl (by decide) (Nat.le_of_ble_eq_true rfl) (Nat.le_of_ble_eq_true rfl) (hK _ _ _ ⟨rfl, by rw [dead_, decide_eq_false (Int64.not_lt.mpr ((lg_cmp_le _ _).mp c6))]; rfl, rfl⟩)
  · skip
    refine kw_iconst (v := 1) dX7_isDead_9 (by decide) ?_
    refine kw_goto (tgt := 14) dX7_isDead_10 (by decide) ?_
    exact kw_zret dX7_isDead_14 rfl (by decide) (Nat.le_of_ble_eq_true rfl) (Nat.le_of_ble_eq_true rfl) (hK _ _ _ ⟨rfl, by rw [dead_, decide_eq_true (Int64.not_le.mp (fun q => c6 ((lg_cmp_le _ _).mpr q)))]; rfl, rfl⟩)
set_option maxHeartbeats 4000000 in
set_option maxRecDepth 100000 in
theorem v_uses (l : Launch) (s : SG) (k : KG) (i : Nat) (hi : i < 4) (hu : um_ s i ≤ 8) (b : Int32) : kw_F l yX7_uses cX7_uses 3 (Option.some Jvm.ClassFile.FieldType.boolean) { frames := 0, cells := 0, slots := 0, locals := 0 } [pr_ (12, i), pi_ b] (hC s k) (some (pi_ (b2 (usesB s i b)))) (hC s k) := by
  refine kw_M_of RX7 "uses" [some (pr_ (12, i)), some (pi_ b), none] (by decide) rfl rfl rfl (Nat.le_of_ble_eq_true rfl) ?_
  intro D ad A
  refine kw_Kgen (fun K hK => ?_)
  have loop : ∀ (n_ : Nat) (j : Nat), um_ s i - j < n_ → j ≤ um_ s i → (∀ a, a < j → decide (nI (us_ s i a) = b) = false) → kw_G l D cX7_uses RX7 (Option.some Jvm.ClassFile.FieldType.boolean) "uses" { frames := 0, cells := 0, slots := 0, locals := 0 } A K ad (hC s k) 0 0 2 [some (pr_ (12, i)), some (pi_ b), some (pi_ (nI j))] [] := by
    intro n_
    induction n_ with
    | zero =>
      intro j hm_
      exact absurd hm_ (Nat.not_lt_zero _)
    | succ n_ ih =>
      intro j hm_ hj hno
      refine kw_iload_n dX7_uses_2 rfl ?_
      refine kw_aload_n dX7_uses_3 rfl ?_
      refine kw_get dX7_uses_4 fl_X7_22 (hC_sa hi) rfl ?_
      refine kw_icmp_ge (tgt := 28) dX7_uses_7 (by decide) (fun c7 => ?_) (fun c7 => ?_)
      · skip
        have e : j = um_ s i := Nat.le_antisymm hj (nI_le' (by omega) (by omega) c7)
        refine kw_iconst (v := 0) dX7_uses_28 (by decide) ?_
        exact kw_zret dX7_uses_29 rfl (by decide) (Nat.le_of_ble_eq_true rfl) (Nat.le_of_ble_eq_true rfl) (hK _ _ _ ⟨rfl, by rw [usesB, anyN_f (fun a ha => hno a (by omega))]; rfl, rfl⟩)
      · skip
        have hlt : j < um_ s i := nI_nle' (by omega) (by omega) c7
        refine kw_aload_n dX7_uses_10 rfl ?_
        refine kw_get dX7_uses_11 fl_X7_9 (hC_sa hi) rfl ?_
        refine kw_iload_n dX7_uses_14 rfl ?_
        refine kw_ialdN dX7_uses_15 (hC_us hi) (by omega) (by decide) ?_
        refine kw_iload_n dX7_uses_16 rfl ?_
        refine kw_icmp_ne (tgt := 22) dX7_uses_17 (by decide) (fun c17 => ?_) (fun c17 => ?_)
        · skip
          refine kw_iinc dX7_uses_22 rfl (nI_i j) ?_
          refine kw_goto (tgt := 2) dX7_uses_25 (by decide) ?_
          exact ih (j + 1) (by omega) (by omega) (lt_s hno (decide_eq_false c17))
        · skip
          refine kw_iconst (v := 1) dX7_uses_20 (by decide) ?_
          exact kw_zret dX7_uses_21 rfl (by decide) (Nat.le_of_ble_eq_true rfl) (Nat.le_of_ble_eq_true rfl) (hK _ _ _ ⟨rfl, by rw [usesB, anyN_t hlt (decide_eq_true c17)]; rfl, rfl⟩)
  refine kw_iconst (v := 0) dX7_uses_0 (by decide) ?_
  refine kw_istore_n dX7_uses_1 (Nat.le_of_ble_eq_true rfl) ?_
  exact loop (um_ s i + 1) 0 (by omega) (by omega) lt_0
set_option maxHeartbeats 4000000 in
set_option maxRecDepth 100000 in
theorem v_canUse (l : Launch) (s : SG) (k : KG) (i : Nat) (hi : i < 4) (hu : um_ s i ≤ 8) (b : Int32) : kw_F l yX7_canUse cX7_canUse 2 (Option.some Jvm.ClassFile.FieldType.boolean) { frames := 1, cells := 0, slots := 0, locals := 22 } [pr_ (12, i), pi_ b] (hC s k) (some (pi_ (b2 (decide (um_ s i < 8) || usesB s i b)))) (hC s k) := by
  refine kw_M_of RX7 "canUse" [some (pr_ (12, i)), some (pi_ b)] (by decide) rfl rfl rfl (Nat.le_of_ble_eq_true rfl) ?_
  intro D ad A
  refine kw_Kgen (fun K hK => ?_)
  refine kw_aload_n dX7_canUse_0 rfl ?_
  refine kw_get dX7_canUse_1 fl_X7_22 (hC_sa hi) rfl ?_
  refine kw_bipush (v := 8) dX7_canUse_4 (by decide) ?_
  refine kw_icmp_lt (tgt := 17) dX7_canUse_6 (by decide) (fun c6 => ?_) (fun c6 => ?_)
  · skip
    refine kw_iconst (v := 1) dX7_canUse_17 (by decide) ?_
    refine kw_goto (tgt := 22) dX7_canUse_18 (by decide) ?_
    exact kw_zret dX7_canUse_22 rfl (by decide) (Nat.le_of_ble_eq_true rfl) (Nat.le_of_ble_eq_true rfl) (hK _ _ _ ⟨rfl, by rw [decide_eq_true (nI_lt' (by omega) (by decide) c6)]; rfl, rfl⟩)
  · skip
    have e8 : ¬ um_ s i < 8 := Nat.not_lt.mpr (nI_nlt' (b := 8) (by omega) (by decide) c6)
    refine kw_aload_n dX7_canUse_9 rfl ?_
    refine kw_iload_n dX7_canUse_10 rfl ?_
    refine kw_callVf (As := [pi_ b]) (v_uses l s k i hi hu b) dX7_canUse_11 cl_X7_40 (hC_sa hi) rfl rfl rfl (Nat.le_of_ble_eq_true rfl) ⟨(Nat.le_of_ble_eq_true rfl), (Nat.le_of_ble_eq_true rfl), (Nat.le_of_ble_eq_true rfl), (Nat.le_of_ble_eq_true rfl)⟩ ?_
    refine kw_if_eq (tgt := 21) dX7_canUse_14 (by decide) (fun c14 => ?_) (fun c14 => ?_)
    · skip
      refine kw_iconst (v := 0) dX7_canUse_21 (by decide) ?_
      exact kw_zret dX7_canUse_22 rfl (by decide) (Nat.le_of_ble_eq_true rfl) (Nat.le_of_ble_eq_true rfl) (hK _ _ _ ⟨rfl, by rw [decide_eq_false e8, b2_0.mp c14]; rfl, rfl⟩)
    · skip
      refine kw_iconst (v := 1) dX7_canUse_17 (by decide) ?_
      refine kw_goto (tgt := 22) dX7_canUse_18 (by decide) ?_
      exact kw_zret dX7_canUse_22 rfl (by decide) (Nat.le_of_ble_eq_true rfl) (Nat.le_of_ble_eq_true rfl) (hK _ _ _ ⟨rfl, by rw [b2_n0.mp c14, Bool.or_true]; rfl, rfl⟩)
set_option maxHeartbeats 4000000 in
set_option maxRecDepth 100000 in
theorem v_use (l : Launch) (s : SG) (k : KG) (i : Nat) (hi : i < 4) (hu : um_ s i ≤ 8) (b : Nat) : kw_F l yX7_use cX7_use 2 (Option.none : Option Jvm.ClassFile.FieldType) { frames := 1, cells := 0, slots := 0, locals := 22 } [pr_ (12, i), pi_ (nI b)] (hC s k) none (hC (s_use s i b) k) := by
  refine kw_M_of RX7 "use" [some (pr_ (12, i)), some (pi_ (nI b))] (by decide) rfl rfl rfl (Nat.le_of_ble_eq_true rfl) ?_
  intro D ad A
  refine kw_Kgen (fun K hK => ?_)
  refine kw_aload_n dX7_use_0 rfl ?_
  refine kw_get dX7_use_1 fl_X7_22 (hC_sa hi) rfl ?_
  refine kw_bipush (v := 8) dX7_use_4 (by decide) ?_
  refine kw_icmp_ge (tgt := 37) dX7_use_6 (by decide) (fun c6 => ?_) (fun c6 => ?_)
  · skip
    exact kw_vret dX7_use_37 rfl (Nat.le_of_ble_eq_true rfl) (Nat.le_of_ble_eq_true rfl) (hK _ _ _ ⟨rfl, rfl, by rw [s_use, if_neg (fun q => absurd q.1 (Nat.not_lt.mpr (nI_le' (a := 8) (by decide) (by omega) c6)))]⟩)
  · skip
    have h8 : um_ s i < 8 := nI_nle' (a := 8) (by decide) (by omega) c6
    refine kw_aload_n dX7_use_9 rfl ?_
    refine kw_iload_n dX7_use_10 rfl ?_
    refine kw_callVf (As := [pi_ (nI b)]) (v_uses l s k i hi hu _) dX7_use_11 cl_X7_40 (hC_sa hi) rfl rfl rfl (Nat.le_of_ble_eq_true rfl) ⟨(Nat.le_of_ble_eq_true rfl), (Nat.le_of_ble_eq_true rfl), (Nat.le_of_ble_eq_true rfl), (Nat.le_of_ble_eq_true rfl)⟩ ?_
    refine kw_if_ne (tgt := 37) dX7_use_14 (by decide) (fun c14 => ?_) (fun c14 => ?_)
    · skip
      exact kw_vret dX7_use_37 rfl (Nat.le_of_ble_eq_true rfl) (Nat.le_of_ble_eq_true rfl) (hK _ _ _ ⟨rfl, rfl, by rw [s_use, if_neg (fun q => absurd q.2 (by rw [b2_n0.mp c14]; decide))]⟩)
    · skip
      refine kw_aload_n dX7_use_17 rfl ?_
      refine kw_get dX7_use_18 fl_X7_9 (hC_sa hi) rfl ?_
      refine kw_aload_n dX7_use_21 rfl ?_
      refine kw_get dX7_use_22 fl_X7_22 (hC_sa hi) rfl ?_
      refine kw_iload_n dX7_use_25 rfl ?_
      refine kw_iastN dX7_use_26 (hC_us hi) h8 (by decide) ?_
      refine kw_heq (up_ruse s k i hi _ _) ?_
      refine kw_aload_n dX7_use_27 rfl ?_
      refine kw_dup dX7_use_28 rfl ?_
      refine kw_get dX7_use_29 fl_X7_22 (hC_sa hi) rfl ?_
      refine kw_iconst (v := 1) dX7_use_32 (by decide) ?_
      refine kw_iadd dX7_use_33 ?_
      refine kw_top (v' := pi_ (nI (um_ s i + 1))) (by rw [← nI_1]) ?_
      refine kw_put dX7_use_34 fl_X7_22 (hC_sa hi) (kw_ok_i _) (Nat.le_of_ble_eq_true rfl) ?_
      refine kw_heq (up_sum _ k i hi _) ?_
      exact kw_vret dX7_use_37 rfl (Nat.le_of_ble_eq_true rfl) (Nat.le_of_ble_eq_true rfl) (hK _ _ _ ⟨rfl, rfl, by rw [s_use, if_pos ⟨h8, b2_0.mp c14⟩]; rfl⟩)
set_option maxHeartbeats 4000000 in
set_option maxRecDepth 100000 in
theorem v_kid1 (l : Launch) (s : SG) (k : KG) (i : Nat) (hi : i < 4) (hm : km_ s i < 4) (b : Nat) : kw_F l yX7_addChild cX7_addChild 2 (Option.some Jvm.ClassFile.FieldType.boolean) { frames := 0, cells := 0, slots := 0, locals := 0 } [pr_ (12, i), pi_ (nI b)] (hC s k) (some (pi_ 1)) (hC (s_kid s i b) k) := by
  refine kw_M_of RX7 "addChild" [some (pr_ (12, i)), some (pi_ (nI b))] (by decide) rfl rfl rfl (Nat.le_of_ble_eq_true rfl) ?_
  intro D ad A
  refine kw_Kgen (fun K hK => ?_)
  refine kw_aload_n dX7_addChild_0 rfl ?_
  refine kw_get dX7_addChild_1 fl_X7_26 (hC_sa hi) rfl ?_
  refine kw_iconst (v := 4) dX7_addChild_4 (by decide) ?_
  refine kw_icmp_lt (tgt := 10) dX7_addChild_5 (by decide) (fun c5 => ?_) (fun c5 => ?_)
  · skip
    refine kw_aload_n dX7_addChild_10 rfl ?_
    refine kw_get dX7_addChild_11 fl_X7_15 (hC_sa hi) rfl ?_
    refine kw_aload_n dX7_addChild_14 rfl ?_
    refine kw_get dX7_addChild_15 fl_X7_26 (hC_sa hi) rfl ?_
    refine kw_iload_n dX7_addChild_18 rfl ?_
    refine kw_iastN dX7_addChild_19 (hC_kd hi) hm (by decide) ?_
    refine kw_heq (up_rchi s k i hi _ _) ?_
    refine kw_aload_n dX7_addChild_20 rfl ?_
    refine kw_dup dX7_addChild_21 rfl ?_
    refine kw_get dX7_addChild_22 fl_X7_26 (hC_sa hi) rfl ?_
    refine kw_iconst (v := 1) dX7_addChild_25 (by decide) ?_
    refine kw_iadd dX7_addChild_26 ?_
    refine kw_top (v' := pi_ (nI (km_ s i + 1))) (by rw [← nI_1]) ?_
    refine kw_put dX7_addChild_27 fl_X7_26 (hC_sa hi) (kw_ok_i _) (Nat.le_of_ble_eq_true rfl) ?_
    refine kw_heq (up_skm _ k i hi _) ?_
    refine kw_iconst (v := 1) dX7_addChild_30 (by decide) ?_
    exact kw_zret dX7_addChild_31 rfl (by decide) (Nat.le_of_ble_eq_true rfl) (Nat.le_of_ble_eq_true rfl) (hK _ _ _ ⟨rfl, rfl, rfl⟩)
  · skip
    exact absurd (nI_lt (b := 4) hm (by decide)) c5
set_option maxHeartbeats 4000000 in
set_option maxRecDepth 100000 in
theorem v_kid0 (l : Launch) (s : SG) (k : KG) (i : Nat) (hi : i < 4) (hm : km_ s i = 4) (b : Int32) : kw_F l yX7_addChild cX7_addChild 2 (Option.some Jvm.ClassFile.FieldType.boolean) { frames := 0, cells := 0, slots := 0, locals := 0 } [pr_ (12, i), pi_ b] (hC s k) (some (pi_ 0)) (hC s k) := by
  refine kw_M_of RX7 "addChild" [some (pr_ (12, i)), some (pi_ b)] (by decide) rfl rfl rfl (Nat.le_of_ble_eq_true rfl) ?_
  intro D ad A
  refine kw_Kgen (fun K hK => ?_)
  refine kw_aload_n dX7_addChild_0 rfl ?_
  refine kw_get dX7_addChild_1 fl_X7_26 (hC_sa hi) rfl ?_
  refine kw_iconst (v := 4) dX7_addChild_4 (by decide) ?_
  refine kw_icmp_lt (tgt := 10) dX7_addChild_5 (by decide) (fun c5 => ?_) (fun c5 => ?_)
  · skip
    exact absurd c5 (by rw [hm]; decide)
  · skip
    refine kw_iconst (v := 0) dX7_addChild_8 (by decide) ?_
    exact kw_zret dX7_addChild_9 rfl (by decide) (Nat.le_of_ble_eq_true rfl) (Nat.le_of_ble_eq_true rfl) (hK _ _ _ ⟨rfl, rfl, rfl⟩)
