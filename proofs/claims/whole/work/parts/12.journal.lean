/-! JOURNAL -/
/-- a write that is done; power goes; a row of the history -/
def s_w1 (s : SG) : SG := if cut_ s ≤ 0 then sX s 1 (wr_ s + 1) else sX (sX s 0 (cut_ s - 1)) 1 (wr_ s + 1)
def s_w0 (s : SG) : SG := sDn (sX s 0 (-1)) true
def s_ev (s : SG) (e n : Nat) : SG := sN (sF (sF s 10 (va_up (hk_ s) (nh_ s) e)) 11 (va_up (hw_ s) (nh_ s) n)) 8 (nh_ s + 1)
theorem s_w1_1 (s : SG) : (s_w1 s).1 = s.1 := by unfold s_w1; split <;> rfl
theorem s_w1_2 (s : SG) : (s_w1 s).2.2 = s.2.2 := by unfold s_w1; split <;> rfl
set_option maxHeartbeats 4000000 in
set_option maxRecDepth 100000 in
theorem j_write0 (l : Launch) (s : SG) (k : KG) (hc : cut_ s = 0) : kw_F l yX2_write cX2_write 1 (Option.some Jvm.ClassFile.FieldType.boolean) { frames := 0, cells := 0, slots := 0, locals := 0 } [pr_ (1, 0)] (hC s k) (some (pi_ 0)) (hC (s_w0 s) k) := by
  refine kw_M_of RX2 "write" [some (pr_ (1, 0))] (by decide) rfl rfl rfl (Nat.le_of_ble_eq_true rfl) ?_
  intro D ad A
  refine kw_Kgen (fun K hK => ?_)
  refine kw_aload_n dX2_write_0 rfl ?_
  refine kw_get dX2_write_1 fl_X2_18 rfl rfl ?_
  refine kw_if_ne (tgt := 19) dX2_write_4 (by decide) (fun c4 => ?_) (fun c4 => ?_)
  · skip
    exact absurd hc c4
  · skip
    refine kw_aload_n dX2_write_7 rfl ?_
    refine kw_iconst (v := (-1)) dX2_write_8 (by decide) ?_
    refine kw_put dX2_write_9 fl_X2_18 rfl (kw_ok_i _) (Nat.le_of_ble_eq_true rfl) ?_
    refine kw_heq (up_jcut s k _) ?_
    refine kw_aload_n dX2_write_12 rfl ?_
    refine kw_iconst (v := 1) dX2_write_13 (by decide) ?_
    refine kw_put dX2_write_14 fl_X2_22 rfl (kw_ok_z (Or.inr rfl)) (Nat.le_of_ble_eq_true rfl) ?_
    refine kw_heq (up_jdn _ k true) ?_
    refine kw_iconst (v := 0) dX2_write_17 (by decide) ?_
    exact kw_zret dX2_write_18 rfl (by decide) (Nat.le_of_ble_eq_true rfl) (Nat.le_of_ble_eq_true rfl) (hK _ _ _ ⟨rfl, rfl, rfl⟩)
set_option maxHeartbeats 4000000 in
set_option maxRecDepth 100000 in
theorem j_write1 (l : Launch) (s : SG) (k : KG) (hc : ¬ cut_ s = 0) : kw_F l yX2_write cX2_write 1 (Option.some Jvm.ClassFile.FieldType.boolean) { frames := 0, cells := 0, slots := 0, locals := 0 } [pr_ (1, 0)] (hC s k) (some (pi_ 1)) (hC (s_w1 s) k) := by
  refine kw_M_of RX2 "write" [some (pr_ (1, 0))] (by decide) rfl rfl rfl (Nat.le_of_ble_eq_true rfl) ?_
  intro D ad A
  refine kw_Kgen (fun K hK => ?_)
  refine kw_aload_n dX2_write_0 rfl ?_
  refine kw_get dX2_write_1 fl_X2_18 rfl rfl ?_
  refine kw_if_ne (tgt := 19) dX2_write_4 (by decide) (fun c4 => ?_) (fun c4 => ?_)
  · skip
    refine kw_aload_n dX2_write_19 rfl ?_
    refine kw_get dX2_write_20 fl_X2_18 rfl rfl ?_
    refine kw_if_le (tgt := 36) dX2_write_23 (by decide) (fun c23 => ?_) (fun c23 => ?_)
    · skip
      refine kw_aload_n dX2_write_36 rfl ?_
      refine kw_dup dX2_write_37 rfl ?_
      refine kw_get dX2_write_38 fl_X2_26 rfl rfl ?_
      refine kw_iconst (v := 1) dX2_write_41 (by decide) ?_
      refine kw_iadd dX2_write_42 ?_
      refine kw_put dX2_write_43 fl_X2_26 rfl (kw_ok_i _) (Nat.le_of_ble_eq_true rfl) ?_
      refine kw_heq (up_jwr s k _) ?_
      refine kw_iconst (v := 1) dX2_write_46 (by decide) ?_
      exact kw_zret dX2_write_47 rfl (by decide) (Nat.le_of_ble_eq_true rfl) (Nat.le_of_ble_eq_true rfl) (hK _ _ _ ⟨rfl, rfl, by rw [s_w1, if_pos c23]⟩)
    · skip
      refine kw_aload_n dX2_write_26 rfl ?_
      refine kw_dup dX2_write_27 rfl ?_
      refine kw_get dX2_write_28 fl_X2_18 rfl rfl ?_
      refine kw_iconst (v := 1) dX2_write_31 (by decide) ?_
      refine kw_isub dX2_write_32 ?_
      refine kw_put dX2_write_33 fl_X2_18 rfl (kw_ok_i _) (Nat.le_of_ble_eq_true rfl) ?_
      refine kw_heq (up_jcut s k _) ?_
      refine kw_aload_n dX2_write_36 rfl ?_
      refine kw_dup dX2_write_37 rfl ?_
      refine kw_get dX2_write_38 fl_X2_26 rfl rfl ?_
      refine kw_iconst (v := 1) dX2_write_41 (by decide) ?_
      refine kw_iadd dX2_write_42 ?_
      refine kw_put dX2_write_43 fl_X2_26 rfl (kw_ok_i _) (Nat.le_of_ble_eq_true rfl) ?_
      refine kw_heq (up_jwr _ k _) ?_
      refine kw_iconst (v := 1) dX2_write_46 (by decide) ?_
      exact kw_zret dX2_write_47 rfl (by decide) (Nat.le_of_ble_eq_true rfl) (Nat.le_of_ble_eq_true rfl) (hK _ _ _ ⟨rfl, rfl, by rw [s_w1, if_neg c23]; rfl⟩)
  · skip
    exact absurd c4 hc
set_option maxHeartbeats 4000000 in
set_option maxRecDepth 100000 in
theorem j_ev0 (l : Launch) (s : SG) (k : KG) (hc : cut_ s = 0) (a b : Int32) : kw_F l yX2_write_ cX2_write_ 3 (Option.some Jvm.ClassFile.FieldType.boolean) { frames := 1, cells := 0, slots := 0, locals := 20 } [pr_ (1, 0), pi_ a, pi_ b] (hC s k) (some (pi_ 0)) (hC (s_w0 s) k) := by
  refine kw_M_of RX2 "write" [some (pr_ (1, 0)), some (pi_ a), some (pi_ b)] (by decide) rfl rfl rfl (Nat.le_of_ble_eq_true rfl) ?_
  intro D ad A
  refine kw_Kgen (fun K hK => ?_)
  refine kw_aload_n dX2_write__0 rfl ?_
  refine kw_callVf (As := []) (j_write0 l s k hc) dX2_write__1 cl_X2_29 rfl rfl rfl rfl (Nat.le_of_ble_eq_true rfl) ⟨(Nat.le_of_ble_eq_true rfl), (Nat.le_of_ble_eq_true rfl), (Nat.le_of_ble_eq_true rfl), (Nat.le_of_ble_eq_true rfl)⟩ ?_
  refine kw_if_ne (tgt := 9) dX2_write__4 (by decide) (fun c4 => ?_) (fun c4 => ?_)
  · skip
    exact absurd rfl c4
  · skip
    refine kw_iconst (v := 0) dX2_write__7 (by decide) ?_
    exact kw_zret dX2_write__8 rfl (by decide) (Nat.le_of_ble_eq_true rfl) (Nat.le_of_ble_eq_true rfl) (hK _ _ _ ⟨rfl, rfl, rfl⟩)
set_option maxHeartbeats 4000000 in
set_option maxRecDepth 100000 in
theorem j_ev1 (l : Launch) (s : SG) (k : KG) (hc : ¬ cut_ s = 0) (hn : nh_ s < 240) (a b : Nat) : kw_F l yX2_write_ cX2_write_ 3 (Option.some Jvm.ClassFile.FieldType.boolean) { frames := 1, cells := 0, slots := 0, locals := 20 } [pr_ (1, 0), pi_ (nI a), pi_ (nI b)] (hC s k) (some (pi_ 1)) (hC (s_ev (s_w1 s) a b) k) := by
  refine kw_M_of RX2 "write" [some (pr_ (1, 0)), some (pi_ (nI a)), some (pi_ (nI b))] (by decide) rfl rfl rfl (Nat.le_of_ble_eq_true rfl) ?_
  intro D ad A
  refine kw_Kgen (fun K hK => ?_)
  refine kw_aload_n dX2_write__0 rfl ?_
  refine kw_callVf (As := []) (j_write1 l s k hc) dX2_write__1 cl_X2_29 rfl rfl rfl rfl (Nat.le_of_ble_eq_true rfl) ⟨(Nat.le_of_ble_eq_true rfl), (Nat.le_of_ble_eq_true rfl), (Nat.le_of_ble_eq_true rfl), (Nat.le_of_ble_eq_true rfl)⟩ ?_
  have hn : nh_ (s_w1 s) < 240 := by show (s_w1 s).1 8 < 240; rw [s_w1_1]; exact hn
  generalize s_w1 s = s at hn hK ⊢
  refine kw_if_ne (tgt := 9) dX2_write__4 (by decide) (fun c4 => ?_) (fun c4 => ?_)
  · skip
    refine kw_aload_n dX2_write__9 rfl ?_
    refine kw_get dX2_write__10 fl_X2_33 rfl rfl ?_
    refine kw_sipush (v := 240) dX2_write__13 (by decide) ?_
    refine kw_icmp_ge (tgt := 49) dX2_write__16 (by decide) (fun c16 => ?_) (fun c16 => ?_)
    · skip
      exact absurd c16 (nI_ge (a := nh_ s) (b := 240) hn (by decide))
    · skip
      refine kw_aload_n dX2_write__19 rfl ?_
      refine kw_get dX2_write__20 fl_X2_11 rfl rfl ?_
      refine kw_aload_n dX2_write__23 rfl ?_
      refine kw_get dX2_write__24 fl_X2_33 rfl rfl ?_
      refine kw_iload_n dX2_write__27 rfl ?_
      refine kw_iastN dX2_write__28 rfl hn (by decide) ?_
      refine kw_heq (up_rhk s k _ _) ?_
      refine kw_aload_n dX2_write__29 rfl ?_
      refine kw_get dX2_write__30 fl_X2_15 rfl rfl ?_
      refine kw_aload_n dX2_write__33 rfl ?_
      refine kw_get dX2_write__34 fl_X2_33 rfl rfl ?_
      refine kw_iload_n dX2_write__37 rfl ?_
      refine kw_iastN dX2_write__38 rfl hn (by decide) ?_
      refine kw_heq (up_rhw _ k _ _) ?_
      refine kw_aload_n dX2_write__39 rfl ?_
      refine kw_dup dX2_write__40 rfl ?_
      refine kw_get dX2_write__41 fl_X2_33 rfl rfl ?_
      refine kw_iconst (v := 1) dX2_write__44 (by decide) ?_
      refine kw_iadd dX2_write__45 ?_
      refine kw_top (v' := pi_ (nI (nh_ s + 1))) (by rw [← nI_1]) ?_
      refine kw_put dX2_write__46 fl_X2_33 rfl (kw_ok_i _) (Nat.le_of_ble_eq_true rfl) ?_
      refine kw_heq (up_jlen _ k _) ?_
      refine kw_iconst (v := 1) dX2_write__49 (by decide) ?_
      exact kw_zret dX2_write__50 rfl (by decide) (Nat.le_of_ble_eq_true rfl) (Nat.le_of_ble_eq_true rfl) (hK _ _ _ ⟨rfl, rfl, rfl⟩)
  · skip
    exact absurd c4 (by decide)
