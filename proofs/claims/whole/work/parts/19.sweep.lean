/-! SWEEP -/
def s_line (s : SG) (b : Nat) : SG := sN (sF s 19 (va_up (rw_ s) (rt_ s) b)) 12 (rt_ s + 1)
def s_lines (s : SG) (f : Nat → Nat) : Nat → SG
  | 0 => s
  | n + 1 => s_line (s_lines s f n) (f n)
def s_prep0 (s : SG) : SG := sN (sN (sN (sN (sN s 9 (nsw_ s + 1)) 10 1) 11 0) 12 0) 13 (nb_ s)
def s_prep (s : SG) : SG := sGb (s_prep0 s) 1 (rnone (nb_ s) (mk_ s))
def s_spare (s : SG) (k : KG) (b : Nat) : SG := if ph_ s = 2 ∨ ph_ s = 3 then sGb s 1 (mkP s (rch_ k) (nb_ s)) else if ph_ s = 1 ∧ mk_ s b = false then s_line s b else s
def st1 (x : SG × KG) : SG × KG := if ph_ x.1 = 1 ∧ rt_ x.1 ≤ rf_ x.1 then (sN x.1 10 2, kX x.2 0 0) else x
def st2 (x : SG × KG) : SG × KG := if ph_ x.1 = 2 ∧ nI (end_ x.1) ≤ nx_ x.2 then (sN x.1 10 3, kX x.2 0 (nI (end_ x.1) - 1)) else x
def st3 (x : SG × KG) : SG × KG := if ph_ x.1 = 3 ∧ nx_ x.2 < 0 then (sN x.1 10 4, kX (kX x.2 0 0) 1 (nI (np_ x.1))) else x
def st4 (x : SG × KG) : SG × KG := if ph_ x.1 = 4 ∧ pe_ x.2 ≤ nx_ x.2 then (sN x.1 10 0, x.2) else x
def settleF (x : SG × KG) : SG × KG := st4 (st3 (st2 (st1 x)))
theorem s_line_1 (s : SG) (b i : Nat) (hi : i ≠ 12) : (s_line s b).1 i = s.1 i := by show va_up s.1 12 _ i = _; simp [va_up, hi]
theorem s_lines_1 (s : SG) (f : Nat → Nat) (i : Nat) (hi : i ≠ 12) : ∀ n, (s_lines s f n).1 i = s.1 i
  | 0 => rfl
  | n + 1 => (s_line_1 _ _ i hi).trans (s_lines_1 s f i hi n)
theorem s_lines_rt (s : SG) (f : Nat → Nat) : ∀ n, rt_ (s_lines s f n) = rt_ s + n
  | 0 => rfl
  | n + 1 => by
    show rt_ (s_lines s f n) + 1 = _
    rw [s_lines_rt s f n]; rfl
theorem s_lines_f (s : SG) (f : Nat → Nat) (i : Nat) (hi : i ≠ 19) : ∀ n, fs_ (s_lines s f n) i = fs_ s i
  | 0 => rfl
  | n + 1 => by
    show va_up (fs_ (s_lines s f n)) 19 _ i = _
    simp only [va_up, if_neg hi]
    exact s_lines_f s f i hi n
theorem s_lines_ff (s : SG) (f : Nat → Nat) : ∀ n, (s_lines s f n).2.2.2.2.2 = s.2.2.2.2.2
  | 0 => rfl
  | n + 1 => s_lines_ff s f n
def s_mark0 (s : SG) (b : Nat) : SG := sGb (sN s 11 (rf_ s + 1)) 1 (va_up (mk_ s) b true)
def s_mark1 (s : SG) : SG := if mk_ s (rw_ s (rf_ s)) = true then sN s 11 (rf_ s + 1) else s_lines (s_mark0 s (rw_ s (rf_ s))) (ch_ s (rw_ s (rf_ s))) (cm_ s (rw_ s (rf_ s)))
/-- one block is cleared, or chosen: whether power stayed, and the state -/
def clearF (s : SG) (b : Nat) : Bool × SG := if mk_ s b = true ∧ wt_ s b ≠ 0 then (if cut_ s = 0 then (false, s_w0 s) else (true, s_await s b 0)) else (true, s)
def chooseF (s : SG) (b : Nat) : Bool × SG := if th_ s b = true ∧ mk_ s b = false then (if cut_ s = 0 then (false, s_w0 s) else if 0 < wt_ s b then (true, s_free s b) else (true, s_await s b (nsw_ s))) else (true, s)
def chooseK (s : SG) (k : KG) (b : Nat) : KG := if th_ s b = true ∧ mk_ s b = false ∧ ¬ cut_ s = 0 ∧ 0 < wt_ s b then k_free s k b else k
set_option maxHeartbeats 4000000 in
set_option maxRecDepth 100000 in
theorem w_line (l : Launch) (s : SG) (k : KG) (hr : rt_ s < 944) (b : Nat) : kw_F l yX10_lineUp cX10_lineUp 2 (Option.none : Option Jvm.ClassFile.FieldType) { frames := 0, cells := 0, slots := 0, locals := 0 } [pr_ (8, 0), pi_ (nI b)] (hC s k) none (hC (s_line s b) k) := by
  refine kw_M_of RX10 "lineUp" [some (pr_ (8, 0)), some (pi_ (nI b))] (by decide) rfl rfl rfl (Nat.le_of_ble_eq_true rfl) ?_
  intro D ad A
  refine kw_Kgen (fun K hK => ?_)
  refine kw_aload_n dX10_lineUp_0 rfl ?_
  refine kw_get dX10_lineUp_1 fl_X10_41 rfl rfl ?_
  refine kw_sipush (v := 944) dX10_lineUp_4 (by decide) ?_
  refine kw_icmp_ge (tgt := 30) dX10_lineUp_7 (by decide) (fun c7 => ?_) (fun c7 => ?_)
  · skip
    exact absurd c7 (nI_ge (a := rt_ s) (b := 944) hr (by decide))
  · skip
    refine kw_aload_n dX10_lineUp_10 rfl ?_
    refine kw_get dX10_lineUp_11 fl_X10_11 rfl rfl ?_
    refine kw_aload_n dX10_lineUp_14 rfl ?_
    refine kw_get dX10_lineUp_15 fl_X10_41 rfl rfl ?_
    refine kw_iload_n dX10_lineUp_18 rfl ?_
    refine kw_iastN dX10_lineUp_19 rfl hr (by decide) ?_
    refine kw_heq (up_rrw s k _ _) ?_
    refine kw_aload_n dX10_lineUp_20 rfl ?_
    refine kw_dup dX10_lineUp_21 rfl ?_
    refine kw_get dX10_lineUp_22 fl_X10_41 rfl rfl ?_
    refine kw_iconst (v := 1) dX10_lineUp_25 (by decide) ?_
    refine kw_iadd dX10_lineUp_26 ?_
    refine kw_top (v' := pi_ (nI (rt_ s + 1))) (by rw [← nI_1]) ?_
    refine kw_put dX10_lineUp_27 fl_X10_41 rfl (kw_ok_i _) (Nat.le_of_ble_eq_true rfl) ?_
    refine kw_heq (up_wrt _ k _) ?_
    exact kw_vret dX10_lineUp_30 rfl (Nat.le_of_ble_eq_true rfl) (Nat.le_of_ble_eq_true rfl) (hK _ _ _ ⟨rfl, rfl, rfl⟩)
set_option maxHeartbeats 4000000 in
set_option maxRecDepth 100000 in
theorem w_lines (l : Launch) (s : SG) (k : KG) (q0 : KK) (N n : Nat) (f : Nat → Nat) (hq0 : ∀ m, hC (s_lines s f m) k q0 = some (ri_ N f)) (hN : N < 2 ^ 31) (hn : n ≤ N) (hr : rt_ s + n ≤ 944) : kw_F l yX10_lineUpAll cX10_lineUpAll 4 (Option.none : Option Jvm.ClassFile.FieldType) { frames := 1, cells := 0, slots := 0, locals := 21 } [pr_ (8, 0), pr_ q0, pi_ (nI n)] (hC s k) none (hC (s_lines s f n) k) := by
  refine kw_M_of RX10 "lineUpAll" [some (pr_ (8, 0)), some (pr_ q0), some (pi_ (nI n)), none] (by decide) rfl rfl rfl (Nat.le_of_ble_eq_true rfl) ?_
  intro D ad A
  refine kw_Kgen (fun K hK => ?_)
  have loop : ∀ (n_ : Nat) (j : Nat), n - j < n_ → j ≤ n → kw_G l D cX10_lineUpAll RX10 (Option.none : Option Jvm.ClassFile.FieldType) "lineUpAll" { frames := 1, cells := 0, slots := 0, locals := 21 } A K ad (hC (s_lines s f j) k) 0 0 2 [some (pr_ (8, 0)), some (pr_ q0), some (pi_ (nI n)), some (pi_ (nI j))] [] := by
    intro n_
    induction n_ with
    | zero =>
      intro j hm_
      exact absurd hm_ (Nat.not_lt_zero _)
    | succ n_ ih =>
      intro j hm_ hj
      refine kw_iload_n dX10_lineUpAll_2 rfl ?_
      refine kw_iload_n dX10_lineUpAll_3 rfl ?_
      refine kw_icmp_ge (tgt := 20) dX10_lineUpAll_4 (by decide) (fun c4 => ?_) (fun c4 => ?_)
      · skip
        have e : j = n := Nat.le_antisymm hj (nI_le' (by omega) (by omega) c4)
        exact kw_vret dX10_lineUpAll_20 rfl (Nat.le_of_ble_eq_true rfl) (Nat.le_of_ble_eq_true rfl) (hK _ _ _ ⟨rfl, rfl, by rw [e]⟩)
      · skip
        have hlt : j < n := nI_nle' (by omega) (by omega) c4
        have er := s_lines_rt s f j
        refine kw_aload_n dX10_lineUpAll_7 rfl ?_
        refine kw_aload_n dX10_lineUpAll_8 rfl ?_
        refine kw_iload_n dX10_lineUpAll_9 rfl ?_
        refine kw_ialdN dX10_lineUpAll_10 (hq0 _) (by omega) hN ?_
        refine kw_callVf (As := [pi_ (nI (f j))]) (w_line l (s_lines s f j) k (by omega) (f j)) dX10_lineUpAll_11 cl_X10_62 rfl rfl rfl rfl (Nat.le_of_ble_eq_true rfl) ⟨(Nat.le_of_ble_eq_true rfl), (Nat.le_of_ble_eq_true rfl), (Nat.le_of_ble_eq_true rfl), (Nat.le_of_ble_eq_true rfl)⟩ ?_
        refine kw_iinc dX10_lineUpAll_14 rfl (nI_i j) ?_
        refine kw_goto (tgt := 2) dX10_lineUpAll_17 (by decide) ?_
        exact ih (j + 1) (by omega) (by omega)
  refine kw_iconst (v := 0) dX10_lineUpAll_0 (by decide) ?_
  refine kw_istore_n dX10_lineUpAll_1 (Nat.le_of_ble_eq_true rfl) ?_
  exact loop (n + 1) 0 (by omega) (by omega)
set_option maxHeartbeats 4000000 in
set_option maxRecDepth 100000 in
theorem w_prepare (l : Launch) (s : SG) (k : KG) (hb : nb_ s ≤ 80) : kw_F l yX10_prepare cX10_prepare 2 (Option.none : Option Jvm.ClassFile.FieldType) { frames := 0, cells := 0, slots := 0, locals := 0 } [pr_ (8, 0)] (hC s k) none (hC (s_prep s) k) := by
  refine kw_M_of RX10 "prepare" [some (pr_ (8, 0)), none] (by decide) rfl rfl rfl (Nat.le_of_ble_eq_true rfl) ?_
  intro D ad A
  refine kw_Kgen (fun K hK => ?_)
  have loop : ∀ (n_ : Nat) (j : Nat), nb_ s - j < n_ → j ≤ nb_ s → kw_G l D cX10_prepare RX10 (Option.none : Option Jvm.ClassFile.FieldType) "prepare" { frames := 0, cells := 0, slots := 0, locals := 0 } A K ad (hC (sGb (s_prep0 s) 1 (rnone j (mk_ s))) k) 0 0 38 [some (pr_ (8, 0)), some (pi_ (nI j))] [] := by
    intro n_
    induction n_ with
    | zero =>
      intro j hm_
      exact absurd hm_ (Nat.not_lt_zero _)
    | succ n_ ih =>
      intro j hm_ hj
      refine kw_iload_n dX10_prepare_38 rfl ?_
      refine kw_aload_n dX10_prepare_39 rfl ?_
      refine kw_get dX10_prepare_40 fl_X10_49 rfl rfl ?_
      refine kw_icmp_ge (tgt := 65) dX10_prepare_43 (by decide) (fun c43 => ?_) (fun c43 => ?_)
      · skip
        have e : j = nb_ s := Nat.le_antisymm hj (nI_le' (a := nb_ s) (by omega) (by omega) c43)
        exact kw_vret dX10_prepare_65 rfl (Nat.le_of_ble_eq_true rfl) (Nat.le_of_ble_eq_true rfl) (hK _ _ _ ⟨rfl, rfl, by rw [e]; rfl⟩)
      · skip
        have hlt : j < nb_ s := nI_nle' (a := nb_ s) (by omega) (by omega) c43
        refine kw_aload_n dX10_prepare_46 rfl ?_
        refine kw_get dX10_prepare_47 fl_X10_19 rfl rfl ?_
        refine kw_get dX10_prepare_50 fl_X10_52 rfl rfl ?_
        refine kw_iload_n dX10_prepare_53 rfl ?_
        refine kw_aaldN dX10_prepare_54 rfl (by omega) (by decide) (if_pos hlt) ?_
        refine kw_iconst (v := 0) dX10_prepare_55 (by decide) ?_
        refine kw_put dX10_prepare_56 fl_X10_56 (hC_bl (by exact hlt)) (kw_ok_z (Or.inl rfl)) (Nat.le_of_ble_eq_true rfl) ?_
        refine kw_heq (up_bmk _ k j (by exact hlt) false) ?_
        rw [show mk_ (sGb (s_prep0 s) 1 (rnone j (mk_ s))) = rnone j (mk_ s) from rfl, rnone_s, sGb2]
        refine kw_iinc dX10_prepare_59 rfl (nI_i j) ?_
        refine kw_goto (tgt := 38) dX10_prepare_62 (by decide) ?_
        exact ih (j + 1) (by omega) (by omega)
  refine kw_aload_n dX10_prepare_0 rfl ?_
  refine kw_dup dX10_prepare_1 rfl ?_
  refine kw_get dX10_prepare_2 fl_X10_32 rfl rfl ?_
  refine kw_iconst (v := 1) dX10_prepare_5 (by decide) ?_
  refine kw_iadd dX10_prepare_6 ?_
  refine kw_top (v' := pi_ (nI (nsw_ s + 1))) (by rw [← nI_1]) ?_
  refine kw_put dX10_prepare_7 fl_X10_32 rfl (kw_ok_i _) (Nat.le_of_ble_eq_true rfl) ?_
  refine kw_heq (up_wsw s k _) ?_
  refine kw_aload_n dX10_prepare_10 rfl ?_
  refine kw_iconst (v := 1) dX10_prepare_11 (by decide) ?_
  refine kw_put dX10_prepare_12 fl_X10_35 rfl (kw_ok_i _) (Nat.le_of_ble_eq_true rfl) ?_
  refine kw_heq (up_wph _ k 1) ?_
  refine kw_aload_n dX10_prepare_15 rfl ?_
  refine kw_iconst (v := 0) dX10_prepare_16 (by decide) ?_
  refine kw_put dX10_prepare_17 fl_X10_38 rfl (kw_ok_i _) (Nat.le_of_ble_eq_true rfl) ?_
  refine kw_heq (up_wrf _ k 0) ?_
  refine kw_aload_n dX10_prepare_20 rfl ?_
  refine kw_iconst (v := 0) dX10_prepare_21 (by decide) ?_
  refine kw_put dX10_prepare_22 fl_X10_41 rfl (kw_ok_i _) (Nat.le_of_ble_eq_true rfl) ?_
  refine kw_heq (up_wrt _ k 0) ?_
  refine kw_aload_n dX10_prepare_25 rfl ?_
  refine kw_aload_n dX10_prepare_26 rfl ?_
  refine kw_get dX10_prepare_27 fl_X10_19 rfl rfl ?_
  refine kw_get dX10_prepare_30 fl_X10_44 rfl rfl ?_
  refine kw_put dX10_prepare_33 fl_X10_49 rfl (kw_ok_i _) (Nat.le_of_ble_eq_true rfl) ?_
  refine kw_heq (up_wend _ k (nb_ s)) ?_
  refine kw_iconst (v := 0) dX10_prepare_36 (by decide) ?_
  refine kw_istore_n dX10_prepare_37 (Nat.le_of_ble_eq_true rfl) ?_
  have h0 : hC (s_prep0 s) k = hC (sGb (s_prep0 s) 1 (rnone 0 (mk_ s))) k := by rw [rnone_0]; exact congrArg (fun x => hC x k) (sGb_id (s_prep0 s) 1).symm
  refine kw_heq h0 ?_
  exact loop (nb_ s + 1) 0 (by omega) (by omega)
set_option maxHeartbeats 4000000 in
set_option maxRecDepth 100000 in
theorem w_spare (l : Launch) (s : SG) (k : KG) (hb : nb_ s ≤ 80) (hph : ph_ s ≤ 4) (hr : rt_ s < 944) (b : Nat) (hbb : b < nb_ s) : kw_F l yX10_spareReached cX10_spareReached 2 (Option.none : Option Jvm.ClassFile.FieldType) { frames := 1, cells := 0, slots := 0, locals := 21 } [pr_ (8, 0), pi_ (nI b)] (hC s k) none (hC (s_spare s k b) k) := by
  refine kw_M_of RX10 "spareReached" [some (pr_ (8, 0)), some (pi_ (nI b))] (by decide) rfl rfl rfl (Nat.le_of_ble_eq_true rfl) ?_
  intro D ad A
  refine kw_Kgen (fun K hK => ?_)
  refine kw_aload_n dX10_spareReached_0 rfl ?_
  refine kw_get dX10_spareReached_1 fl_X10_35 rfl rfl ?_
  refine kw_iconst (v := 2) dX10_spareReached_4 (by decide) ?_
  refine kw_icmp_eq (tgt := 16) dX10_spareReached_5 (by decide) (fun c5 => ?_) (fun c5 => ?_)
  · skip
    have e := nI_eq' (b := 2) (by omega) (by decide) c5
    refine kw_aload_n dX10_spareReached_16 rfl ?_
    refine kw_get dX10_spareReached_17 fl_X10_19 rfl rfl ?_
    refine kw_callVf (As := []) (t_mark l s k hb) dX10_spareReached_20 cl_X10_66 rfl rfl rfl rfl (Nat.le_of_ble_eq_true rfl) ⟨(Nat.le_of_ble_eq_true rfl), (Nat.le_of_ble_eq_true rfl), (Nat.le_of_ble_eq_true rfl), (Nat.le_of_ble_eq_true rfl)⟩ ?_
    refine kw_goto (tgt := 54) dX10_spareReached_23 (by decide) ?_
    exact kw_vret dX10_spareReached_54 rfl (Nat.le_of_ble_eq_true rfl) (Nat.le_of_ble_eq_true rfl) (hK _ _ _ ⟨rfl, rfl, by rw [s_spare, if_pos (Or.inl e)]⟩)
  · skip
    have n2 : ph_ s ≠ 2 := fun q => c5 (by rw [q]; rfl)
    refine kw_aload_n dX10_spareReached_8 rfl ?_
    refine kw_get dX10_spareReached_9 fl_X10_35 rfl rfl ?_
    refine kw_iconst (v := 3) dX10_spareReached_12 (by decide) ?_
    refine kw_icmp_ne (tgt := 26) dX10_spareReached_13 (by decide) (fun c13 => ?_) (fun c13 => ?_)
    · skip
      have n3 : ph_ s ≠ 3 := fun q => c13 (by rw [q]; rfl)
      refine kw_aload_n dX10_spareReached_26 rfl ?_
      refine kw_get dX10_spareReached_27 fl_X10_35 rfl rfl ?_
      refine kw_iconst (v := 1) dX10_spareReached_30 (by decide) ?_
      refine kw_icmp_ne (tgt := 54) dX10_spareReached_31 (by decide) (fun c31 => ?_) (fun c31 => ?_)
      · skip
        exact kw_vret dX10_spareReached_54 rfl (Nat.le_of_ble_eq_true rfl) (Nat.le_of_ble_eq_true rfl) (hK _ _ _ ⟨rfl, rfl, by rw [s_spare, if_neg (by omega), if_neg (fun q => c31 (by rw [q.1]; rfl))]⟩)
      · skip
        have e1 := nI_eq' (b := 1) (by omega) (by decide) c31
        refine kw_aload_n dX10_spareReached_34 rfl ?_
        refine kw_get dX10_spareReached_35 fl_X10_19 rfl rfl ?_
        refine kw_get dX10_spareReached_38 fl_X10_52 rfl rfl ?_
        refine kw_iload_n dX10_spareReached_41 rfl ?_
        refine kw_aaldN dX10_spareReached_42 rfl (by omega) (by decide) (if_pos hbb) ?_
        refine kw_get dX10_spareReached_43 fl_X10_56 (hC_bl hbb) rfl ?_
        refine kw_if_ne (tgt := 54) dX10_spareReached_46 (by decide) (fun c46 => ?_) (fun c46 => ?_)
        · skip
          exact kw_vret dX10_spareReached_54 rfl (Nat.le_of_ble_eq_true rfl) (Nat.le_of_ble_eq_true rfl) (hK _ _ _ ⟨rfl, rfl, by rw [s_spare, if_neg (by omega), if_neg (fun q => absurd q.2 (by rw [b2_n0.mp c46]; decide))]⟩)
        · skip
          refine kw_aload_n dX10_spareReached_49 rfl ?_
          refine kw_iload_n dX10_spareReached_50 rfl ?_
          refine kw_callVf (As := [pi_ (nI b)]) (w_line l s k hr b) dX10_spareReached_51 cl_X10_62 rfl rfl rfl rfl (Nat.le_of_ble_eq_true rfl) ⟨(Nat.le_of_ble_eq_true rfl), (Nat.le_of_ble_eq_true rfl), (Nat.le_of_ble_eq_true rfl), (Nat.le_of_ble_eq_true rfl)⟩ ?_
          exact kw_vret dX10_spareReached_54 rfl (Nat.le_of_ble_eq_true rfl) (Nat.le_of_ble_eq_true rfl) (hK _ _ _ ⟨rfl, rfl, by rw [s_spare, if_neg (by omega), if_pos ⟨e1, b2_0.mp c46⟩]⟩)
    · skip
      have e := nI_eq' (b := 3) (by omega) (by decide) c13
      refine kw_aload_n dX10_spareReached_16 rfl ?_
      refine kw_get dX10_spareReached_17 fl_X10_19 rfl rfl ?_
      refine kw_callVf (As := []) (t_mark l s k hb) dX10_spareReached_20 cl_X10_66 rfl rfl rfl rfl (Nat.le_of_ble_eq_true rfl) ⟨(Nat.le_of_ble_eq_true rfl), (Nat.le_of_ble_eq_true rfl), (Nat.le_of_ble_eq_true rfl), (Nat.le_of_ble_eq_true rfl)⟩ ?_
      refine kw_goto (tgt := 54) dX10_spareReached_23 (by decide) ?_
      exact kw_vret dX10_spareReached_54 rfl (Nat.le_of_ble_eq_true rfl) (Nat.le_of_ble_eq_true rfl) (hK _ _ _ ⟨rfl, rfl, by rw [s_spare, if_pos (Or.inr e)]⟩)
set_option maxHeartbeats 4000000 in
set_option maxRecDepth 100000 in
theorem w_settle (l : Launch) (s : SG) (k : KG) (hph : ph_ s ≤ 4) (hrt : rt_ s ≤ 944) (hrf : rf_ s ≤ 944) : kw_F l yX10_settle cX10_settle 1 (Option.none : Option Jvm.ClassFile.FieldType) { frames := 0, cells := 0, slots := 0, locals := 0 } [pr_ (8, 0)] (hC s k) none (hC (settleF (s, k)).1 (settleF (s, k)).2) := by
  refine kw_M_of RX10 "settle" [some (pr_ (8, 0))] (by decide) rfl rfl rfl (Nat.le_of_ble_eq_true rfl) ?_
  intro D ad A
  refine kw_Kgen (fun K hK => ?_)
  obtain ⟨fin, hfin⟩ : ∃ fin, fin = settleF (s, k) := ⟨_, rfl⟩
  rw [← hfin] at hK
  unfold settleF at hfin
  have j99 : ∀ (t : SG) (q : KG), ph_ t ≤ 4 → rt_ t ≤ 944 → rf_ t ≤ 944 → fin = st4 (t, q) → kw_G l D cX10_settle RX10 (Option.none : Option Jvm.ClassFile.FieldType) "settle" { frames := 0, cells := 0, slots := 0, locals := 0 } A K ad (hC t q) 0 0 99 [some (pr_ (8, 0))] [] := by
    intro t q hph hrt hrf hf
    refine kw_aload_n dX10_settle_99 rfl ?_
    refine kw_get dX10_settle_100 fl_X10_35 rfl rfl ?_
    refine kw_iconst (v := 4) dX10_settle_103 (by decide) ?_
    refine kw_icmp_ne (tgt := 123) dX10_settle_104 (by decide) (fun c104 => ?_) (fun c104 => ?_)
    · skip
      rw [st4, if_neg (fun z => c104 (by rw [z.1]; rfl))] at hf
      exact kw_vret dX10_settle_123 rfl (Nat.le_of_ble_eq_true rfl) (Nat.le_of_ble_eq_true rfl) (hK _ _ _ ⟨rfl, rfl, by rw [hf]⟩)
    · skip
      have e4 := nI_eq' (a := ph_ t) (b := 4) (by omega) (by decide) c104
      refine kw_aload_n dX10_settle_107 rfl ?_
      refine kw_get dX10_settle_108 fl_X10_85 rfl rfl ?_
      refine kw_aload_n dX10_settle_111 rfl ?_
      refine kw_get dX10_settle_112 fl_X10_91 rfl rfl ?_
      refine kw_icmp_lt (tgt := 123) dX10_settle_115 (by decide) (fun c115 => ?_) (fun c115 => ?_)
      · skip
        rw [st4, if_neg (fun z => absurd z.2 (Int32.not_le.mpr c115))] at hf
        exact kw_vret dX10_settle_123 rfl (Nat.le_of_ble_eq_true rfl) (Nat.le_of_ble_eq_true rfl) (hK _ _ _ ⟨rfl, rfl, by rw [hf]⟩)
      · skip
        rw [st4, if_pos ⟨e4, Int32.not_lt.mp c115⟩] at hf
        refine kw_aload_n dX10_settle_118 rfl ?_
        refine kw_iconst (v := 0) dX10_settle_119 (by decide) ?_
        refine kw_put dX10_settle_120 fl_X10_35 rfl (kw_ok_i _) (Nat.le_of_ble_eq_true rfl) ?_
        refine kw_heq (up_wph t q 0) ?_
        exact kw_vret dX10_settle_123 rfl (Nat.le_of_ble_eq_true rfl) (Nat.le_of_ble_eq_true rfl) (hK _ _ _ ⟨rfl, rfl, by rw [hf]⟩)
  have j63 : ∀ (t : SG) (q : KG), ph_ t ≤ 4 → rt_ t ≤ 944 → rf_ t ≤ 944 → fin = st4 (st3 (t, q)) → kw_G l D cX10_settle RX10 (Option.none : Option Jvm.ClassFile.FieldType) "settle" { frames := 0, cells := 0, slots := 0, locals := 0 } A K ad (hC t q) 0 0 63 [some (pr_ (8, 0))] [] := by
    intro t q hph hrt hrf hf
    refine kw_aload_n dX10_settle_63 rfl ?_
    refine kw_get dX10_settle_64 fl_X10_35 rfl rfl ?_
    refine kw_iconst (v := 3) dX10_settle_67 (by decide) ?_
    refine kw_icmp_ne (tgt := 99) dX10_settle_68 (by decide) (fun c68 => ?_) (fun c68 => ?_)
    · skip
      rw [st3, if_neg (fun z => c68 (by rw [z.1]; rfl))] at hf
      exact j99 t q hph hrt hrf hf
    · skip
      have e3 := nI_eq' (a := ph_ t) (b := 3) (by omega) (by decide) c68
      refine kw_aload_n dX10_settle_71 rfl ?_
      refine kw_get dX10_settle_72 fl_X10_85 rfl rfl ?_
      refine kw_if_ge (tgt := 99) dX10_settle_75 (by decide) (fun c75 => ?_) (fun c75 => ?_)
      · skip
        rw [st3, if_neg (fun z => absurd z.2 (Int32.not_lt.mpr c75))] at hf
        exact j99 t q hph hrt hrf hf
      · skip
        rw [st3, if_pos ⟨e3, Int32.not_le.mp c75⟩] at hf
        refine kw_aload_n dX10_settle_78 rfl ?_
        refine kw_iconst (v := 4) dX10_settle_79 (by decide) ?_
        refine kw_put dX10_settle_80 fl_X10_35 rfl (kw_ok_i _) (Nat.le_of_ble_eq_true rfl) ?_
        refine kw_heq (up_wph t q 4) ?_
        refine kw_aload_n dX10_settle_83 rfl ?_
        refine kw_iconst (v := 0) dX10_settle_84 (by decide) ?_
        refine kw_put dX10_settle_85 fl_X10_85 rfl (kw_ok_i _) (Nat.le_of_ble_eq_true rfl) ?_
        refine kw_heq (up_wnx _ q 0) ?_
        refine kw_aload_n dX10_settle_88 rfl ?_
        refine kw_aload_n dX10_settle_89 rfl ?_
        refine kw_get dX10_settle_90 fl_X10_19 rfl rfl ?_
        refine kw_get dX10_settle_93 fl_X10_88 rfl rfl ?_
        refine kw_put dX10_settle_96 fl_X10_91 rfl (kw_ok_i _) (Nat.le_of_ble_eq_true rfl) ?_
        refine kw_heq (up_wpe _ _ _) ?_
        exact j99 (sN t 10 4) (kX (kX q 0 0) 1 (nI (np_ t))) (Nat.le_of_ble_eq_true rfl) hrt hrf hf
  have j29 : ∀ (t : SG) (q : KG), ph_ t ≤ 4 → rt_ t ≤ 944 → rf_ t ≤ 944 → fin = st4 (st3 (st2 (t, q))) → kw_G l D cX10_settle RX10 (Option.none : Option Jvm.ClassFile.FieldType) "settle" { frames := 0, cells := 0, slots := 0, locals := 0 } A K ad (hC t q) 0 0 29 [some (pr_ (8, 0))] [] := by
    intro t q hph hrt hrf hf
    refine kw_aload_n dX10_settle_29 rfl ?_
    refine kw_get dX10_settle_30 fl_X10_35 rfl rfl ?_
    refine kw_iconst (v := 2) dX10_settle_33 (by decide) ?_
    refine kw_icmp_ne (tgt := 63) dX10_settle_34 (by decide) (fun c34 => ?_) (fun c34 => ?_)
    · skip
      rw [st2, if_neg (fun z => c34 (by rw [z.1]; rfl))] at hf
      exact j63 t q hph hrt hrf hf
    · skip
      have e2 := nI_eq' (a := ph_ t) (b := 2) (by omega) (by decide) c34
      refine kw_aload_n dX10_settle_37 rfl ?_
      refine kw_get dX10_settle_38 fl_X10_85 rfl rfl ?_
      refine kw_aload_n dX10_settle_41 rfl ?_
      refine kw_get dX10_settle_42 fl_X10_49 rfl rfl ?_
      refine kw_icmp_lt (tgt := 63) dX10_settle_45 (by decide) (fun c45 => ?_) (fun c45 => ?_)
      · skip
        rw [st2, if_neg (fun z => absurd z.2 (Int32.not_le.mpr c45))] at hf
        exact j63 t q hph hrt hrf hf
      · skip
        rw [st2, if_pos ⟨e2, Int32.not_lt.mp c45⟩] at hf
        refine kw_aload_n dX10_settle_48 rfl ?_
        refine kw_iconst (v := 3) dX10_settle_49 (by decide) ?_
        refine kw_put dX10_settle_50 fl_X10_35 rfl (kw_ok_i _) (Nat.le_of_ble_eq_true rfl) ?_
        refine kw_heq (up_wph t q 3) ?_
        refine kw_aload_n dX10_settle_53 rfl ?_
        refine kw_aload_n dX10_settle_54 rfl ?_
        refine kw_get dX10_settle_55 fl_X10_49 rfl rfl ?_
        refine kw_iconst (v := 1) dX10_settle_58 (by decide) ?_
        refine kw_isub dX10_settle_59 ?_
        refine kw_put dX10_settle_60 fl_X10_85 rfl (kw_ok_i _) (Nat.le_of_ble_eq_true rfl) ?_
        refine kw_heq (up_wnx _ q _) ?_
        exact j63 (sN t 10 3) (kX q 0 (nI (end_ t) - 1)) (Nat.le_of_ble_eq_true rfl) hrt hrf hf
  refine kw_aload_n dX10_settle_0 rfl ?_
  refine kw_get dX10_settle_1 fl_X10_35 rfl rfl ?_
  refine kw_iconst (v := 1) dX10_settle_4 (by decide) ?_
  refine kw_icmp_ne (tgt := 29) dX10_settle_5 (by decide) (fun c5 => ?_) (fun c5 => ?_)
  · skip
    rw [st1, if_neg (fun z => c5 (by rw [z.1]; rfl))] at hfin
    exact j29 s k hph hrt hrf hfin
  · skip
    have e1 := nI_eq' (a := ph_ s) (b := 1) (by omega) (by decide) c5
    refine kw_aload_n dX10_settle_8 rfl ?_
    refine kw_get dX10_settle_9 fl_X10_38 rfl rfl ?_
    refine kw_aload_n dX10_settle_12 rfl ?_
    refine kw_get dX10_settle_13 fl_X10_41 rfl rfl ?_
    refine kw_icmp_lt (tgt := 29) dX10_settle_16 (by decide) (fun c16 => ?_) (fun c16 => ?_)
    · skip
      rw [st1, if_neg (fun z => absurd z.2 (Nat.not_le.mpr (nI_lt' (by omega) (by omega) c16)))] at hfin
      exact j29 s k hph hrt hrf hfin
    · skip
      have e16 : rt_ s ≤ rf_ s := nI_nlt' (a := rf_ s) (b := rt_ s) (by omega) (by omega) c16
      rw [st1, if_pos ⟨e1, e16⟩] at hfin
      refine kw_aload_n dX10_settle_19 rfl ?_
      refine kw_iconst (v := 2) dX10_settle_20 (by decide) ?_
      refine kw_put dX10_settle_21 fl_X10_35 rfl (kw_ok_i _) (Nat.le_of_ble_eq_true rfl) ?_
      refine kw_heq (up_wph s k 2) ?_
      refine kw_aload_n dX10_settle_24 rfl ?_
      refine kw_iconst (v := 0) dX10_settle_25 (by decide) ?_
      refine kw_put dX10_settle_26 fl_X10_85 rfl (kw_ok_i _) (Nat.le_of_ble_eq_true rfl) ?_
      refine kw_heq (up_wnx _ k 0) ?_
      exact j29 (sN s 10 2) (kX k 0 0) (Nat.le_of_ble_eq_true rfl) hrt hrf hfin
set_option maxHeartbeats 4000000 in
set_option maxRecDepth 100000 in
theorem w_mark (l : Launch) (s : SG) (k : KG) (hb : nb_ s ≤ 80) (hk : kidsOk s) (hrf : rf_ s < 944) (hb0 : rw_ s (rf_ s) < nb_ s) (hr : rt_ s + 4 ≤ 944) : kw_F l yX10_markFirst cX10_markFirst 2 (Option.none : Option Jvm.ClassFile.FieldType) { frames := 2, cells := 0, slots := 0, locals := 44 } [pr_ (8, 0)] (hC s k) none (hC (s_mark1 s) k) := by
  refine kw_M_of RX10 "markFirst" [some (pr_ (8, 0)), none] (by decide) rfl rfl rfl (Nat.le_of_ble_eq_true rfl) ?_
  intro D ad A
  refine kw_Kgen (fun K hK => ?_)
  obtain ⟨b, hbe⟩ : ∃ b, b = rw_ s (rf_ s) := ⟨_, rfl⟩
  unfold s_mark1 at hK
  rw [← hbe] at hK hb0
  have hc4 := (hk b hb0).1
  refine kw_aload_n dX10_markFirst_0 rfl ?_
  refine kw_get dX10_markFirst_1 fl_X10_19 rfl rfl ?_
  refine kw_get dX10_markFirst_4 fl_X10_52 rfl rfl ?_
  refine kw_aload_n dX10_markFirst_7 rfl ?_
  refine kw_get dX10_markFirst_8 fl_X10_11 rfl rfl ?_
  refine kw_aload_n dX10_markFirst_11 rfl ?_
  refine kw_get dX10_markFirst_12 fl_X10_38 rfl rfl ?_
  refine kw_ialdN dX10_markFirst_15 rfl hrf (by decide) ?_
  refine kw_top (v' := pi_ (nI b)) (by rw [hbe]) ?_
  refine kw_aaldN dX10_markFirst_16 rfl (by omega) (by decide) (if_pos hb0) ?_
  refine kw_astore_n dX10_markFirst_17 (Nat.le_of_ble_eq_true rfl) ?_
  refine kw_aload_n dX10_markFirst_18 rfl ?_
  refine kw_dup dX10_markFirst_19 rfl ?_
  refine kw_get dX10_markFirst_20 fl_X10_38 rfl rfl ?_
  refine kw_iconst (v := 1) dX10_markFirst_23 (by decide) ?_
  refine kw_iadd dX10_markFirst_24 ?_
  refine kw_top (v' := pi_ (nI (rf_ s + 1))) (by rw [← nI_1]) ?_
  refine kw_put dX10_markFirst_25 fl_X10_38 rfl (kw_ok_i _) (Nat.le_of_ble_eq_true rfl) ?_
  refine kw_heq (up_wrf s k _) ?_
  refine kw_aload_n dX10_markFirst_28 rfl ?_
  refine kw_get dX10_markFirst_29 fl_X10_56 (hC_bl (by exact hb0)) rfl ?_
  refine kw_if_ne (tgt := 53) dX10_markFirst_32 (by decide) (fun c32 => ?_) (fun c32 => ?_)
  · skip
    exact kw_vret dX10_markFirst_53 rfl (Nat.le_of_ble_eq_true rfl) (Nat.le_of_ble_eq_true rfl) (hK _ _ _ ⟨rfl, rfl, by rw [if_pos (b2_n0.mp c32)]⟩)
  · skip
    have e32 : mk_ s b = false := b2_0.mp c32
    rw [if_neg (by rw [e32]; decide)] at hK
    refine kw_aload_n dX10_markFirst_35 rfl ?_
    refine kw_iconst (v := 1) dX10_markFirst_36 (by decide) ?_
    refine kw_put dX10_markFirst_37 fl_X10_56 (hC_bl (by exact hb0)) (kw_ok_z (Or.inr rfl)) (Nat.le_of_ble_eq_true rfl) ?_
    refine kw_heq (up_bmk _ k b (by exact hb0) true) ?_
    refine kw_aload_n dX10_markFirst_40 rfl ?_
    refine kw_aload_n dX10_markFirst_41 rfl ?_
    refine kw_get dX10_markFirst_42 fl_X10_94 (hC_bl (by exact hb0)) rfl ?_
    refine kw_aload_n dX10_markFirst_45 rfl ?_
    refine kw_get dX10_markFirst_46 fl_X10_94 (hC_bl (by exact hb0)) rfl ?_
    refine kw_alen dX10_markFirst_49 (hC_ch (by exact hb0)) ?_
    refine kw_callVf (As := [pr_ (6, b), pi_ (nI (cm_ s b))]) (w_lines l (s_mark0 s b) k (6, b) (cm_ s b) (cm_ s b) (ch_ s b) (fun m => by rw [hC_ch (i := b) (by rw [nb_, s_lines_1 _ _ 1 (by decide)]; exact hb0), show cm_ (s_lines (s_mark0 s b) (ch_ s b) m) = cm_ s from s_lines_f _ _ 1 (by decide) m, show ch_ (s_lines (s_mark0 s b) (ch_ s b) m) = ch_ s from congrArg (fun x => x.2.2 0) (s_lines_ff (s_mark0 s b) (ch_ s b) m)]) (by omega) (Nat.le_refl _) (by show rt_ s + _ ≤ _; omega)) dX10_markFirst_50 cl_X10_97 rfl rfl rfl rfl (Nat.le_of_ble_eq_true rfl) ⟨(Nat.le_of_ble_eq_true rfl), (Nat.le_of_ble_eq_true rfl), (Nat.le_of_ble_eq_true rfl), (Nat.le_of_ble_eq_true rfl)⟩ ?_
    exact kw_vret dX10_markFirst_53 rfl (Nat.le_of_ble_eq_true rfl) (Nat.le_of_ble_eq_true rfl) (hK _ _ _ ⟨rfl, rfl, rfl⟩)
set_option maxHeartbeats 4000000 in
set_option maxRecDepth 100000 in
theorem w_clear (l : Launch) (s : SG) (k : KG) (hb : nb_ s ≤ 80) (b : Nat) (hbb : b < nb_ s) (hnx : nx_ k = nI b) (hw : wt_ s b < 2 ^ 31) : kw_F l yX10_clearNext cX10_clearNext 3 (Option.some Jvm.ClassFile.FieldType.boolean) { frames := 2, cells := 0, slots := 0, locals := 42 } [pr_ (8, 0)] (hC s k) (some (pi_ (b2 (clearF s b).1))) (hC (clearF s b).2 (kX k 0 (nI (b + 1)))) := by
  refine kw_M_of RX10 "clearNext" [some (pr_ (8, 0)), none, none] (by decide) rfl rfl rfl (Nat.le_of_ble_eq_true rfl) ?_
  intro D ad A
  refine kw_Kgen (fun K hK => ?_)
  unfold clearF at hK
  refine kw_aload_n dX10_clearNext_0 rfl ?_
  refine kw_get dX10_clearNext_1 fl_X10_85 rfl rfl ?_
  refine kw_top (v' := pi_ (nI b)) (by rw [hnx]) ?_
  refine kw_istore_n dX10_clearNext_4 (Nat.le_of_ble_eq_true rfl) ?_
  refine kw_aload_n dX10_clearNext_5 rfl ?_
  refine kw_dup dX10_clearNext_6 rfl ?_
  refine kw_get dX10_clearNext_7 fl_X10_85 rfl rfl ?_
  refine kw_iconst (v := 1) dX10_clearNext_10 (by decide) ?_
  refine kw_iadd dX10_clearNext_11 ?_
  refine kw_top (v' := pi_ (nI (b + 1))) (by rw [hnx, nI_1]) ?_
  refine kw_put dX10_clearNext_12 fl_X10_85 rfl (kw_ok_i _) (Nat.le_of_ble_eq_true rfl) ?_
  refine kw_heq (up_wnx s k _) ?_
  refine kw_aload_n dX10_clearNext_15 rfl ?_
  refine kw_get dX10_clearNext_16 fl_X10_19 rfl rfl ?_
  refine kw_get dX10_clearNext_19 fl_X10_52 rfl rfl ?_
  refine kw_iload_n dX10_clearNext_22 rfl ?_
  refine kw_aaldN dX10_clearNext_23 rfl (by omega) (by decide) (if_pos hbb) ?_
  refine kw_astore_n dX10_clearNext_24 (Nat.le_of_ble_eq_true rfl) ?_
  refine kw_aload_n dX10_clearNext_25 rfl ?_
  refine kw_get dX10_clearNext_26 fl_X10_56 (hC_bl hbb) rfl ?_
  refine kw_if_eq (tgt := 51) dX10_clearNext_29 (by decide) (fun c29 => ?_) (fun c29 => ?_)
  · skip
    refine kw_iconst (v := 1) dX10_clearNext_51 (by decide) ?_
    refine kw_goto (tgt := 56) dX10_clearNext_52 (by decide) ?_
    exact kw_zret dX10_clearNext_56 rfl (by decide) (Nat.le_of_ble_eq_true rfl) (Nat.le_of_ble_eq_true rfl) (hK _ _ _ ⟨rfl, by rw [if_neg (fun q => absurd q.1 (by rw [b2_0.mp c29]; decide))]; rfl, by rw [if_neg (fun q => absurd q.1 (by rw [b2_0.mp c29]; decide))]⟩)
  · skip
    have e29 := b2_n0.mp c29
    refine kw_aload_n dX10_clearNext_32 rfl ?_
    refine kw_get dX10_clearNext_33 fl_X10_101 (hC_bl hbb) rfl ?_
    refine kw_if_eq (tgt := 51) dX10_clearNext_36 (by decide) (fun c36 => ?_) (fun c36 => ?_)
    · skip
      have e36 : wt_ s b = 0 := nI_eq' (b := 0) hw (by decide) c36
      refine kw_iconst (v := 1) dX10_clearNext_51 (by decide) ?_
      refine kw_goto (tgt := 56) dX10_clearNext_52 (by decide) ?_
      exact kw_zret dX10_clearNext_56 rfl (by decide) (Nat.le_of_ble_eq_true rfl) (Nat.le_of_ble_eq_true rfl) (hK _ _ _ ⟨rfl, by rw [if_neg (fun q => absurd e36 q.2)]; rfl, by rw [if_neg (fun q => absurd e36 q.2)]⟩)
    · skip
      have e36 : wt_ s b ≠ 0 := fun q => c36 (by rw [q]; rfl)
      rw [if_pos ⟨e29, e36⟩] at hK
      by_cases hcut : cut_ s = 0
      · rw [if_pos hcut] at hK
        refine kw_aload_n dX10_clearNext_39 rfl ?_
        refine kw_get dX10_clearNext_40 fl_X10_19 rfl rfl ?_
        refine kw_iload_n dX10_clearNext_43 rfl ?_
        refine kw_iconst (v := 0) dX10_clearNext_44 (by decide) ?_
        refine kw_callVf (As := [pi_ (nI b), pi_ 0]) (t_await0 l s (kX k 0 (nI (b + 1))) hcut (nI b) 0) dX10_clearNext_45 cl_X10_104 rfl rfl rfl rfl (Nat.le_of_ble_eq_true rfl) ⟨(Nat.le_of_ble_eq_true rfl), (Nat.le_of_ble_eq_true rfl), (Nat.le_of_ble_eq_true rfl), (Nat.le_of_ble_eq_true rfl)⟩ ?_
        refine kw_if_eq (tgt := 55) dX10_clearNext_48 (by decide) (fun c48 => ?_) (fun c48 => ?_)
        · skip
          refine kw_iconst (v := 0) dX10_clearNext_55 (by decide) ?_
          exact kw_zret dX10_clearNext_56 rfl (by decide) (Nat.le_of_ble_eq_true rfl) (Nat.le_of_ble_eq_true rfl) (hK _ _ _ ⟨rfl, rfl, rfl⟩)
        · skip
          exact absurd rfl c48
      rw [if_neg hcut] at hK
      refine kw_aload_n dX10_clearNext_39 rfl ?_
      refine kw_get dX10_clearNext_40 fl_X10_19 rfl rfl ?_
      refine kw_iload_n dX10_clearNext_43 rfl ?_
      refine kw_iconst (v := 0) dX10_clearNext_44 (by decide) ?_
      refine kw_top (v' := pi_ (nI 0)) rfl ?_
      refine kw_callVf (As := [pi_ (nI b), pi_ (nI 0)]) (t_await1 l s (kX k 0 (nI (b + 1))) hcut hb b 0 hbb) dX10_clearNext_45 cl_X10_104 rfl rfl rfl rfl (Nat.le_of_ble_eq_true rfl) ⟨(Nat.le_of_ble_eq_true rfl), (Nat.le_of_ble_eq_true rfl), (Nat.le_of_ble_eq_true rfl), (Nat.le_of_ble_eq_true rfl)⟩ ?_
      refine kw_if_eq (tgt := 55) dX10_clearNext_48 (by decide) (fun c48 => ?_) (fun c48 => ?_)
      · skip
        exact absurd c48 (by decide)
      · skip
        refine kw_iconst (v := 1) dX10_clearNext_51 (by decide) ?_
        refine kw_goto (tgt := 56) dX10_clearNext_52 (by decide) ?_
        exact kw_zret dX10_clearNext_56 rfl (by decide) (Nat.le_of_ble_eq_true rfl) (Nat.le_of_ble_eq_true rfl) (hK _ _ _ ⟨rfl, rfl, rfl⟩)
set_option maxHeartbeats 4000000 in
set_option maxRecDepth 100000 in
theorem w_choose (l : Launch) (s : SG) (k : KG) (hb : nb_ s ≤ 80) (hp : np_ s ≤ 40) (b : Nat) (hn : th_ s b = true → nh_ s < 240) (hbb : b < nb_ s) (hnx : nx_ k = nI b) (hw : wt_ s b < 2 ^ 31) (hpk : pk_ s b < np_ s) : kw_F l yX10_chooseNext cX10_chooseNext 3 (Option.some Jvm.ClassFile.FieldType.boolean) { frames := 3, cells := 0, slots := 0, locals := 64 } [pr_ (8, 0)] (hC s k) (some (pi_ (b2 (chooseF s b).1))) (hC (chooseF s b).2 (kX (chooseK s k b) 0 (nI b - 1))) := by
  refine kw_M_of RX10 "chooseNext" [some (pr_ (8, 0)), none, none] (by decide) rfl rfl rfl (Nat.le_of_ble_eq_true rfl) ?_
  intro D ad A
  refine kw_Kgen (fun K hK => ?_)
  unfold chooseF chooseK at hK
  refine kw_aload_n dX10_chooseNext_0 rfl ?_
  refine kw_get dX10_chooseNext_1 fl_X10_85 rfl rfl ?_
  refine kw_top (v' := pi_ (nI b)) (by rw [hnx]) ?_
  refine kw_istore_n dX10_chooseNext_4 (Nat.le_of_ble_eq_true rfl) ?_
  refine kw_aload_n dX10_chooseNext_5 rfl ?_
  refine kw_dup dX10_chooseNext_6 rfl ?_
  refine kw_get dX10_chooseNext_7 fl_X10_85 rfl rfl ?_
  refine kw_iconst (v := 1) dX10_chooseNext_10 (by decide) ?_
  refine kw_isub dX10_chooseNext_11 ?_
  refine kw_top (v' := pi_ (nI b - 1)) (by rw [hnx]) ?_
  refine kw_put dX10_chooseNext_12 fl_X10_85 rfl (kw_ok_i _) (Nat.le_of_ble_eq_true rfl) ?_
  refine kw_heq (up_wnx s k _) ?_
  refine kw_aload_n dX10_chooseNext_15 rfl ?_
  refine kw_get dX10_chooseNext_16 fl_X10_19 rfl rfl ?_
  refine kw_get dX10_chooseNext_19 fl_X10_52 rfl rfl ?_
  refine kw_iload_n dX10_chooseNext_22 rfl ?_
  refine kw_aaldN dX10_chooseNext_23 rfl (by omega) (by decide) (if_pos hbb) ?_
  refine kw_astore_n dX10_chooseNext_24 (Nat.le_of_ble_eq_true rfl) ?_
  refine kw_aload_n dX10_chooseNext_25 rfl ?_
  refine kw_get dX10_chooseNext_26 fl_X10_108 (hC_bl hbb) rfl ?_
  refine kw_if_ne (tgt := 39) dX10_chooseNext_29 (by decide) (fun c29 => ?_) (fun c29 => ?_)
  · skip
    have e29 := not_b2n c29
    refine kw_iconst (v := 1) dX10_chooseNext_39 (by decide) ?_
    exact kw_zret dX10_chooseNext_40 rfl (by decide) (Nat.le_of_ble_eq_true rfl) (Nat.le_of_ble_eq_true rfl) (hK _ _ _ ⟨rfl, by rw [if_neg (fun q => absurd q.1 (by rw [e29]; decide))]; rfl, by rw [if_neg (fun q => absurd q.1 (by rw [e29]; decide)), if_neg (fun q => absurd q.1 (by rw [e29]; decide))]⟩)
  · skip
    have e29 := not_b2 c29
    refine kw_aload_n dX10_chooseNext_32 rfl ?_
    refine kw_get dX10_chooseNext_33 fl_X10_56 (hC_bl hbb) rfl ?_
    refine kw_if_eq (tgt := 41) dX10_chooseNext_36 (by decide) (fun c36 => ?_) (fun c36 => ?_)
    · skip
      have e36 := b2_0.mp c36
      rw [if_pos ⟨e29, e36⟩] at hK
      refine kw_aload_n dX10_chooseNext_41 rfl ?_
      refine kw_get dX10_chooseNext_42 fl_X10_101 (hC_bl hbb) rfl ?_
      refine kw_if_le (tgt := 59) dX10_chooseNext_45 (by decide) (fun c45 => ?_) (fun c45 => ?_)
      · skip
        have e45 : ¬ 0 < wt_ s b := fun q => absurd c45 (nI_nle q hw)
        rw [if_neg (fun z : th_ s b = true ∧ mk_ s b = false ∧ ¬ cut_ s = 0 ∧ 0 < wt_ s b => e45 z.2.2.2)] at hK
        by_cases hcut : cut_ s = 0
        · rw [if_pos hcut] at hK
          refine kw_aload_n dX10_chooseNext_59 rfl ?_
          refine kw_get dX10_chooseNext_60 fl_X10_19 rfl rfl ?_
          refine kw_iload_n dX10_chooseNext_63 rfl ?_
          refine kw_aload_n dX10_chooseNext_64 rfl ?_
          refine kw_get dX10_chooseNext_65 fl_X10_32 rfl rfl ?_
          refine kw_callVf (As := [pi_ (nI b), pi_ (nI (nsw_ s))]) (t_await0 l s (kX k 0 (nI b - 1)) hcut (nI b) _) dX10_chooseNext_68 cl_X10_104 rfl rfl rfl rfl (Nat.le_of_ble_eq_true rfl) ⟨(Nat.le_of_ble_eq_true rfl), (Nat.le_of_ble_eq_true rfl), (Nat.le_of_ble_eq_true rfl), (Nat.le_of_ble_eq_true rfl)⟩ ?_
          exact kw_zret dX10_chooseNext_71 rfl (by decide) (Nat.le_of_ble_eq_true rfl) (Nat.le_of_ble_eq_true rfl) (hK _ _ _ ⟨rfl, rfl, rfl⟩)
        rw [if_neg hcut, if_neg e45] at hK
        refine kw_aload_n dX10_chooseNext_59 rfl ?_
        refine kw_get dX10_chooseNext_60 fl_X10_19 rfl rfl ?_
        refine kw_iload_n dX10_chooseNext_63 rfl ?_
        refine kw_aload_n dX10_chooseNext_64 rfl ?_
        refine kw_get dX10_chooseNext_65 fl_X10_32 rfl rfl ?_
        refine kw_callVf (As := [pi_ (nI b), pi_ (nI (nsw_ s))]) (t_await1 l s (kX k 0 (nI b - 1)) hcut hb b (nsw_ s) hbb) dX10_chooseNext_68 cl_X10_104 rfl rfl rfl rfl (Nat.le_of_ble_eq_true rfl) ⟨(Nat.le_of_ble_eq_true rfl), (Nat.le_of_ble_eq_true rfl), (Nat.le_of_ble_eq_true rfl), (Nat.le_of_ble_eq_true rfl)⟩ ?_
        exact kw_zret dX10_chooseNext_71 rfl (by decide) (Nat.le_of_ble_eq_true rfl) (Nat.le_of_ble_eq_true rfl) (hK _ _ _ ⟨rfl, rfl, rfl⟩)
      · skip
        have e45 : 0 < wt_ s b := Nat.pos_of_ne_zero (fun q => c45 (by rw [q]; decide))
        by_cases hcut : cut_ s = 0
        · rw [if_pos hcut, if_neg (fun z : th_ s b = true ∧ mk_ s b = false ∧ ¬ cut_ s = 0 ∧ 0 < wt_ s b => z.2.2.1 hcut)] at hK
          refine kw_aload_n dX10_chooseNext_48 rfl ?_
          refine kw_get dX10_chooseNext_49 fl_X10_19 rfl rfl ?_
          refine kw_iload_n dX10_chooseNext_52 rfl ?_
          refine kw_callVf (As := [pi_ (nI b)]) (t_free0 l s (kX k 0 (nI b - 1)) hcut (nI b)) dX10_chooseNext_53 cl_X10_111 rfl rfl rfl rfl (Nat.le_of_ble_eq_true rfl) ⟨(Nat.le_of_ble_eq_true rfl), (Nat.le_of_ble_eq_true rfl), (Nat.le_of_ble_eq_true rfl), (Nat.le_of_ble_eq_true rfl)⟩ ?_
          refine kw_goto (tgt := 71) dX10_chooseNext_56 (by decide) ?_
          exact kw_zret dX10_chooseNext_71 rfl (by decide) (Nat.le_of_ble_eq_true rfl) (Nat.le_of_ble_eq_true rfl) (hK _ _ _ ⟨rfl, rfl, rfl⟩)
        rw [if_neg hcut, if_pos e45, if_pos ⟨e29, e36, hcut, e45⟩] at hK
        refine kw_aload_n dX10_chooseNext_48 rfl ?_
        refine kw_get dX10_chooseNext_49 fl_X10_19 rfl rfl ?_
        refine kw_iload_n dX10_chooseNext_52 rfl ?_
        refine kw_callVf (As := [pi_ (nI b)]) (t_free1 l s (kX k 0 (nI b - 1)) hcut hb hp (hn e29) b hbb hpk) dX10_chooseNext_53 cl_X10_111 rfl rfl rfl rfl (Nat.le_of_ble_eq_true rfl) ⟨(Nat.le_of_ble_eq_true rfl), (Nat.le_of_ble_eq_true rfl), (Nat.le_of_ble_eq_true rfl), (Nat.le_of_ble_eq_true rfl)⟩ ?_
        refine kw_goto (tgt := 71) dX10_chooseNext_56 (by decide) ?_
        exact kw_zret dX10_chooseNext_71 rfl (by decide) (Nat.le_of_ble_eq_true rfl) (Nat.le_of_ble_eq_true rfl) (hK _ _ _ ⟨rfl, rfl, rfl⟩)
    · skip
      have e36 := b2_n0.mp c36
      refine kw_iconst (v := 1) dX10_chooseNext_39 (by decide) ?_
      exact kw_zret dX10_chooseNext_40 rfl (by decide) (Nat.le_of_ble_eq_true rfl) (Nat.le_of_ble_eq_true rfl) (hK _ _ _ ⟨rfl, by rw [if_neg (fun q => absurd q.2 (by rw [e36]; decide))]; rfl, by rw [if_neg (fun q => absurd q.2 (by rw [e36]; decide)), if_neg (fun q => absurd q.2.1 (by rw [e36]; decide))]⟩)
