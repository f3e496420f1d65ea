/-! WHAT THE CALLS ANSWER, for both sides; the class's calls, 1 -/
def a_at (s : SG) (t : Int64) : Int32 × SG := if dn_ s = true then (-106, s) else if t < now_ s ∨ 1000000000000 < t then (-102, s) else (1, sNow s t)
def ffN (p : Nat → Bool) : Nat → Nat → Nat
  | 0, i => i
  | n + 1, i => if p i then i else ffN p n (i + 1)
def frS (s : SG) : Nat := ffN (fun j => !sv_ s j) 4 0
def a_begin (s : SG) (x : Int32) : Int32 × SG := if dn_ s = true then (-106, s) else if x < 1 ∨ 1000000 < x then (-102, s) else if frS s = 4 then (-104, s) else (nI (frS s), s_arr s (frS s) (cl_ x) (now_ s))
def a_give (s : SG) (x : Int32) : Int32 × SG := if dn_ s = true then (-106, s) else if svOk s x = true then (nI (um_ s (cl_ x)), sGb s 4 (va_up (sv_ s) (cl_ x) false)) else (-101, s)
def a_drop (s : SG) (x : Int32) : Int32 × SG := if dn_ s = true then (-106, s) else if snOk s x = true then (if cut_ s = 0 then (-105, s_lost s) else (1, s_rmv s (cl_ x))) else (-101, s)
def a_share (s : SG) (x : Int32) : Int32 × SG := if dn_ s = true then (-106, s) else if x < 0 ∨ 100 < x then (-102, s) else (nI (shr_ s), sN s 6 (cl_ x))
def a_cut (s : SG) (x : Int32) : Int32 × SG := if dn_ s = true then (-106, s) else if x < -1 ∨ 500 < x then (-102, s) else (1, sX s 0 x)
def a_open (s : SG) : Int32 × SG := if dn_ s = true then (nI (waitN s), sDn s false) else (-103, s)
def gr_ (x : Int32) : Int32 := if x = 5 then 15 else 100
def a_rule (s : SG) (x n : Int32) : Int32 × SG := if dn_ s = true then (-106, s) else if x < 0 ∨ 6 ≤ x ∨ n < 0 ∨ gr_ x < n then (-102, s) else (nI (ru_ s (cl_ x)), sF s 18 (va_up (ru_ s) (cl_ x) (cl_ n)))
def a_count (s : SG) (x : Int32) : Int32 := if x = 0 then nI (nb_ s) else if x = 1 then nI (cntN (fun j => th_ s j) (nb_ s)) else if x = 2 then nI (waitN s) else if x = 3 then nI (thereN s) else if x = 4 then nI (np_ s) else if x = 5 then nI (cntN (fun j => !gn_ s j) (np_ s)) else if x = 6 then nI (cntN (fun j => sv_ s j) 4) else if x = 7 then nI (nsw_ s) else if x = 8 then wr_ s else if x = 9 then nI (nrv_ s) else if x = 10 then nI (nfr_ s) else if x = 11 then nI (nan_ s) else if x = 12 then nI (nh_ s) else if x = 13 then b2 (dn_ s) else -102
def a_key (s : SG) (x : Int32) : Int64 := if x < 0 ∨ nI (nb_ s) ≤ x then 0 else ky_ s (cl_ x)
def a_time (s : SG) (x : Int32) : Int64 := if snOk s x = true then tm_ s (cl_ x) else 0
set_option maxHeartbeats 4000000 in
set_option maxRecDepth 100000 in
theorem P_at (l : Launch) (s : SG) (k : KG) (t : Int64) : kw_F l yX11_at cX11_at 3 (Option.some Jvm.ClassFile.FieldType.int) { frames := 0, cells := 0, slots := 0, locals := 0 } [pr_ (0, 0), pl_ t] (hC s k) (some (pi_ (a_at s t).1)) (hC (a_at s t).2 k) := by
  refine kw_M_of RX11 "at" [some (pr_ (0, 0)), some (pl_ t), none] (by decide) rfl rfl rfl (Nat.le_of_ble_eq_true rfl) ?_
  intro D ad A
  refine kw_Kgen (fun K hK => ?_)
  refine kw_aload_n dX11_at_0 rfl ?_
  refine kw_get dX11_at_1 fl_X11_10 rfl rfl ?_
  refine kw_get dX11_at_4 fl_X11_80 rfl rfl ?_
  refine kw_if_eq (tgt := 13) dX11_at_7 (by decide) (fun c7 => ?_) (fun c7 => ?_)
  · skip
    have hd : ¬ dn_ s = true := by rw [b2_0.mp c7]; decide
    refine kw_lload_n dX11_at_13 rfl ?_
    refine kw_aload_n dX11_at_14 rfl ?_
    refine kw_get dX11_at_15 fl_X11_76 rfl rfl ?_
    refine kw_lcmp dX11_at_18 ?_
    refine kw_if_lt (tgt := 30) dX11_at_19 (by decide) (fun c19 => ?_) (fun c19 => ?_)
    · skip
      refine kw_bipush (v := (-102)) dX11_at_30 (by decide) ?_
      exact kw_iret dX11_at_32 rfl (Nat.le_of_ble_eq_true rfl) (Nat.le_of_ble_eq_true rfl) (hK _ _ _ ⟨rfl, by rw [a_at, if_neg hd, if_pos (Or.inl ((lg_cmp_lt _ _).mp c19))], by rw [a_at, if_neg hd, if_pos (Or.inl ((lg_cmp_lt _ _).mp c19))]⟩)
    · skip
      refine kw_lload_n dX11_at_22 rfl ?_
      refine kw_ldc2 dX11_at_23 kt_301 ?_
      refine kw_lcmp dX11_at_26 ?_
      refine kw_if_le (tgt := 33) dX11_at_27 (by decide) (fun c27 => ?_) (fun c27 => ?_)
      · skip
        refine kw_aload_n dX11_at_33 rfl ?_
        refine kw_lload_n dX11_at_34 rfl ?_
        refine kw_put dX11_at_35 fl_X11_76 rfl (kw_ok_l _) (Nat.le_of_ble_eq_true rfl) ?_
        refine kw_heq (up_now s k t) ?_
        refine kw_iconst (v := 1) dX11_at_38 (by decide) ?_
        exact kw_iret dX11_at_39 rfl (Nat.le_of_ble_eq_true rfl) (Nat.le_of_ble_eq_true rfl) (hK _ _ _ ⟨rfl, by rw [a_at, if_neg hd, if_neg (fun q => q.elim (fun z => c19 ((lg_cmp_lt _ _).mpr z)) (fun z => Int64.not_lt.mpr ((lg_cmp_le _ _).mp c27) z))], by rw [a_at, if_neg hd, if_neg (fun q => q.elim (fun z => c19 ((lg_cmp_lt _ _).mpr z)) (fun z => Int64.not_lt.mpr ((lg_cmp_le _ _).mp c27) z))]⟩)
      · skip
        refine kw_bipush (v := (-102)) dX11_at_30 (by decide) ?_
        exact kw_iret dX11_at_32 rfl (Nat.le_of_ble_eq_true rfl) (Nat.le_of_ble_eq_true rfl) (hK _ _ _ ⟨rfl, by rw [a_at, if_neg hd, if_pos (Or.inr (Int64.not_le.mp (fun q => c27 ((lg_cmp_le _ _).mpr q))))], by rw [a_at, if_neg hd, if_pos (Or.inr (Int64.not_le.mp (fun q => c27 ((lg_cmp_le _ _).mpr q))))]⟩)
  · skip
    refine kw_bipush (v := (-106)) dX11_at_10 (by decide) ?_
    exact kw_iret dX11_at_12 rfl (Nat.le_of_ble_eq_true rfl) (Nat.le_of_ble_eq_true rfl) (hK _ _ _ ⟨rfl, by rw [a_at, if_pos (b2_n0.mp c7)], by rw [a_at, if_pos (b2_n0.mp c7)]⟩)
set_option maxHeartbeats 4000000 in
set_option maxRecDepth 100000 in
theorem P_begin (l : Launch) (s : SG) (k : KG) (x : Int32) : kw_F l yX11_begin cX11_begin 3 (Option.some Jvm.ClassFile.FieldType.int) { frames := 2, cells := 0, slots := 0, locals := 45 } [pr_ (0, 0), pi_ x] (hC s k) (some (pi_ (a_begin s x).1)) (hC (a_begin s x).2 k) := by
  refine kw_M_of RX11 "begin" [some (pr_ (0, 0)), some (pi_ x), none] (by decide) rfl rfl rfl (Nat.le_of_ble_eq_true rfl) ?_
  intro D ad A
  refine kw_Kgen (fun K hK => ?_)
  refine kw_aload_n dX11_begin_0 rfl ?_
  refine kw_get dX11_begin_1 fl_X11_10 rfl rfl ?_
  refine kw_get dX11_begin_4 fl_X11_80 rfl rfl ?_
  refine kw_if_eq (tgt := 13) dX11_begin_7 (by decide) (fun c7 => ?_) (fun c7 => ?_)
  · skip
    have hd : ¬ dn_ s = true := by rw [b2_0.mp c7]; decide
    refine kw_iload_n dX11_begin_13 rfl ?_
    refine kw_iconst (v := 1) dX11_begin_14 (by decide) ?_
    refine kw_icmp_lt (tgt := 24) dX11_begin_15 (by decide) (fun c15 => ?_) (fun c15 => ?_)
    · skip
      refine kw_bipush (v := (-102)) dX11_begin_24 (by decide) ?_
      exact kw_iret dX11_begin_26 rfl (Nat.le_of_ble_eq_true rfl) (Nat.le_of_ble_eq_true rfl) (hK _ _ _ ⟨rfl, by rw [a_begin, if_neg hd, if_pos (Or.inl c15)], by rw [a_begin, if_neg hd, if_pos (Or.inl c15)]⟩)
    · skip
      refine kw_iload_n dX11_begin_18 rfl ?_
      refine kw_ldc dX11_begin_19 kt_306 ?_
      refine kw_icmp_le (tgt := 27) dX11_begin_21 (by decide) (fun c21 => ?_) (fun c21 => ?_)
      · skip
        obtain ⟨y, hy1, rfl⟩ := nI_of2 (M := 1000000) (n := 1000000) (by decide) (fun q => c15 (Int32.lt_trans q (by decide))) c21
        rw [a_begin, if_neg hd, if_neg (fun q => q.elim c15 (fun z => absurd c21 (Int32.not_le.mpr z))), cl_, nI_clamp (by omega)] at hK
        have loop : ∀ (n_ : Nat) (j : Nat), 4 - j < n_ → j ≤ 4 → frS s = ffN (fun j => !sv_ s j) (4 - j) j → kw_G l D cX11_begin RX11 (Option.some Jvm.ClassFile.FieldType.int) "begin" { frames := 2, cells := 0, slots := 0, locals := 45 } A K ad (hC s k) 0 0 29 [some (pr_ (0, 0)), some (pi_ (nI y)), some (pi_ (nI j))] [] := by
          intro n_
          induction n_ with
          | zero =>
            intro j hm_
            exact absurd hm_ (Nat.not_lt_zero _)
          | succ n_ ih =>
            intro j hm_ hj hf
            refine kw_iload_n dX11_begin_29 rfl ?_
            refine kw_iconst (v := 4) dX11_begin_30 (by decide) ?_
            refine kw_icmp_ge (tgt := 68) dX11_begin_31 (by decide) (fun c31 => ?_) (fun c31 => ?_)
            · skip
              have e : j = 4 := Nat.le_antisymm hj (nI_le' (a := 4) (by omega) (by omega) c31)
              have e4 : frS s = 4 := by rw [hf, e]; rfl
              refine kw_bipush (v := (-104)) dX11_begin_68 (by decide) ?_
              exact kw_iret dX11_begin_70 rfl (Nat.le_of_ble_eq_true rfl) (Nat.le_of_ble_eq_true rfl) (hK _ _ _ ⟨rfl, by rw [if_pos e4], by rw [if_pos e4]⟩)
            · skip
              have hlt : j < 4 := nI_nle' (a := 4) (by omega) (by omega) c31
              have e1 : 4 - j = (4 - (j + 1)) + 1 := by omega
              rw [e1, ffN] at hf
              refine kw_aload_n dX11_begin_34 rfl ?_
              refine kw_get dX11_begin_35 fl_X11_52 rfl rfl ?_
              refine kw_iload_n dX11_begin_38 rfl ?_
              refine kw_aaldN dX11_begin_39 rfl hlt (by decide) (if_pos hlt) ?_
              refine kw_get dX11_begin_40 fl_X11_87 (hC_sa hlt) rfl ?_
              refine kw_if_ne (tgt := 62) dX11_begin_43 (by decide) (fun c43 => ?_) (fun c43 => ?_)
              · skip
                rw [b2_n0.mp c43] at hf
                refine kw_iinc dX11_begin_62 rfl (nI_i j) ?_
                refine kw_goto (tgt := 29) dX11_begin_65 (by decide) ?_
                exact ih (j + 1) (by omega) (by omega) hf
              · skip
                rw [b2_0.mp c43] at hf
                have e5 : frS s = j := hf
                refine kw_aload_n dX11_begin_46 rfl ?_
                refine kw_get dX11_begin_47 fl_X11_52 rfl rfl ?_
                refine kw_iload_n dX11_begin_50 rfl ?_
                refine kw_aaldN dX11_begin_51 rfl hlt (by decide) (if_pos hlt) ?_
                refine kw_iload_n dX11_begin_52 rfl ?_
                refine kw_aload_n dX11_begin_53 rfl ?_
                refine kw_get dX11_begin_54 fl_X11_76 rfl rfl ?_
                refine kw_callVf (As := [pi_ (nI y), pl_ (now_ s)]) (v_arrive l s k j hlt y (now_ s)) dX11_begin_57 cl_X11_90 (hC_sa hlt) rfl rfl rfl (Nat.le_of_ble_eq_true rfl) ⟨(Nat.le_of_ble_eq_true rfl), (Nat.le_of_ble_eq_true rfl), (Nat.le_of_ble_eq_true rfl), (Nat.le_of_ble_eq_true rfl)⟩ ?_
                refine kw_iload_n dX11_begin_60 rfl ?_
                exact kw_iret dX11_begin_61 rfl (Nat.le_of_ble_eq_true rfl) (Nat.le_of_ble_eq_true rfl) (hK _ _ _ ⟨rfl, by rw [if_neg (by omega), e5], by rw [if_neg (by omega), e5]⟩)
        refine kw_iconst (v := 0) dX11_begin_27 (by decide) ?_
        refine kw_istore_n dX11_begin_28 (Nat.le_of_ble_eq_true rfl) ?_
        exact loop 5 0 (by omega) (by omega) rfl
      · skip
        refine kw_bipush (v := (-102)) dX11_begin_24 (by decide) ?_
        exact kw_iret dX11_begin_26 rfl (Nat.le_of_ble_eq_true rfl) (Nat.le_of_ble_eq_true rfl) (hK _ _ _ ⟨rfl, by rw [a_begin, if_neg hd, if_pos (Or.inr (Int32.not_le.mp c21))], by rw [a_begin, if_neg hd, if_pos (Or.inr (Int32.not_le.mp c21))]⟩)
  · skip
    refine kw_bipush (v := (-106)) dX11_begin_10 (by decide) ?_
    exact kw_iret dX11_begin_12 rfl (Nat.le_of_ble_eq_true rfl) (Nat.le_of_ble_eq_true rfl) (hK _ _ _ ⟨rfl, by rw [a_begin, if_pos (b2_n0.mp c7)], by rw [a_begin, if_pos (b2_n0.mp c7)]⟩)
set_option maxHeartbeats 4000000 in
set_option maxRecDepth 100000 in
theorem P_give (l : Launch) (s : SG) (k : KG) (x : Int32) : kw_F l yX11_give cX11_give 3 (Option.some Jvm.ClassFile.FieldType.int) { frames := 1, cells := 0, slots := 0, locals := 22 } [pr_ (0, 0), pi_ x] (hC s k) (some (pi_ (a_give s x).1)) (hC (a_give s x).2 k) := by
  refine kw_M_of RX11 "give" [some (pr_ (0, 0)), some (pi_ x), none] (by decide) rfl rfl rfl (Nat.le_of_ble_eq_true rfl) ?_
  intro D ad A
  refine kw_Kgen (fun K hK => ?_)
  refine kw_aload_n dX11_give_0 rfl ?_
  refine kw_get dX11_give_1 fl_X11_10 rfl rfl ?_
  refine kw_get dX11_give_4 fl_X11_80 rfl rfl ?_
  refine kw_if_eq (tgt := 13) dX11_give_7 (by decide) (fun c7 => ?_) (fun c7 => ?_)
  · skip
    have hd : ¬ dn_ s = true := by rw [b2_0.mp c7]; decide
    rw [a_give, if_neg hd] at hK
    rcases ix_cases (p := sv_ s) (n := 4) (by decide) x with ⟨h1, h2⟩ | ⟨j, hj, rfl, h3, h4, h5⟩
    · rw [if_neg (by rw [svOk, h1]; decide)] at hK
      refine kw_aload_n dX11_give_13 rfl ?_
      refine kw_iload_n dX11_give_14 rfl ?_
      refine kw_callVf (As := [pi_ x]) (o_sv0 l s k x h2) dX11_give_15 cl_X11_180 rfl rfl rfl rfl (Nat.le_of_ble_eq_true rfl) ⟨(Nat.le_of_ble_eq_true rfl), (Nat.le_of_ble_eq_true rfl), (Nat.le_of_ble_eq_true rfl), (Nat.le_of_ble_eq_true rfl)⟩ ?_
      refine kw_astore_n dX11_give_18 (Nat.le_of_ble_eq_true rfl) ?_
      refine kw_aload_n dX11_give_19 rfl ?_
      refine kw_ifnonnull (tgt := 26) dX11_give_20 (by decide) (fun c20 => ?_) (fun c20 => ?_)
      · skip
        exact absurd rfl c20
      · skip
        refine kw_bipush (v := (-101)) dX11_give_23 (by decide) ?_
        exact kw_iret dX11_give_25 rfl (Nat.le_of_ble_eq_true rfl) (Nat.le_of_ble_eq_true rfl) (hK _ _ _ ⟨rfl, rfl, rfl⟩)
    · rw [if_pos (by rw [svOk, h4]), h5] at hK
      refine kw_aload_n dX11_give_13 rfl ?_
      refine kw_iload_n dX11_give_14 rfl ?_
      refine kw_callVf (As := [pi_ (nI j)]) (o_sv1 l s k j hj h3) dX11_give_15 cl_X11_180 rfl rfl rfl rfl (Nat.le_of_ble_eq_true rfl) ⟨(Nat.le_of_ble_eq_true rfl), (Nat.le_of_ble_eq_true rfl), (Nat.le_of_ble_eq_true rfl), (Nat.le_of_ble_eq_true rfl)⟩ ?_
      refine kw_astore_n dX11_give_18 (Nat.le_of_ble_eq_true rfl) ?_
      refine kw_aload_n dX11_give_19 rfl ?_
      refine kw_ifnonnull (tgt := 26) dX11_give_20 (by decide) (fun c20 => ?_) (fun c20 => ?_)
      · skip
        refine kw_aload_n dX11_give_26 rfl ?_
        refine kw_iconst (v := 0) dX11_give_27 (by decide) ?_
        refine kw_put dX11_give_28 fl_X11_87 (hC_sa hj) (kw_ok_z (Or.inl rfl)) (Nat.le_of_ble_eq_true rfl) ?_
        refine kw_heq (up_ssv s k j hj false) ?_
        refine kw_aload_n dX11_give_31 rfl ?_
        refine kw_get dX11_give_32 fl_X11_135 (hC_sa hj) rfl ?_
        exact kw_iret dX11_give_35 rfl (Nat.le_of_ble_eq_true rfl) (Nat.le_of_ble_eq_true rfl) (hK _ _ _ ⟨rfl, rfl, rfl⟩)
      · skip
        exact absurd c20 (fun z => by cases z)
  · skip
    refine kw_bipush (v := (-106)) dX11_give_10 (by decide) ?_
    exact kw_iret dX11_give_12 rfl (Nat.le_of_ble_eq_true rfl) (Nat.le_of_ble_eq_true rfl) (hK _ _ _ ⟨rfl, by rw [a_give, if_pos (b2_n0.mp c7)], by rw [a_give, if_pos (b2_n0.mp c7)]⟩)
set_option maxHeartbeats 4000000 in
set_option maxRecDepth 100000 in
theorem P_drop (l : Launch) (s : SG) (k : KG) (hns : ns_ s ≤ 40) (hn : nh_ s < 240 ∨ ∀ j, j < ns_ s → kp_ s j = false) (x : Int32) : kw_F l yX11_drop cX11_drop 2 (Option.some Jvm.ClassFile.FieldType.int) { frames := 3, cells := 0, slots := 0, locals := 63 } [pr_ (0, 0), pi_ x] (hC s k) (some (pi_ (a_drop s x).1)) (hC (a_drop s x).2 k) := by
  refine kw_M_of RX11 "drop" [some (pr_ (0, 0)), some (pi_ x)] (by decide) rfl rfl rfl (Nat.le_of_ble_eq_true rfl) ?_
  intro D ad A
  refine kw_Kgen (fun K hK => ?_)
  refine kw_aload_n dX11_drop_0 rfl ?_
  refine kw_get dX11_drop_1 fl_X11_10 rfl rfl ?_
  refine kw_get dX11_drop_4 fl_X11_80 rfl rfl ?_
  refine kw_if_eq (tgt := 13) dX11_drop_7 (by decide) (fun c7 => ?_) (fun c7 => ?_)
  · skip
    have hd : ¬ dn_ s = true := by rw [b2_0.mp c7]; decide
    rw [a_drop, if_neg hd] at hK
    rcases ix_cases (p := kp_ s) (n := ns_ s) (by omega) x with ⟨h1, h2⟩ | ⟨j, hj, rfl, h3, h4, h5⟩
    · rw [if_neg (by rw [snOk, h1]; decide)] at hK
      refine kw_aload_n dX11_drop_13 rfl ?_
      refine kw_iload_n dX11_drop_14 rfl ?_
      refine kw_callVf (As := [pi_ x]) (o_snIs l s k hns x) dX11_drop_15 cl_X11_203 rfl rfl rfl rfl (Nat.le_of_ble_eq_true rfl) ⟨(Nat.le_of_ble_eq_true rfl), (Nat.le_of_ble_eq_true rfl), (Nat.le_of_ble_eq_true rfl), (Nat.le_of_ble_eq_true rfl)⟩ ?_
      refine kw_if_ne (tgt := 24) dX11_drop_18 (by decide) (fun c18 => ?_) (fun c18 => ?_)
      · skip
        exact absurd (by rw [snOk, h1]; rfl) c18
      · skip
        refine kw_bipush (v := (-101)) dX11_drop_21 (by decide) ?_
        exact kw_iret dX11_drop_23 rfl (Nat.le_of_ble_eq_true rfl) (Nat.le_of_ble_eq_true rfl) (hK _ _ _ ⟨rfl, rfl, rfl⟩)
    · rw [if_pos (by rw [snOk, h4]), h5] at hK
      have hnh : nh_ s < 240 := hn.elim id (fun q => absurd (q j hj) (by rw [h3]; decide))
      by_cases hcut : cut_ s = 0
      · rw [if_pos hcut] at hK
        refine kw_aload_n dX11_drop_13 rfl ?_
        refine kw_iload_n dX11_drop_14 rfl ?_
        refine kw_callVf (As := [pi_ (nI j)]) (o_snIs l s k hns (nI j)) dX11_drop_15 cl_X11_203 rfl rfl rfl rfl (Nat.le_of_ble_eq_true rfl) ⟨(Nat.le_of_ble_eq_true rfl), (Nat.le_of_ble_eq_true rfl), (Nat.le_of_ble_eq_true rfl), (Nat.le_of_ble_eq_true rfl)⟩ ?_
        refine kw_if_ne (tgt := 24) dX11_drop_18 (by decide) (fun c18 => ?_) (fun c18 => ?_)
        · skip
          refine kw_aload_n dX11_drop_24 rfl ?_
          refine kw_iload_n dX11_drop_25 rfl ?_
          refine kw_callVf (As := [pi_ (nI j)]) (o_rm0 l s k hcut (nI j)) dX11_drop_26 cl_X11_206 rfl rfl rfl rfl (Nat.le_of_ble_eq_true rfl) ⟨(Nat.le_of_ble_eq_true rfl), (Nat.le_of_ble_eq_true rfl), (Nat.le_of_ble_eq_true rfl), (Nat.le_of_ble_eq_true rfl)⟩ ?_
          refine kw_if_eq (tgt := 36) dX11_drop_29 (by decide) (fun c29 => ?_) (fun c29 => ?_)
          · skip
            refine kw_aload_n dX11_drop_36 rfl ?_
            refine kw_callVf (As := []) (o_lose l (s_w0 s) k) dX11_drop_37 cl_X11_151 rfl rfl rfl rfl (Nat.le_of_ble_eq_true rfl) ⟨(Nat.le_of_ble_eq_true rfl), (Nat.le_of_ble_eq_true rfl), (Nat.le_of_ble_eq_true rfl), (Nat.le_of_ble_eq_true rfl)⟩ ?_
            exact kw_iret dX11_drop_40 rfl (Nat.le_of_ble_eq_true rfl) (Nat.le_of_ble_eq_true rfl) (hK _ _ _ ⟨rfl, rfl, rfl⟩)
          · skip
            exact absurd rfl c29
        · skip
          exact absurd c18 (by rw [snOk, h4]; decide)
      · rw [if_neg hcut] at hK
        refine kw_aload_n dX11_drop_13 rfl ?_
        refine kw_iload_n dX11_drop_14 rfl ?_
        refine kw_callVf (As := [pi_ (nI j)]) (o_snIs l s k hns (nI j)) dX11_drop_15 cl_X11_203 rfl rfl rfl rfl (Nat.le_of_ble_eq_true rfl) ⟨(Nat.le_of_ble_eq_true rfl), (Nat.le_of_ble_eq_true rfl), (Nat.le_of_ble_eq_true rfl), (Nat.le_of_ble_eq_true rfl)⟩ ?_
        refine kw_if_ne (tgt := 24) dX11_drop_18 (by decide) (fun c18 => ?_) (fun c18 => ?_)
        · skip
          refine kw_aload_n dX11_drop_24 rfl ?_
          refine kw_iload_n dX11_drop_25 rfl ?_
          refine kw_callVf (As := [pi_ (nI j)]) (o_rm1 l s k hcut hns hnh j hj) dX11_drop_26 cl_X11_206 rfl rfl rfl rfl (Nat.le_of_ble_eq_true rfl) ⟨(Nat.le_of_ble_eq_true rfl), (Nat.le_of_ble_eq_true rfl), (Nat.le_of_ble_eq_true rfl), (Nat.le_of_ble_eq_true rfl)⟩ ?_
          refine kw_if_eq (tgt := 36) dX11_drop_29 (by decide) (fun c29 => ?_) (fun c29 => ?_)
          · skip
            exact absurd c29 (by decide)
          · skip
            refine kw_iconst (v := 1) dX11_drop_32 (by decide) ?_
            refine kw_goto (tgt := 40) dX11_drop_33 (by decide) ?_
            exact kw_iret dX11_drop_40 rfl (Nat.le_of_ble_eq_true rfl) (Nat.le_of_ble_eq_true rfl) (hK _ _ _ ⟨rfl, rfl, rfl⟩)
        · skip
          exact absurd c18 (by rw [snOk, h4]; decide)
  · skip
    refine kw_bipush (v := (-106)) dX11_drop_10 (by decide) ?_
    exact kw_iret dX11_drop_12 rfl (Nat.le_of_ble_eq_true rfl) (Nat.le_of_ble_eq_true rfl) (hK _ _ _ ⟨rfl, by rw [a_drop, if_pos (b2_n0.mp c7)], by rw [a_drop, if_pos (b2_n0.mp c7)]⟩)
set_option maxHeartbeats 4000000 in
set_option maxRecDepth 100000 in
theorem P_share (l : Launch) (s : SG) (k : KG) (x : Int32) : kw_F l yX11_share cX11_share 3 (Option.some Jvm.ClassFile.FieldType.int) { frames := 0, cells := 0, slots := 0, locals := 0 } [pr_ (0, 0), pi_ x] (hC s k) (some (pi_ (a_share s x).1)) (hC (a_share s x).2 k) := by
  refine kw_M_of RX11 "share" [some (pr_ (0, 0)), some (pi_ x), none] (by decide) rfl rfl rfl (Nat.le_of_ble_eq_true rfl) ?_
  intro D ad A
  refine kw_Kgen (fun K hK => ?_)
  refine kw_aload_n dX11_share_0 rfl ?_
  refine kw_get dX11_share_1 fl_X11_10 rfl rfl ?_
  refine kw_get dX11_share_4 fl_X11_80 rfl rfl ?_
  refine kw_if_eq (tgt := 13) dX11_share_7 (by decide) (fun c7 => ?_) (fun c7 => ?_)
  · skip
    have hd : ¬ dn_ s = true := by rw [b2_0.mp c7]; decide
    refine kw_iload_n dX11_share_13 rfl ?_
    refine kw_if_lt (tgt := 23) dX11_share_14 (by decide) (fun c14 => ?_) (fun c14 => ?_)
    · skip
      refine kw_bipush (v := (-102)) dX11_share_23 (by decide) ?_
      exact kw_iret dX11_share_25 rfl (Nat.le_of_ble_eq_true rfl) (Nat.le_of_ble_eq_true rfl) (hK _ _ _ ⟨rfl, by rw [a_share, if_neg hd, if_pos (Or.inl c14)], by rw [a_share, if_neg hd, if_pos (Or.inl c14)]⟩)
    · skip
      refine kw_iload_n dX11_share_17 rfl ?_
      refine kw_bipush (v := 100) dX11_share_18 (by decide) ?_
      refine kw_icmp_le (tgt := 26) dX11_share_20 (by decide) (fun c20 => ?_) (fun c20 => ?_)
      · skip
        rw [a_share, if_neg hd, if_neg (fun q => q.elim c14 (fun z => absurd c20 (Int32.not_le.mpr z)))] at hK
        obtain ⟨y, hy1, rfl⟩ := nI_of2 (M := 100) (n := 100) (by decide) c14 c20
        rw [cl_, nI_clamp (by omega)] at hK
        refine kw_aload_n dX11_share_26 rfl ?_
        refine kw_get dX11_share_27 fl_X11_39 rfl rfl ?_
        refine kw_get dX11_share_30 fl_X11_258 rfl rfl ?_
        refine kw_istore_n dX11_share_33 (Nat.le_of_ble_eq_true rfl) ?_
        refine kw_aload_n dX11_share_34 rfl ?_
        refine kw_get dX11_share_35 fl_X11_39 rfl rfl ?_
        refine kw_iload_n dX11_share_38 rfl ?_
        refine kw_put dX11_share_39 fl_X11_258 rfl (kw_ok_i _) (Nat.le_of_ble_eq_true rfl) ?_
        refine kw_heq (up_wsh s k y) ?_
        refine kw_iload_n dX11_share_42 rfl ?_
        exact kw_iret dX11_share_43 rfl (Nat.le_of_ble_eq_true rfl) (Nat.le_of_ble_eq_true rfl) (hK _ _ _ ⟨rfl, rfl, rfl⟩)
      · skip
        refine kw_bipush (v := (-102)) dX11_share_23 (by decide) ?_
        exact kw_iret dX11_share_25 rfl (Nat.le_of_ble_eq_true rfl) (Nat.le_of_ble_eq_true rfl) (hK _ _ _ ⟨rfl, by rw [a_share, if_neg hd, if_pos (Or.inr (Int32.not_le.mp c20))], by rw [a_share, if_neg hd, if_pos (Or.inr (Int32.not_le.mp c20))]⟩)
  · skip
    refine kw_bipush (v := (-106)) dX11_share_10 (by decide) ?_
    exact kw_iret dX11_share_12 rfl (Nat.le_of_ble_eq_true rfl) (Nat.le_of_ble_eq_true rfl) (hK _ _ _ ⟨rfl, by rw [a_share, if_pos (b2_n0.mp c7)], by rw [a_share, if_pos (b2_n0.mp c7)]⟩)
set_option maxHeartbeats 4000000 in
set_option maxRecDepth 100000 in
theorem P_cut (l : Launch) (s : SG) (k : KG) (x : Int32) : kw_F l yX11_cut cX11_cut 2 (Option.some Jvm.ClassFile.FieldType.int) { frames := 0, cells := 0, slots := 0, locals := 0 } [pr_ (0, 0), pi_ x] (hC s k) (some (pi_ (a_cut s x).1)) (hC (a_cut s x).2 k) := by
  refine kw_M_of RX11 "cut" [some (pr_ (0, 0)), some (pi_ x)] (by decide) rfl rfl rfl (Nat.le_of_ble_eq_true rfl) ?_
  intro D ad A
  refine kw_Kgen (fun K hK => ?_)
  refine kw_aload_n dX11_cut_0 rfl ?_
  refine kw_get dX11_cut_1 fl_X11_10 rfl rfl ?_
  refine kw_get dX11_cut_4 fl_X11_80 rfl rfl ?_
  refine kw_if_eq (tgt := 13) dX11_cut_7 (by decide) (fun c7 => ?_) (fun c7 => ?_)
  · skip
    have hd : ¬ dn_ s = true := by rw [b2_0.mp c7]; decide
    refine kw_iload_n dX11_cut_13 rfl ?_
    refine kw_iconst (v := (-1)) dX11_cut_14 (by decide) ?_
    refine kw_icmp_lt (tgt := 25) dX11_cut_15 (by decide) (fun c15 => ?_) (fun c15 => ?_)
    · skip
      refine kw_bipush (v := (-102)) dX11_cut_25 (by decide) ?_
      exact kw_iret dX11_cut_27 rfl (Nat.le_of_ble_eq_true rfl) (Nat.le_of_ble_eq_true rfl) (hK _ _ _ ⟨rfl, by rw [a_cut, if_neg hd, if_pos (Or.inl c15)], by rw [a_cut, if_neg hd, if_pos (Or.inl c15)]⟩)
    · skip
      refine kw_iload_n dX11_cut_18 rfl ?_
      refine kw_sipush (v := 500) dX11_cut_19 (by decide) ?_
      refine kw_icmp_le (tgt := 28) dX11_cut_22 (by decide) (fun c22 => ?_) (fun c22 => ?_)
      · skip
        rw [a_cut, if_neg hd, if_neg (fun q => q.elim c15 (fun z => absurd c22 (Int32.not_le.mpr z)))] at hK
        refine kw_aload_n dX11_cut_28 rfl ?_
        refine kw_get dX11_cut_29 fl_X11_10 rfl rfl ?_
        refine kw_iload_n dX11_cut_32 rfl ?_
        refine kw_put dX11_cut_33 fl_X11_261 rfl (kw_ok_i _) (Nat.le_of_ble_eq_true rfl) ?_
        refine kw_heq (up_jcut s k x) ?_
        refine kw_iconst (v := 1) dX11_cut_36 (by decide) ?_
        exact kw_iret dX11_cut_37 rfl (Nat.le_of_ble_eq_true rfl) (Nat.le_of_ble_eq_true rfl) (hK _ _ _ ⟨rfl, rfl, rfl⟩)
      · skip
        refine kw_bipush (v := (-102)) dX11_cut_25 (by decide) ?_
        exact kw_iret dX11_cut_27 rfl (Nat.le_of_ble_eq_true rfl) (Nat.le_of_ble_eq_true rfl) (hK _ _ _ ⟨rfl, by rw [a_cut, if_neg hd, if_pos (Or.inr (Int32.not_le.mp c22))], by rw [a_cut, if_neg hd, if_pos (Or.inr (Int32.not_le.mp c22))]⟩)
  · skip
    refine kw_bipush (v := (-106)) dX11_cut_10 (by decide) ?_
    exact kw_iret dX11_cut_12 rfl (Nat.le_of_ble_eq_true rfl) (Nat.le_of_ble_eq_true rfl) (hK _ _ _ ⟨rfl, by rw [a_cut, if_pos (b2_n0.mp c7)], by rw [a_cut, if_pos (b2_n0.mp c7)]⟩)
set_option maxHeartbeats 4000000 in
set_option maxRecDepth 100000 in
theorem P_open (l : Launch) (s : SG) (k : KG) (hb : nb_ s ≤ 80) (hw : ∀ j, j < nb_ s → wt_ s j < 2 ^ 31) : kw_F l yX11_open cX11_open 1 (Option.some Jvm.ClassFile.FieldType.int) { frames := 1, cells := 0, slots := 0, locals := 22 } [pr_ (0, 0)] (hC s k) (some (pi_ (a_open s).1)) (hC (a_open s).2 k) := by
  refine kw_M_of RX11 "open" [some (pr_ (0, 0))] (by decide) rfl rfl rfl (Nat.le_of_ble_eq_true rfl) ?_
  intro D ad A
  refine kw_Kgen (fun K hK => ?_)
  refine kw_aload_n dX11_open_0 rfl ?_
  refine kw_get dX11_open_1 fl_X11_10 rfl rfl ?_
  refine kw_get dX11_open_4 fl_X11_80 rfl rfl ?_
  refine kw_if_ne (tgt := 13) dX11_open_7 (by decide) (fun c7 => ?_) (fun c7 => ?_)
  · skip
    rw [a_open, if_pos (b2_n0.mp c7)] at hK
    refine kw_aload_n dX11_open_13 rfl ?_
    refine kw_get dX11_open_14 fl_X11_10 rfl rfl ?_
    refine kw_iconst (v := 0) dX11_open_17 (by decide) ?_
    refine kw_put dX11_open_18 fl_X11_80 rfl (kw_ok_z (Or.inl rfl)) (Nat.le_of_ble_eq_true rfl) ?_
    refine kw_heq (up_jdn s k false) ?_
    refine kw_aload_n dX11_open_21 rfl ?_
    refine kw_get dX11_open_22 fl_X11_30 rfl rfl ?_
    refine kw_callVf (As := []) (t_waiting l (sDn s false) k hb hw) dX11_open_25 cl_X11_264 rfl rfl rfl rfl (Nat.le_of_ble_eq_true rfl) ⟨(Nat.le_of_ble_eq_true rfl), (Nat.le_of_ble_eq_true rfl), (Nat.le_of_ble_eq_true rfl), (Nat.le_of_ble_eq_true rfl)⟩ ?_
    exact kw_iret dX11_open_28 rfl (Nat.le_of_ble_eq_true rfl) (Nat.le_of_ble_eq_true rfl) (hK _ _ _ ⟨rfl, rfl, rfl⟩)
  · skip
    refine kw_bipush (v := (-103)) dX11_open_10 (by decide) ?_
    exact kw_iret dX11_open_12 rfl (Nat.le_of_ble_eq_true rfl) (Nat.le_of_ble_eq_true rfl) (hK _ _ _ ⟨rfl, by rw [a_open, if_neg (by rw [b2_0.mp c7]; decide)], by rw [a_open, if_neg (by rw [b2_0.mp c7]; decide)]⟩)
set_option maxHeartbeats 4000000 in
set_option maxRecDepth 100000 in
theorem g_great (l : Launch) (h : PH) (x : Int32) : kw_F l yX6_greatest cX6_greatest 1 (Option.some Jvm.ClassFile.FieldType.int) { frames := 0, cells := 0, slots := 0, locals := 0 } [pi_ x] h (some (pi_ (gr_ x))) h := by
  refine kw_M_of RX6 "greatest" [some (pi_ x)] (by decide) rfl rfl rfl (Nat.le_of_ble_eq_true rfl) ?_
  intro D ad A
  refine kw_Kgen (fun K hK => ?_)
  refine kw_iload_n dX6_greatest_0 rfl ?_
  refine kw_iconst (v := 5) dX6_greatest_1 (by decide) ?_
  refine kw_icmp_ne (tgt := 10) dX6_greatest_2 (by decide) (fun c2 => ?_) (fun c2 => ?_)
  · skip
    refine kw_bipush (v := 100) dX6_greatest_10 (by decide) ?_
    exact kw_iret dX6_greatest_12 rfl (Nat.le_of_ble_eq_true rfl) (Nat.le_of_ble_eq_true rfl) (hK _ _ _ ⟨rfl, by rw [gr_, if_neg c2], rfl⟩)
  · skip
    refine kw_bipush (v := 15) dX6_greatest_5 (by decide) ?_
    refine kw_goto (tgt := 12) dX6_greatest_7 (by decide) ?_
    exact kw_iret dX6_greatest_12 rfl (Nat.le_of_ble_eq_true rfl) (Nat.le_of_ble_eq_true rfl) (hK _ _ _ ⟨rfl, by rw [gr_, if_pos c2], rfl⟩)
set_option maxHeartbeats 4000000 in
set_option maxRecDepth 100000 in
theorem P_rule (l : Launch) (s : SG) (k : KG) (x n : Int32) : kw_F l yX11_rule cX11_rule 4 (Option.some Jvm.ClassFile.FieldType.int) { frames := 1, cells := 0, slots := 0, locals := 20 } [pr_ (0, 0), pi_ x, pi_ n] (hC s k) (some (pi_ (a_rule s x n).1)) (hC (a_rule s x n).2 k) := by
  refine kw_M_of RX11 "rule" [some (pr_ (0, 0)), some (pi_ x), some (pi_ n), none] (by decide) rfl rfl rfl (Nat.le_of_ble_eq_true rfl) ?_
  intro D ad A
  refine kw_Kgen (fun K hK => ?_)
  refine kw_aload_n dX11_rule_0 rfl ?_
  refine kw_get dX11_rule_1 fl_X11_10 rfl rfl ?_
  refine kw_get dX11_rule_4 fl_X11_80 rfl rfl ?_
  refine kw_if_eq (tgt := 13) dX11_rule_7 (by decide) (fun c7 => ?_) (fun c7 => ?_)
  · skip
    have hd : ¬ dn_ s = true := by rw [b2_0.mp c7]; decide
    refine kw_iload_n dX11_rule_13 rfl ?_
    refine kw_if_lt (tgt := 35) dX11_rule_14 (by decide) (fun c14 => ?_) (fun c14 => ?_)
    · skip
      refine kw_bipush (v := (-102)) dX11_rule_35 (by decide) ?_
      exact kw_iret dX11_rule_37 rfl (Nat.le_of_ble_eq_true rfl) (Nat.le_of_ble_eq_true rfl) (hK _ _ _ ⟨rfl, by rw [a_rule, if_neg hd, if_pos (Or.inl c14)], by rw [a_rule, if_neg hd, if_pos (Or.inl c14)]⟩)
    · skip
      refine kw_iload_n dX11_rule_17 rfl ?_
      refine kw_bipush (v := 6) dX11_rule_18 (by decide) ?_
      refine kw_icmp_ge (tgt := 35) dX11_rule_20 (by decide) (fun c20 => ?_) (fun c20 => ?_)
      · skip
        refine kw_bipush (v := (-102)) dX11_rule_35 (by decide) ?_
        exact kw_iret dX11_rule_37 rfl (Nat.le_of_ble_eq_true rfl) (Nat.le_of_ble_eq_true rfl) (hK _ _ _ ⟨rfl, by rw [a_rule, if_neg hd, if_pos (Or.inr (Or.inl c20))], by rw [a_rule, if_neg hd, if_pos (Or.inr (Or.inl c20))]⟩)
      · skip
        refine kw_iload_n dX11_rule_23 rfl ?_
        refine kw_if_lt (tgt := 35) dX11_rule_24 (by decide) (fun c24 => ?_) (fun c24 => ?_)
        · skip
          refine kw_bipush (v := (-102)) dX11_rule_35 (by decide) ?_
          exact kw_iret dX11_rule_37 rfl (Nat.le_of_ble_eq_true rfl) (Nat.le_of_ble_eq_true rfl) (hK _ _ _ ⟨rfl, by rw [a_rule, if_neg hd, if_pos (Or.inr (Or.inr (Or.inl c24)))], by rw [a_rule, if_neg hd, if_pos (Or.inr (Or.inr (Or.inl c24)))]⟩)
        · skip
          refine kw_iload_n dX11_rule_27 rfl ?_
          refine kw_iload_n dX11_rule_28 rfl ?_
          refine kw_callSf (As := [pi_ x]) (g_great l _ x) dX11_rule_29 cl_X11_209 rfl rfl (Nat.le_of_ble_eq_true rfl) ⟨(Nat.le_of_ble_eq_true rfl), (Nat.le_of_ble_eq_true rfl), (Nat.le_of_ble_eq_true rfl), (Nat.le_of_ble_eq_true rfl)⟩ ?_
          refine kw_icmp_le (tgt := 38) dX11_rule_32 (by decide) (fun c32 => ?_) (fun c32 => ?_)
          · skip
            rw [a_rule, if_neg hd, if_neg (fun q => q.elim c14 (fun q => q.elim c20 (fun q => q.elim c24 (fun z => absurd c32 (Int32.not_le.mpr z)))))] at hK
            obtain ⟨y, hy1, rfl⟩ := nI_of c14
            have hy6 : y < 6 := nI_nle' (a := 6) (by decide) hy1 c20
            obtain ⟨w, hw1, rfl⟩ := nI_of c24
            rw [cl_, cl_, nI_clamp (by omega), nI_clamp hw1] at hK
            refine kw_aload_n dX11_rule_38 rfl ?_
            refine kw_get dX11_rule_39 fl_X11_46 rfl rfl ?_
            refine kw_get dX11_rule_42 fl_X11_213 rfl rfl ?_
            refine kw_iload_n dX11_rule_45 rfl ?_
            refine kw_ialdN dX11_rule_46 rfl (by omega) (by decide) ?_
            refine kw_istore_n dX11_rule_47 (Nat.le_of_ble_eq_true rfl) ?_
            refine kw_aload_n dX11_rule_48 rfl ?_
            refine kw_get dX11_rule_49 fl_X11_46 rfl rfl ?_
            refine kw_get dX11_rule_52 fl_X11_213 rfl rfl ?_
            refine kw_iload_n dX11_rule_55 rfl ?_
            refine kw_iload_n dX11_rule_56 rfl ?_
            refine kw_iastN dX11_rule_57 rfl (by omega) (by decide) ?_
            refine kw_heq (up_rru s k _ _) ?_
            refine kw_iload_n dX11_rule_58 rfl ?_
            exact kw_iret dX11_rule_59 rfl (Nat.le_of_ble_eq_true rfl) (Nat.le_of_ble_eq_true rfl) (hK _ _ _ ⟨rfl, rfl, rfl⟩)
          · skip
            refine kw_bipush (v := (-102)) dX11_rule_35 (by decide) ?_
            exact kw_iret dX11_rule_37 rfl (Nat.le_of_ble_eq_true rfl) (Nat.le_of_ble_eq_true rfl) (hK _ _ _ ⟨rfl, by rw [a_rule, if_neg hd, if_pos (Or.inr (Or.inr (Or.inr (Int32.not_le.mp c32))))], by rw [a_rule, if_neg hd, if_pos (Or.inr (Or.inr (Or.inr (Int32.not_le.mp c32))))]⟩)
  · skip
    refine kw_bipush (v := (-106)) dX11_rule_10 (by decide) ?_
    exact kw_iret dX11_rule_12 rfl (Nat.le_of_ble_eq_true rfl) (Nat.le_of_ble_eq_true rfl) (hK _ _ _ ⟨rfl, by rw [a_rule, if_pos (b2_n0.mp c7)], by rw [a_rule, if_pos (b2_n0.mp c7)]⟩)
set_option maxHeartbeats 4000000 in
set_option maxRecDepth 100000 in
theorem P_count (l : Launch) (s : SG) (k : KG) (hb : nb_ s ≤ 80) (hns : ns_ s ≤ 40) (hw : ∀ j, j < nb_ s → wt_ s j < 2 ^ 31) (hfr : nfr_ s + cntN (fun j => th_ s j) (nb_ s) = nb_ s) (han : nan_ s + cntN (fun j => !gn_ s j) (np_ s) = np_ s) (x : Int32) : kw_F l yX11_count cX11_count 2 (Option.some Jvm.ClassFile.FieldType.int) { frames := 1, cells := 0, slots := 0, locals := 22 } [pr_ (0, 0), pi_ x] (hC s k) (some (pi_ (a_count s x))) (hC s k) := by
  refine kw_M_of RX11 "count" [some (pr_ (0, 0)), some (pi_ x)] (by decide) rfl rfl rfl (Nat.le_of_ble_eq_true rfl) ?_
  intro D ad A
  refine kw_Kgen (fun K hK => ?_)
  refine kw_iload_n dX11_count_0 rfl ?_
  by_cases e0 : x = 0
  · skip
    subst e0
    refine kw_tableIn (off := 71) (tgt := 72) dX11_count_1 (by decide) (by decide) (by decide) (by decide) ?_
    refine kw_aload_n dX11_count_72 rfl ?_
    refine kw_get dX11_count_73 fl_X11_30 rfl rfl ?_
    refine kw_get dX11_count_76 fl_X11_277 rfl rfl ?_
    exact kw_iret dX11_count_79 rfl (Nat.le_of_ble_eq_true rfl) (Nat.le_of_ble_eq_true rfl) (hK _ _ _ ⟨rfl, rfl, rfl⟩)
  by_cases e1 : x = 1
  · skip
    subst e1
    refine kw_tableIn (off := 79) (tgt := 80) dX11_count_1 (by decide) (by decide) (by decide) (by decide) ?_
    refine kw_aload_n dX11_count_80 rfl ?_
    refine kw_get dX11_count_81 fl_X11_30 rfl rfl ?_
    refine kw_get dX11_count_84 fl_X11_277 rfl rfl ?_
    refine kw_aload_n dX11_count_87 rfl ?_
    refine kw_get dX11_count_88 fl_X11_30 rfl rfl ?_
    refine kw_get dX11_count_91 fl_X11_280 rfl rfl ?_
    refine kw_isub dX11_count_94 ?_
    refine kw_top (v' := pi_ (nI (cntN (fun j => th_ s j) (nb_ s)))) (by rw [pk_sub (by omega)]; exact congrArg (fun z => pi_ (nI z)) (by omega)) ?_
    exact kw_iret dX11_count_95 rfl (Nat.le_of_ble_eq_true rfl) (Nat.le_of_ble_eq_true rfl) (hK _ _ _ ⟨rfl, rfl, rfl⟩)
  by_cases e2 : x = 2
  · skip
    subst e2
    refine kw_tableIn (off := 95) (tgt := 96) dX11_count_1 (by decide) (by decide) (by decide) (by decide) ?_
    refine kw_aload_n dX11_count_96 rfl ?_
    refine kw_get dX11_count_97 fl_X11_30 rfl rfl ?_
    refine kw_callVf (As := []) (t_waiting l s k hb hw) dX11_count_100 cl_X11_264 rfl rfl rfl rfl (Nat.le_of_ble_eq_true rfl) ⟨(Nat.le_of_ble_eq_true rfl), (Nat.le_of_ble_eq_true rfl), (Nat.le_of_ble_eq_true rfl), (Nat.le_of_ble_eq_true rfl)⟩ ?_
    exact kw_iret dX11_count_103 rfl (Nat.le_of_ble_eq_true rfl) (Nat.le_of_ble_eq_true rfl) (hK _ _ _ ⟨rfl, rfl, rfl⟩)
  by_cases e3 : x = 3
  · skip
    subst e3
    refine kw_tableIn (off := 103) (tgt := 104) dX11_count_1 (by decide) (by decide) (by decide) (by decide) ?_
    refine kw_aload_n dX11_count_104 rfl ?_
    refine kw_callVf (As := []) (o_sn l s k hns) dX11_count_105 cl_X11_186 rfl rfl rfl rfl (Nat.le_of_ble_eq_true rfl) ⟨(Nat.le_of_ble_eq_true rfl), (Nat.le_of_ble_eq_true rfl), (Nat.le_of_ble_eq_true rfl), (Nat.le_of_ble_eq_true rfl)⟩ ?_
    exact kw_iret dX11_count_108 rfl (Nat.le_of_ble_eq_true rfl) (Nat.le_of_ble_eq_true rfl) (hK _ _ _ ⟨rfl, rfl, rfl⟩)
  by_cases e4 : x = 4
  · skip
    subst e4
    refine kw_tableIn (off := 108) (tgt := 109) dX11_count_1 (by decide) (by decide) (by decide) (by decide) ?_
    refine kw_aload_n dX11_count_109 rfl ?_
    refine kw_get dX11_count_110 fl_X11_30 rfl rfl ?_
    refine kw_get dX11_count_113 fl_X11_283 rfl rfl ?_
    exact kw_iret dX11_count_116 rfl (Nat.le_of_ble_eq_true rfl) (Nat.le_of_ble_eq_true rfl) (hK _ _ _ ⟨rfl, rfl, rfl⟩)
  by_cases e5 : x = 5
  · skip
    subst e5
    refine kw_tableIn (off := 116) (tgt := 117) dX11_count_1 (by decide) (by decide) (by decide) (by decide) ?_
    refine kw_aload_n dX11_count_117 rfl ?_
    refine kw_get dX11_count_118 fl_X11_30 rfl rfl ?_
    refine kw_get dX11_count_121 fl_X11_283 rfl rfl ?_
    refine kw_aload_n dX11_count_124 rfl ?_
    refine kw_get dX11_count_125 fl_X11_30 rfl rfl ?_
    refine kw_get dX11_count_128 fl_X11_286 rfl rfl ?_
    refine kw_isub dX11_count_131 ?_
    refine kw_top (v' := pi_ (nI (cntN (fun j => !gn_ s j) (np_ s)))) (by rw [pk_sub (by omega)]; exact congrArg (fun z => pi_ (nI z)) (by omega)) ?_
    exact kw_iret dX11_count_132 rfl (Nat.le_of_ble_eq_true rfl) (Nat.le_of_ble_eq_true rfl) (hK _ _ _ ⟨rfl, rfl, rfl⟩)
  by_cases e6 : x = 6
  · skip
    subst e6
    refine kw_tableIn (off := 132) (tgt := 133) dX11_count_1 (by decide) (by decide) (by decide) (by decide) ?_
    refine kw_aload_n dX11_count_133 rfl ?_
    refine kw_callVf (As := []) (o_savers l s k) dX11_count_134 cl_X11_289 rfl rfl rfl rfl (Nat.le_of_ble_eq_true rfl) ⟨(Nat.le_of_ble_eq_true rfl), (Nat.le_of_ble_eq_true rfl), (Nat.le_of_ble_eq_true rfl), (Nat.le_of_ble_eq_true rfl)⟩ ?_
    exact kw_iret dX11_count_137 rfl (Nat.le_of_ble_eq_true rfl) (Nat.le_of_ble_eq_true rfl) (hK _ _ _ ⟨rfl, rfl, rfl⟩)
  by_cases e7 : x = 7
  · skip
    subst e7
    refine kw_tableIn (off := 137) (tgt := 138) dX11_count_1 (by decide) (by decide) (by decide) (by decide) ?_
    refine kw_aload_n dX11_count_138 rfl ?_
    refine kw_get dX11_count_139 fl_X11_39 rfl rfl ?_
    refine kw_get dX11_count_142 fl_X11_252 rfl rfl ?_
    exact kw_iret dX11_count_145 rfl (Nat.le_of_ble_eq_true rfl) (Nat.le_of_ble_eq_true rfl) (hK _ _ _ ⟨rfl, rfl, rfl⟩)
  by_cases e8 : x = 8
  · skip
    subst e8
    refine kw_tableIn (off := 145) (tgt := 146) dX11_count_1 (by decide) (by decide) (by decide) (by decide) ?_
    refine kw_aload_n dX11_count_146 rfl ?_
    refine kw_get dX11_count_147 fl_X11_10 rfl rfl ?_
    refine kw_get dX11_count_150 fl_X11_292 rfl rfl ?_
    exact kw_iret dX11_count_153 rfl (Nat.le_of_ble_eq_true rfl) (Nat.le_of_ble_eq_true rfl) (hK _ _ _ ⟨rfl, rfl, rfl⟩)
  by_cases e9 : x = 9
  · skip
    subst e9
    refine kw_tableIn (off := 153) (tgt := 154) dX11_count_1 (by decide) (by decide) (by decide) (by decide) ?_
    refine kw_aload_n dX11_count_154 rfl ?_
    refine kw_get dX11_count_155 fl_X11_30 rfl rfl ?_
    refine kw_get dX11_count_158 fl_X11_295 rfl rfl ?_
    exact kw_iret dX11_count_161 rfl (Nat.le_of_ble_eq_true rfl) (Nat.le_of_ble_eq_true rfl) (hK _ _ _ ⟨rfl, rfl, rfl⟩)
  by_cases e10 : x = 10
  · skip
    subst e10
    refine kw_tableIn (off := 161) (tgt := 162) dX11_count_1 (by decide) (by decide) (by decide) (by decide) ?_
    refine kw_aload_n dX11_count_162 rfl ?_
    refine kw_get dX11_count_163 fl_X11_30 rfl rfl ?_
    refine kw_get dX11_count_166 fl_X11_280 rfl rfl ?_
    exact kw_iret dX11_count_169 rfl (Nat.le_of_ble_eq_true rfl) (Nat.le_of_ble_eq_true rfl) (hK _ _ _ ⟨rfl, rfl, rfl⟩)
  by_cases e11 : x = 11
  · skip
    subst e11
    refine kw_tableIn (off := 169) (tgt := 170) dX11_count_1 (by decide) (by decide) (by decide) (by decide) ?_
    refine kw_aload_n dX11_count_170 rfl ?_
    refine kw_get dX11_count_171 fl_X11_30 rfl rfl ?_
    refine kw_get dX11_count_174 fl_X11_286 rfl rfl ?_
    exact kw_iret dX11_count_177 rfl (Nat.le_of_ble_eq_true rfl) (Nat.le_of_ble_eq_true rfl) (hK _ _ _ ⟨rfl, rfl, rfl⟩)
  by_cases e12 : x = 12
  · skip
    subst e12
    refine kw_tableIn (off := 177) (tgt := 178) dX11_count_1 (by decide) (by decide) (by decide) (by decide) ?_
    refine kw_aload_n dX11_count_178 rfl ?_
    refine kw_get dX11_count_179 fl_X11_10 rfl rfl ?_
    refine kw_get dX11_count_182 fl_X11_271 rfl rfl ?_
    exact kw_iret dX11_count_185 rfl (Nat.le_of_ble_eq_true rfl) (Nat.le_of_ble_eq_true rfl) (hK _ _ _ ⟨rfl, rfl, rfl⟩)
  by_cases e13 : x = 13
  · skip
    subst e13
    refine kw_tableIn (off := 185) (tgt := 186) dX11_count_1 (by decide) (by decide) (by decide) (by decide) ?_
    refine kw_aload_n dX11_count_186 rfl ?_
    refine kw_get dX11_count_187 fl_X11_10 rfl rfl ?_
    refine kw_get dX11_count_190 fl_X11_80 rfl rfl ?_
    refine kw_if_eq (tgt := 200) dX11_count_193 (by decide) (fun c193 => ?_) (fun c193 => ?_)
    · skip
      refine kw_iconst (v := 0) dX11_count_200 (by decide) ?_
      exact kw_iret dX11_count_201 rfl (Nat.le_of_ble_eq_true rfl) (Nat.le_of_ble_eq_true rfl) (hK _ _ _ ⟨rfl, congrArg (fun z => some (pi_ z)) (show (0 : Int32) = b2 (dn_ s) by rw [b2_0.mp c193]; rfl), rfl⟩)
    · skip
      refine kw_iconst (v := 1) dX11_count_196 (by decide) ?_
      refine kw_goto (tgt := 201) dX11_count_197 (by decide) ?_
      exact kw_iret dX11_count_201 rfl (Nat.le_of_ble_eq_true rfl) (Nat.le_of_ble_eq_true rfl) (hK _ _ _ ⟨rfl, congrArg (fun z => some (pi_ z)) (show (1 : Int32) = b2 (dn_ s) by rw [b2_n0.mp c193]; rfl), rfl⟩)
  have n0 : (x).toInt ≠ 0 := fun q => e0 (Int32.toInt_inj.mp (q.trans (by decide)))
  have n1 : (x).toInt ≠ 1 := fun q => e1 (Int32.toInt_inj.mp (q.trans (by decide)))
  have n2 : (x).toInt ≠ 2 := fun q => e2 (Int32.toInt_inj.mp (q.trans (by decide)))
  have n3 : (x).toInt ≠ 3 := fun q => e3 (Int32.toInt_inj.mp (q.trans (by decide)))
  have n4 : (x).toInt ≠ 4 := fun q => e4 (Int32.toInt_inj.mp (q.trans (by decide)))
  have n5 : (x).toInt ≠ 5 := fun q => e5 (Int32.toInt_inj.mp (q.trans (by decide)))
  have n6 : (x).toInt ≠ 6 := fun q => e6 (Int32.toInt_inj.mp (q.trans (by decide)))
  have n7 : (x).toInt ≠ 7 := fun q => e7 (Int32.toInt_inj.mp (q.trans (by decide)))
  have n8 : (x).toInt ≠ 8 := fun q => e8 (Int32.toInt_inj.mp (q.trans (by decide)))
  have n9 : (x).toInt ≠ 9 := fun q => e9 (Int32.toInt_inj.mp (q.trans (by decide)))
  have n10 : (x).toInt ≠ 10 := fun q => e10 (Int32.toInt_inj.mp (q.trans (by decide)))
  have n11 : (x).toInt ≠ 11 := fun q => e11 (Int32.toInt_inj.mp (q.trans (by decide)))
  have n12 : (x).toInt ≠ 12 := fun q => e12 (Int32.toInt_inj.mp (q.trans (by decide)))
  have n13 : (x).toInt ≠ 13 := fun q => e13 (Int32.toInt_inj.mp (q.trans (by decide)))
  refine kw_tableOut (tgt := 202) dX11_count_1 (by omega) (by decide) ?_
  refine kw_bipush (v := (-102)) dX11_count_202 (by decide) ?_
  exact kw_iret dX11_count_204 rfl (Nat.le_of_ble_eq_true rfl) (Nat.le_of_ble_eq_true rfl) (hK _ _ _ ⟨rfl, by rw [a_count, if_neg e0, if_neg e1, if_neg e2, if_neg e3, if_neg e4, if_neg e5, if_neg e6, if_neg e7, if_neg e8, if_neg e9, if_neg e10, if_neg e11, if_neg e12, if_neg e13], rfl⟩)
set_option maxHeartbeats 4000000 in
set_option maxRecDepth 100000 in
theorem P_key (l : Launch) (s : SG) (k : KG) (hb : nb_ s ≤ 80) (x : Int32) : kw_F l yX11_key cX11_key 2 (Option.some Jvm.ClassFile.FieldType.long) { frames := 0, cells := 0, slots := 0, locals := 0 } [pr_ (0, 0), pi_ x] (hC s k) (some (pl_ (a_key s x))) (hC s k) := by
  refine kw_M_of RX11 "key" [some (pr_ (0, 0)), some (pi_ x)] (by decide) rfl rfl rfl (Nat.le_of_ble_eq_true rfl) ?_
  intro D ad A
  refine kw_Kgen (fun K hK => ?_)
  refine kw_iload_n dX11_key_0 rfl ?_
  refine kw_if_lt (tgt := 30) dX11_key_1 (by decide) (fun c1 => ?_) (fun c1 => ?_)
  · skip
    refine kw_lconst (v := 0) dX11_key_30 (by decide) ?_
    exact kw_lret dX11_key_31 rfl (Nat.le_of_ble_eq_true rfl) (Nat.le_of_ble_eq_true rfl) (hK _ _ _ ⟨rfl, by rw [a_key, if_pos (Or.inl c1)], rfl⟩)
  · skip
    refine kw_iload_n dX11_key_4 rfl ?_
    refine kw_aload_n dX11_key_5 rfl ?_
    refine kw_get dX11_key_6 fl_X11_30 rfl rfl ?_
    refine kw_get dX11_key_9 fl_X11_277 rfl rfl ?_
    refine kw_icmp_ge (tgt := 30) dX11_key_12 (by decide) (fun c12 => ?_) (fun c12 => ?_)
    · skip
      refine kw_lconst (v := 0) dX11_key_30 (by decide) ?_
      exact kw_lret dX11_key_31 rfl (Nat.le_of_ble_eq_true rfl) (Nat.le_of_ble_eq_true rfl) (hK _ _ _ ⟨rfl, by rw [a_key, if_pos (Or.inr c12)], rfl⟩)
    · skip
      rw [a_key, if_neg (fun q => q.elim c1 c12)] at hK
      obtain ⟨j, hj, rfl⟩ := nI_of c1
      have hlt : j < nb_ s := nI_nle' (by omega) hj c12
      rw [cl_, nI_clamp hj] at hK
      refine kw_aload_n dX11_key_15 rfl ?_
      refine kw_get dX11_key_16 fl_X11_30 rfl rfl ?_
      refine kw_get dX11_key_19 fl_X11_298 rfl rfl ?_
      refine kw_iload_n dX11_key_22 rfl ?_
      refine kw_aaldN dX11_key_23 rfl (by omega) (by decide) (if_pos hlt) ?_
      refine kw_get dX11_key_24 fl_X11_326 (hC_bl hlt) rfl ?_
      refine kw_goto (tgt := 31) dX11_key_27 (by decide) ?_
      exact kw_lret dX11_key_31 rfl (Nat.le_of_ble_eq_true rfl) (Nat.le_of_ble_eq_true rfl) (hK _ _ _ ⟨rfl, rfl, rfl⟩)
set_option maxHeartbeats 4000000 in
set_option maxRecDepth 100000 in
theorem P_time (l : Launch) (s : SG) (k : KG) (hns : ns_ s ≤ 40) (x : Int32) : kw_F l yX11_time cX11_time 2 (Option.some Jvm.ClassFile.FieldType.long) { frames := 1, cells := 0, slots := 0, locals := 21 } [pr_ (0, 0), pi_ x] (hC s k) (some (pl_ (a_time s x))) (hC s k) := by
  refine kw_M_of RX11 "time" [some (pr_ (0, 0)), some (pi_ x)] (by decide) rfl rfl rfl (Nat.le_of_ble_eq_true rfl) ?_
  intro D ad A
  refine kw_Kgen (fun K hK => ?_)
  rcases ix_cases (p := kp_ s) (n := ns_ s) (by omega) x with ⟨h1, h2⟩ | ⟨j, hj, rfl, h3, h4, h5⟩
  · rw [a_time, if_neg (by rw [snOk, h1]; decide)] at hK
    refine kw_aload_n dX11_time_0 rfl ?_
    refine kw_iload_n dX11_time_1 rfl ?_
    refine kw_callVf (As := [pi_ x]) (o_snIs l s k hns x) dX11_time_2 cl_X11_203 rfl rfl rfl rfl (Nat.le_of_ble_eq_true rfl) ⟨(Nat.le_of_ble_eq_true rfl), (Nat.le_of_ble_eq_true rfl), (Nat.le_of_ble_eq_true rfl), (Nat.le_of_ble_eq_true rfl)⟩ ?_
    refine kw_if_eq (tgt := 20) dX11_time_5 (by decide) (fun c5 => ?_) (fun c5 => ?_)
    · skip
      refine kw_lconst (v := 0) dX11_time_20 (by decide) ?_
      exact kw_lret dX11_time_21 rfl (Nat.le_of_ble_eq_true rfl) (Nat.le_of_ble_eq_true rfl) (hK _ _ _ ⟨rfl, rfl, rfl⟩)
    · skip
      exact absurd (by rw [snOk, h1]; rfl) c5
  · rw [a_time, if_pos (by rw [snOk, h4]), h5] at hK
    refine kw_aload_n dX11_time_0 rfl ?_
    refine kw_iload_n dX11_time_1 rfl ?_
    refine kw_callVf (As := [pi_ (nI j)]) (o_snIs l s k hns (nI j)) dX11_time_2 cl_X11_203 rfl rfl rfl rfl (Nat.le_of_ble_eq_true rfl) ⟨(Nat.le_of_ble_eq_true rfl), (Nat.le_of_ble_eq_true rfl), (Nat.le_of_ble_eq_true rfl), (Nat.le_of_ble_eq_true rfl)⟩ ?_
    refine kw_if_eq (tgt := 20) dX11_time_5 (by decide) (fun c5 => ?_) (fun c5 => ?_)
    · skip
      exact absurd c5 (by rw [snOk, h4]; decide)
    · skip
      refine kw_aload_n dX11_time_8 rfl ?_
      refine kw_get dX11_time_9 fl_X11_59 rfl rfl ?_
      refine kw_iload_n dX11_time_12 rfl ?_
      refine kw_aaldN dX11_time_13 rfl (by omega) (by decide) (if_pos hj) ?_
      refine kw_get dX11_time_14 fl_X11_348 (hC_sn hj) rfl ?_
      refine kw_goto (tgt := 21) dX11_time_17 (by decide) ?_
      exact kw_lret dX11_time_21 rfl (Nat.le_of_ble_eq_true rfl) (Nat.le_of_ble_eq_true rfl) (hK _ _ _ ⟨rfl, rfl, rfl⟩)
