/-! STORE: packs, writes, audit -/
theorem b2_0t : pi_ (0 : Int32) = pi_ (b2 false) := rfl
theorem b2_1t : pi_ (1 : Int32) = pi_ (b2 true) := rfl
theorem sF2 (s : SG) (i : Nat) (a b : Nat → Nat) : sF (sF s i a) i b = sF s i b := by
  show (s.1, s.2.1, s.2.2.1, s.2.2.2.1, va_up (va_up s.2.2.2.2.1 i a) i b, s.2.2.2.2.2) = _
  rw [va_up2]
theorem sN2 (s : SG) (i a b : Nat) : sN (sN s i a) i b = sN s i b := by
  show (va_up (va_up s.1 i a) i b, s.2) = _
  rw [va_up2]
theorem sGb2 (s : SG) (i : Nat) (a b : Nat → Bool) : sGb (sGb s i a) i b = sGb s i b := by
  show (s.1, s.2.1, s.2.2.1, s.2.2.2.1, s.2.2.2.2.1, va_up (va_up s.2.2.2.2.2.1 i a) i b, s.2.2.2.2.2.2) = _
  rw [va_up2]
set_option maxHeartbeats 4000000 in
set_option maxRecDepth 100000 in
theorem t_full (l : Launch) (s : SG) (k : KG) (hp : np_ s ≤ 40) (leave : Int32) : kw_F l yX9_filledOfLatest cX9_filledOfLatest 4 (Option.some Jvm.ClassFile.FieldType.int) { frames := 0, cells := 0, slots := 0, locals := 0 } [pr_ (3, 0), pi_ leave] (hC s k) (some (pi_ (nI (fullS s k leave)))) (hC s k) := by
  refine kw_M_of RX9 "filledOfLatest" [some (pr_ (3, 0)), some (pi_ leave), none, none] (by decide) rfl rfl rfl (Nat.le_of_ble_eq_true rfl) ?_
  intro D ad A
  refine kw_Kgen (fun K hK => ?_)
  rcases Nat.eq_zero_or_pos (np_ s) with h0 | h0
  · skip
    refine kw_aload_n dX9_filledOfLatest_0 rfl ?_
    refine kw_get dX9_filledOfLatest_1 fl_X9_56 rfl rfl ?_
    refine kw_iconst (v := 1) dX9_filledOfLatest_4 (by decide) ?_
    refine kw_isub dX9_filledOfLatest_5 ?_
    refine kw_istore_n dX9_filledOfLatest_6 (Nat.le_of_ble_eq_true rfl) ?_
    refine kw_iload_n dX9_filledOfLatest_7 rfl ?_
    refine kw_if_lt (tgt := 28) dX9_filledOfLatest_8 (by decide) (fun c8 => ?_) (fun c8 => ?_)
    · skip
      refine kw_iconst (v := 1) dX9_filledOfLatest_28 (by decide) ?_
      refine kw_goto (tgt := 33) dX9_filledOfLatest_29 (by decide) ?_
      refine kw_istore_n dX9_filledOfLatest_33 (Nat.le_of_ble_eq_true rfl) ?_
      refine kw_iload_n dX9_filledOfLatest_34 rfl ?_
      refine kw_if_eq (tgt := 45) dX9_filledOfLatest_35 (by decide) (fun c35 => ?_) (fun c35 => ?_)
      · skip
        exact absurd c35 (by decide)
      · skip
        refine kw_aload_n dX9_filledOfLatest_38 rfl ?_
        refine kw_get dX9_filledOfLatest_39 fl_X9_27 rfl rfl ?_
        refine kw_goto (tgt := 54) dX9_filledOfLatest_42 (by decide) ?_
        exact kw_iret dX9_filledOfLatest_54 rfl (Nat.le_of_ble_eq_true rfl) (Nat.le_of_ble_eq_true rfl) (hK _ _ _ ⟨rfl, by rw [fullS, if_pos (Or.inl h0)], rfl⟩)
    · skip
      exact absurd (by rw [h0]; decide) c8
  · skip
    obtain ⟨n, hn⟩ : ∃ n, np_ s = n + 1 := ⟨np_ s - 1, by omega⟩
    have en : np_ s - 1 = n := by omega
    refine kw_aload_n dX9_filledOfLatest_0 rfl ?_
    refine kw_get dX9_filledOfLatest_1 fl_X9_56 rfl rfl ?_
    refine kw_iconst (v := 1) dX9_filledOfLatest_4 (by decide) ?_
    refine kw_isub dX9_filledOfLatest_5 ?_
    refine kw_top (v' := pi_ (nI n)) (by rw [hn, nI_pred]) ?_
    refine kw_istore_n dX9_filledOfLatest_6 (Nat.le_of_ble_eq_true rfl) ?_
    refine kw_iload_n dX9_filledOfLatest_7 rfl ?_
    refine kw_if_lt (tgt := 28) dX9_filledOfLatest_8 (by decide) (fun c8 => ?_) (fun c8 => ?_)
    · skip
      exact absurd c8 (nI_pos (by omega))
    · skip
      refine kw_iload_n dX9_filledOfLatest_11 rfl ?_
      refine kw_iload_n dX9_filledOfLatest_12 rfl ?_
      refine kw_icmp_eq (tgt := 28) dX9_filledOfLatest_13 (by decide) (fun c13 => ?_) (fun c13 => ?_)
      · skip
        refine kw_iconst (v := 1) dX9_filledOfLatest_28 (by decide) ?_
        refine kw_goto (tgt := 33) dX9_filledOfLatest_29 (by decide) ?_
        refine kw_istore_n dX9_filledOfLatest_33 (Nat.le_of_ble_eq_true rfl) ?_
        refine kw_iload_n dX9_filledOfLatest_34 rfl ?_
        refine kw_if_eq (tgt := 45) dX9_filledOfLatest_35 (by decide) (fun c35 => ?_) (fun c35 => ?_)
        · skip
          exact absurd c35 (by decide)
        · skip
          refine kw_aload_n dX9_filledOfLatest_38 rfl ?_
          refine kw_get dX9_filledOfLatest_39 fl_X9_27 rfl rfl ?_
          refine kw_goto (tgt := 54) dX9_filledOfLatest_42 (by decide) ?_
          exact kw_iret dX9_filledOfLatest_54 rfl (Nat.le_of_ble_eq_true rfl) (Nat.le_of_ble_eq_true rfl) (hK _ _ _ ⟨rfl, by rw [fullS, if_pos (Or.inr (Or.inl (by rw [en]; exact c13)))], rfl⟩)
      · skip
        refine kw_aload_n dX9_filledOfLatest_16 rfl ?_
        refine kw_get dX9_filledOfLatest_17 fl_X9_19 rfl rfl ?_
        refine kw_iload_n dX9_filledOfLatest_20 rfl ?_
        refine kw_aaldN dX9_filledOfLatest_21 rfl (by omega) (by decide) (if_pos (by omega)) ?_
        refine kw_get dX9_filledOfLatest_22 fl_X9_59 (hC_pa (by omega)) rfl ?_
        refine kw_if_eq (tgt := 32) dX9_filledOfLatest_25 (by decide) (fun c25 => ?_) (fun c25 => ?_)
        · skip
          refine kw_iconst (v := 0) dX9_filledOfLatest_32 (by decide) ?_
          refine kw_istore_n dX9_filledOfLatest_33 (Nat.le_of_ble_eq_true rfl) ?_
          refine kw_iload_n dX9_filledOfLatest_34 rfl ?_
          refine kw_if_eq (tgt := 45) dX9_filledOfLatest_35 (by decide) (fun c35 => ?_) (fun c35 => ?_)
          · skip
            refine kw_aload_n dX9_filledOfLatest_45 rfl ?_
            refine kw_get dX9_filledOfLatest_46 fl_X9_19 rfl rfl ?_
            refine kw_iload_n dX9_filledOfLatest_49 rfl ?_
            refine kw_aaldN dX9_filledOfLatest_50 rfl (by omega) (by decide) (if_pos (by omega)) ?_
            refine kw_get dX9_filledOfLatest_51 fl_X9_62 (hC_pa (by omega)) rfl ?_
            exact kw_iret dX9_filledOfLatest_54 rfl (Nat.le_of_ble_eq_true rfl) (Nat.le_of_ble_eq_true rfl) (hK _ _ _ ⟨rfl, by rw [fullS, if_neg (by rw [en, b2_0.mp c25]; rintro (q | q | q); exact absurd q (by omega); exact c13 q; exact absurd q (by decide)), en], rfl⟩)
          · skip
            exact absurd rfl c35
        · skip
          refine kw_iconst (v := 1) dX9_filledOfLatest_28 (by decide) ?_
          refine kw_goto (tgt := 33) dX9_filledOfLatest_29 (by decide) ?_
          refine kw_istore_n dX9_filledOfLatest_33 (Nat.le_of_ble_eq_true rfl) ?_
          refine kw_iload_n dX9_filledOfLatest_34 rfl ?_
          refine kw_if_eq (tgt := 45) dX9_filledOfLatest_35 (by decide) (fun c35 => ?_) (fun c35 => ?_)
          · skip
            exact absurd c35 (by decide)
          · skip
            refine kw_aload_n dX9_filledOfLatest_38 rfl ?_
            refine kw_get dX9_filledOfLatest_39 fl_X9_27 rfl rfl ?_
            refine kw_goto (tgt := 54) dX9_filledOfLatest_42 (by decide) ?_
            exact kw_iret dX9_filledOfLatest_54 rfl (Nat.le_of_ble_eq_true rfl) (Nat.le_of_ble_eq_true rfl) (hK _ _ _ ⟨rfl, by rw [fullS, if_pos (Or.inr (Or.inr (by rw [en]; exact b2_n0.mp c25)))], rfl⟩)
set_option maxHeartbeats 4000000 in
set_option maxRecDepth 100000 in
theorem t_room (l : Launch) (s : SG) (k : KG) (hb : nb_ s ≤ 80) (hp : np_ s ≤ 40) (z : Nat) (hc : cap_ s ≤ 1000) (hz : z ≤ 1000) (ha : fullS s k (-1) ≤ 1000) : kw_F l yX9_hasRoomFor cX9_hasRoomFor 3 (Option.some Jvm.ClassFile.FieldType.boolean) { frames := 1, cells := 0, slots := 0, locals := 23 } [pr_ (3, 0), pi_ (nI z)] (hC s k) (some (pi_ (b2 (roomS s k z)))) (hC s k) := by
  refine kw_M_of RX9 "hasRoomFor" [some (pr_ (3, 0)), some (pi_ (nI z)), none] (by decide) rfl rfl rfl (Nat.le_of_ble_eq_true rfl) ?_
  intro D ad A
  refine kw_Kgen (fun K hK => ?_)
  refine kw_aload_n dX9_hasRoomFor_0 rfl ?_
  refine kw_iconst (v := (-1)) dX9_hasRoomFor_1 (by decide) ?_
  refine kw_callVf (As := [pi_ (-1)]) (t_full l s k hp (-1)) dX9_hasRoomFor_2 cl_X9_65 rfl rfl rfl rfl (Nat.le_of_ble_eq_true rfl) ⟨(Nat.le_of_ble_eq_true rfl), (Nat.le_of_ble_eq_true rfl), (Nat.le_of_ble_eq_true rfl), (Nat.le_of_ble_eq_true rfl)⟩ ?_
  refine kw_iload_n dX9_hasRoomFor_5 rfl ?_
  refine kw_iadd dX9_hasRoomFor_6 ?_
  refine kw_top (v' := pi_ (nI (fullS s k (-1) + z))) (by rw [nI_add]) ?_
  refine kw_aload_n dX9_hasRoomFor_7 rfl ?_
  refine kw_get dX9_hasRoomFor_8 fl_X9_27 rfl rfl ?_
  refine kw_icmp_le (tgt := 18) dX9_hasRoomFor_11 (by decide) (fun c11 => ?_) (fun c11 => ?_)
  · skip
    have e11 : fullS s k (-1) + z ≤ cap_ s := nI_le' (by omega) (by omega) c11
    refine kw_iconst (v := 0) dX9_hasRoomFor_18 (by decide) ?_
    refine kw_istore_n dX9_hasRoomFor_19 (Nat.le_of_ble_eq_true rfl) ?_
    refine kw_aload_n dX9_hasRoomFor_20 rfl ?_
    refine kw_get dX9_hasRoomFor_21 fl_X9_35 rfl rfl ?_
    refine kw_bipush (v := 80) dX9_hasRoomFor_24 (by decide) ?_
    refine kw_icmp_ge (tgt := 46) dX9_hasRoomFor_26 (by decide) (fun c26 => ?_) (fun c26 => ?_)
    · skip
      refine kw_iconst (v := 0) dX9_hasRoomFor_46 (by decide) ?_
      exact kw_zret dX9_hasRoomFor_47 rfl (by decide) (Nat.le_of_ble_eq_true rfl) (Nat.le_of_ble_eq_true rfl) (hK _ _ _ ⟨rfl, by rw [roomS, decide_eq_false (Nat.not_lt.mpr (nI_le' (a := 80) (by decide) (by omega) c26))]; rfl, rfl⟩)
    · skip
      refine kw_iload_n dX9_hasRoomFor_29 rfl ?_
      refine kw_if_eq (tgt := 42) dX9_hasRoomFor_30 (by decide) (fun c30 => ?_) (fun c30 => ?_)
      · skip
        refine kw_iconst (v := 1) dX9_hasRoomFor_42 (by decide) ?_
        refine kw_goto (tgt := 47) dX9_hasRoomFor_43 (by decide) ?_
        exact kw_zret dX9_hasRoomFor_47 rfl (by decide) (Nat.le_of_ble_eq_true rfl) (Nat.le_of_ble_eq_true rfl) (hK _ _ _ ⟨rfl, by rw [roomS, decide_eq_true (nI_nle' (a := 80) (by decide) (by omega) c26), decide_eq_true e11]; rfl, rfl⟩)
      · skip
        exact absurd rfl c30
  · skip
    have e11 : ¬ fullS s k (-1) + z ≤ cap_ s := Nat.not_le.mpr (nI_nle' (by omega) (by omega) c11)
    refine kw_iconst (v := 1) dX9_hasRoomFor_14 (by decide) ?_
    refine kw_goto (tgt := 19) dX9_hasRoomFor_15 (by decide) ?_
    refine kw_istore_n dX9_hasRoomFor_19 (Nat.le_of_ble_eq_true rfl) ?_
    refine kw_aload_n dX9_hasRoomFor_20 rfl ?_
    refine kw_get dX9_hasRoomFor_21 fl_X9_35 rfl rfl ?_
    refine kw_bipush (v := 80) dX9_hasRoomFor_24 (by decide) ?_
    refine kw_icmp_ge (tgt := 46) dX9_hasRoomFor_26 (by decide) (fun c26 => ?_) (fun c26 => ?_)
    · skip
      refine kw_iconst (v := 0) dX9_hasRoomFor_46 (by decide) ?_
      exact kw_zret dX9_hasRoomFor_47 rfl (by decide) (Nat.le_of_ble_eq_true rfl) (Nat.le_of_ble_eq_true rfl) (hK _ _ _ ⟨rfl, by rw [roomS, decide_eq_false (Nat.not_lt.mpr (nI_le' (a := 80) (by decide) (by omega) c26))]; rfl, rfl⟩)
    · skip
      refine kw_iload_n dX9_hasRoomFor_29 rfl ?_
      refine kw_if_eq (tgt := 42) dX9_hasRoomFor_30 (by decide) (fun c30 => ?_) (fun c30 => ?_)
      · skip
        exact absurd c30 (by decide)
      · skip
        refine kw_aload_n dX9_hasRoomFor_33 rfl ?_
        refine kw_get dX9_hasRoomFor_34 fl_X9_56 rfl rfl ?_
        refine kw_bipush (v := 40) dX9_hasRoomFor_37 (by decide) ?_
        refine kw_icmp_ge (tgt := 46) dX9_hasRoomFor_39 (by decide) (fun c39 => ?_) (fun c39 => ?_)
        · skip
          refine kw_iconst (v := 0) dX9_hasRoomFor_46 (by decide) ?_
          exact kw_zret dX9_hasRoomFor_47 rfl (by decide) (Nat.le_of_ble_eq_true rfl) (Nat.le_of_ble_eq_true rfl) (hK _ _ _ ⟨rfl, by rw [roomS, decide_eq_false e11, decide_eq_false (Nat.not_lt.mpr (nI_le' (a := 40) (by decide) (by omega) c39))]; simp [b2], rfl⟩)
        · skip
          refine kw_iconst (v := 1) dX9_hasRoomFor_42 (by decide) ?_
          refine kw_goto (tgt := 47) dX9_hasRoomFor_43 (by decide) ?_
          exact kw_zret dX9_hasRoomFor_47 rfl (by decide) (Nat.le_of_ble_eq_true rfl) (Nat.le_of_ble_eq_true rfl) (hK _ _ _ ⟨rfl, by rw [roomS, decide_eq_true (nI_nle' (a := 80) (by decide) (by omega) c26), decide_eq_true (nI_nle' (a := 40) (by decide) (by omega) c39)]; simp [b2], rfl⟩)
set_option maxHeartbeats 4000000 in
set_option maxRecDepth 100000 in
theorem t_await0 (l : Launch) (s : SG) (k : KG) (hc : cut_ s = 0) (b v : Int32) : kw_F l yX9_await cX9_await 3 (Option.some Jvm.ClassFile.FieldType.boolean) { frames := 1, cells := 0, slots := 0, locals := 20 } [pr_ (3, 0), pi_ b, pi_ v] (hC s k) (some (pi_ 0)) (hC (s_w0 s) k) := by
  refine kw_M_of RX9 "await" [some (pr_ (3, 0)), some (pi_ b), some (pi_ v)] (by decide) rfl rfl rfl (Nat.le_of_ble_eq_true rfl) ?_
  intro D ad A
  refine kw_Kgen (fun K hK => ?_)
  refine kw_aload_n dX9_await_0 rfl ?_
  refine kw_get dX9_await_1 fl_X9_31 rfl rfl ?_
  refine kw_callVf (As := []) (j_write0 l s k hc) dX9_await_4 cl_X9_94 rfl rfl rfl rfl (Nat.le_of_ble_eq_true rfl) ⟨(Nat.le_of_ble_eq_true rfl), (Nat.le_of_ble_eq_true rfl), (Nat.le_of_ble_eq_true rfl), (Nat.le_of_ble_eq_true rfl)⟩ ?_
  refine kw_if_ne (tgt := 12) dX9_await_7 (by decide) (fun c7 => ?_) (fun c7 => ?_)
  · skip
    exact absurd rfl c7
  · skip
    refine kw_iconst (v := 0) dX9_await_10 (by decide) ?_
    exact kw_zret dX9_await_11 rfl (by decide) (Nat.le_of_ble_eq_true rfl) (Nat.le_of_ble_eq_true rfl) (hK _ _ _ ⟨rfl, rfl, rfl⟩)
set_option maxHeartbeats 4000000 in
set_option maxRecDepth 100000 in
theorem t_await1 (l : Launch) (s : SG) (k : KG) (hc : ¬ cut_ s = 0) (hb : nb_ s ≤ 80) (b v : Nat) (hbb : b < nb_ s) : kw_F l yX9_await cX9_await 3 (Option.some Jvm.ClassFile.FieldType.boolean) { frames := 1, cells := 0, slots := 0, locals := 20 } [pr_ (3, 0), pi_ (nI b), pi_ (nI v)] (hC s k) (some (pi_ 1)) (hC (s_await s b v) k) := by
  refine kw_M_of RX9 "await" [some (pr_ (3, 0)), some (pi_ (nI b)), some (pi_ (nI v))] (by decide) rfl rfl rfl (Nat.le_of_ble_eq_true rfl) ?_
  intro D ad A
  refine kw_Kgen (fun K hK => ?_)
  have hbb1 : b < nb_ (s_w1 s) := by show b < (s_w1 s).1 1; rw [s_w1_1]; exact hbb
  have ew : wt_ (s_w1 s) = wt_ s := by show (s_w1 s).2.2.2.2.1 5 = _; rw [s_w1_2]
  refine kw_aload_n dX9_await_0 rfl ?_
  refine kw_get dX9_await_1 fl_X9_31 rfl rfl ?_
  refine kw_callVf (As := []) (j_write1 l s k hc) dX9_await_4 cl_X9_94 rfl rfl rfl rfl (Nat.le_of_ble_eq_true rfl) ⟨(Nat.le_of_ble_eq_true rfl), (Nat.le_of_ble_eq_true rfl), (Nat.le_of_ble_eq_true rfl), (Nat.le_of_ble_eq_true rfl)⟩ ?_
  refine kw_if_ne (tgt := 12) dX9_await_7 (by decide) (fun c7 => ?_) (fun c7 => ?_)
  · skip
    refine kw_aload_n dX9_await_12 rfl ?_
    refine kw_get dX9_await_13 fl_X9_11 rfl rfl ?_
    refine kw_iload_n dX9_await_16 rfl ?_
    refine kw_aaldN dX9_await_17 rfl (by omega) (by decide) (if_pos hbb1) ?_
    refine kw_iload_n dX9_await_18 rfl ?_
    refine kw_put dX9_await_19 fl_X9_42 (hC_bl hbb1) (kw_ok_i _) (Nat.le_of_ble_eq_true rfl) ?_
    refine kw_heq (up_bwt _ k b hbb1 v) ?_
    refine kw_iconst (v := 1) dX9_await_22 (by decide) ?_
    exact kw_zret dX9_await_23 rfl (by decide) (Nat.le_of_ble_eq_true rfl) (Nat.le_of_ble_eq_true rfl) (hK _ _ _ ⟨rfl, rfl, by rw [s_await, ew]⟩)
  · skip
    exact absurd c7 (by decide)
set_option maxHeartbeats 4000000 in
set_option maxRecDepth 100000 in
theorem t_free0 (l : Launch) (s : SG) (k : KG) (hc : cut_ s = 0) (b : Int32) : kw_F l yX9_free cX9_free 3 (Option.some Jvm.ClassFile.FieldType.boolean) { frames := 2, cells := 0, slots := 0, locals := 42 } [pr_ (3, 0), pi_ b] (hC s k) (some (pi_ 0)) (hC (s_w0 s) k) := by
  refine kw_M_of RX9 "free" [some (pr_ (3, 0)), some (pi_ b), none] (by decide) rfl rfl rfl (Nat.le_of_ble_eq_true rfl) ?_
  intro D ad A
  refine kw_Kgen (fun K hK => ?_)
  refine kw_aload_n dX9_free_0 rfl ?_
  refine kw_get dX9_free_1 fl_X9_31 rfl rfl ?_
  refine kw_iconst (v := 1) dX9_free_4 (by decide) ?_
  refine kw_iload_n dX9_free_5 rfl ?_
  refine kw_callVf (As := [pi_ 1, pi_ b]) (j_ev0 l s k hc 1 b) dX9_free_6 cl_X9_71 rfl rfl rfl rfl (Nat.le_of_ble_eq_true rfl) ⟨(Nat.le_of_ble_eq_true rfl), (Nat.le_of_ble_eq_true rfl), (Nat.le_of_ble_eq_true rfl), (Nat.le_of_ble_eq_true rfl)⟩ ?_
  refine kw_if_ne (tgt := 14) dX9_free_9 (by decide) (fun c9 => ?_) (fun c9 => ?_)
  · skip
    exact absurd rfl c9
  · skip
    refine kw_iconst (v := 0) dX9_free_12 (by decide) ?_
    exact kw_zret dX9_free_13 rfl (by decide) (Nat.le_of_ble_eq_true rfl) (Nat.le_of_ble_eq_true rfl) (hK _ _ _ ⟨rfl, rfl, rfl⟩)
set_option maxHeartbeats 4000000 in
set_option maxRecDepth 100000 in
theorem t_free1 (l : Launch) (s : SG) (k : KG) (hc : ¬ cut_ s = 0) (hb : nb_ s ≤ 80) (hp : np_ s ≤ 40) (hn : nh_ s < 240) (b : Nat) (hbb : b < nb_ s) (hpk : pk_ s b < np_ s) : kw_F l yX9_free cX9_free 3 (Option.some Jvm.ClassFile.FieldType.boolean) { frames := 2, cells := 0, slots := 0, locals := 42 } [pr_ (3, 0), pi_ (nI b)] (hC s k) (some (pi_ 1)) (hC (s_free s b) (k_free s k b)) := by
  refine kw_M_of RX9 "free" [some (pr_ (3, 0)), some (pi_ (nI b)), none] (by decide) rfl rfl rfl (Nat.le_of_ble_eq_true rfl) ?_
  intro D ad A
  refine kw_Kgen (fun K hK => ?_)
  have e1 : (s_ev (s_w1 s) 1 b).1 1 = nb_ s := congrFun (s_w1_1 s) 1
  have e4 : (s_ev (s_w1 s) 1 b).1 4 = np_ s := congrFun (s_w1_1 s) 4
  have e2 : (s_ev (s_w1 s) 1 b).1 2 = nfr_ s := congrFun (s_w1_1 s) 2
  have ef : ∀ i, i < 10 → fs_ (s_ev (s_w1 s) 1 b) i = fs_ s i := fun i hi => by show va_up (va_up (s_w1 s).2.2.2.2.1 10 _) 11 _ i = _; rw [s_w1_2]; simp [va_up, show ¬ i = 10 by omega, show ¬ i = 11 by omega]
  have eg : gs_ (s_ev (s_w1 s) 1 b) = gs_ s := by show (s_w1 s).2.2.2.2.2.1 = _; rw [s_w1_2]
  have hb1 : b < nb_ (s_ev (s_w1 s) 1 b) := by rw [nb_, e1]; exact hbb
  have hp1 : pk_ s b < np_ (s_ev (s_w1 s) 1 b) := by rw [np_, e4]; exact hpk
  have hp40 : pk_ s b < 40 := by omega
  refine kw_aload_n dX9_free_0 rfl ?_
  refine kw_get dX9_free_1 fl_X9_31 rfl rfl ?_
  refine kw_iconst (v := 1) dX9_free_4 (by decide) ?_
  refine kw_iload_n dX9_free_5 rfl ?_
  refine kw_callVf (As := [pi_ (nI 1), pi_ (nI b)]) (j_ev1 l s k hc hn 1 b) dX9_free_6 cl_X9_71 rfl rfl rfl rfl (Nat.le_of_ble_eq_true rfl) ⟨(Nat.le_of_ble_eq_true rfl), (Nat.le_of_ble_eq_true rfl), (Nat.le_of_ble_eq_true rfl), (Nat.le_of_ble_eq_true rfl)⟩ ?_
  rw [s_free, s_free1, k_free] at hK
  rw [show th_ s = th_ (s_ev (s_w1 s) 1 b) from (congrFun eg 0).symm, show wt_ s = wt_ (s_ev (s_w1 s) 1 b) from (ef 5 (by decide)).symm, show nfr_ s = nfr_ (s_ev (s_w1 s) 1 b) from e2.symm, show sz_ s = sz_ (s_ev (s_w1 s) 1 b) from (ef 0 (by decide)).symm, show pk_ s = pk_ (s_ev (s_w1 s) 1 b) from (ef 3 (by decide)).symm] at hK
  rw [show pk_ s = pk_ (s_ev (s_w1 s) 1 b) from (ef 3 (by decide)).symm] at hp1 hp40
  generalize s_ev (s_w1 s) 1 b = s at hb1 hp1 hp40 hK e4 ⊢
  refine kw_if_ne (tgt := 14) dX9_free_9 (by decide) (fun c9 => ?_) (fun c9 => ?_)
  · skip
    refine kw_aload_n dX9_free_14 rfl ?_
    refine kw_get dX9_free_15 fl_X9_11 rfl rfl ?_
    refine kw_iload_n dX9_free_18 rfl ?_
    refine kw_aaldN dX9_free_19 rfl (by omega) (by decide) (if_pos hb1) ?_
    refine kw_astore_n dX9_free_20 (Nat.le_of_ble_eq_true rfl) ?_
    refine kw_aload_n dX9_free_21 rfl ?_
    refine kw_iconst (v := 1) dX9_free_22 (by decide) ?_
    refine kw_put dX9_free_23 fl_X9_38 (hC_bl hb1) (kw_ok_z (Or.inr rfl)) (Nat.le_of_ble_eq_true rfl) ?_
    refine kw_heq (up_bth s k b hb1 false) ?_
    refine kw_aload_n dX9_free_26 rfl ?_
    refine kw_iconst (v := 0) dX9_free_27 (by decide) ?_
    refine kw_put dX9_free_28 fl_X9_42 (hC_bl hb1) (kw_ok_i _) (Nat.le_of_ble_eq_true rfl) ?_
    refine kw_heq (up_bwt _ k b (by exact hb1) 0) ?_
    refine kw_aload_n dX9_free_31 rfl ?_
    refine kw_get dX9_free_32 fl_X9_19 rfl rfl ?_
    refine kw_aload_n dX9_free_35 rfl ?_
    refine kw_get dX9_free_36 fl_X9_49 (hC_bl hb1) rfl ?_
    refine kw_aaldN dX9_free_39 rfl (by exact hp40) (by decide) (if_pos hp1) ?_
    refine kw_dup dX9_free_40 rfl ?_
    refine kw_get dX9_free_41 fl_X9_88 (hC_pa hp1) rfl ?_
    refine kw_aload_n dX9_free_44 rfl ?_
    refine kw_get dX9_free_45 fl_X9_85 (hC_bl hb1) rfl ?_
    refine kw_iadd dX9_free_48 ?_
    refine kw_top (v' := pi_ (nI (ho_ k (pk_ s b) + sz_ s b))) (by rw [← nI_add] <;> rfl) ?_
    refine kw_put dX9_free_49 fl_X9_88 (hC_pa hp1) (kw_ok_i _) (Nat.le_of_ble_eq_true rfl) ?_
    refine kw_heq (up_pho _ k (pk_ s b) (by exact hp1) _) ?_
    refine kw_aload_n dX9_free_52 rfl ?_
    refine kw_dup dX9_free_53 rfl ?_
    refine kw_get dX9_free_54 fl_X9_91 rfl rfl ?_
    refine kw_iconst (v := 1) dX9_free_57 (by decide) ?_
    refine kw_iadd dX9_free_58 ?_
    refine kw_top (v' := pi_ (nI (nfr_ s + 1))) (by rw [← nI_1] <;> rfl) ?_
    refine kw_put dX9_free_59 fl_X9_91 rfl (kw_ok_i _) (Nat.le_of_ble_eq_true rfl) ?_
    refine kw_heq (up_nfr _ _ _) ?_
    refine kw_iconst (v := 1) dX9_free_62 (by decide) ?_
    exact kw_zret dX9_free_63 rfl (by decide) (Nat.le_of_ble_eq_true rfl) (Nat.le_of_ble_eq_true rfl) (hK _ _ _ ⟨rfl, rfl, rfl⟩)
  · skip
    exact absurd c9 (by decide)
