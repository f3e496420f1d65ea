/-! THE MODEL'S METHODS, 1 -/
set_option maxHeartbeats 4000000 in
set_option maxRecDepth 100000 in
theorem n_in (l : Launch) (h : PH) (x a b : Int64) : kw_F l yX12_in cX12_in 6 (Option.some Jvm.ClassFile.FieldType.boolean) { frames := 0, cells := 0, slots := 0, locals := 0 } [pl_ x, pl_ a, pl_ b] h (some (pi_ (b2 (decide (a ≤ x) && decide (x ≤ b))))) h := by
  refine kw_M_of RX12 "in" [some (pl_ x), none, some (pl_ a), none, some (pl_ b), none] (by decide) rfl rfl rfl (Nat.le_of_ble_eq_true rfl) ?_
  intro D ad A
  refine kw_Kgen (fun K hK => ?_)
  refine kw_lload_n dX12_in_0 rfl ?_
  refine kw_lload_n dX12_in_1 rfl ?_
  refine kw_lcmp dX12_in_2 ?_
  refine kw_if_lt (tgt := 17) dX12_in_3 (by decide) (fun c3 => ?_) (fun c3 => ?_)
  · skip
    refine kw_iconst (v := 0) dX12_in_17 (by decide) ?_
    exact kw_zret dX12_in_18 rfl (by decide) (Nat.le_of_ble_eq_true rfl) (Nat.le_of_ble_eq_true rfl) (hK _ _ _ ⟨rfl, by rw [decide_eq_false (fun q => absurd ((lg_cmp_lt _ _).mp c3) (Int64.not_lt.mpr q))]; rfl, rfl⟩)
  · skip
    have e3 : a ≤ x := Int64.not_lt.mp (fun q => c3 ((lg_cmp_lt _ _).mpr q))
    refine kw_lload_n dX12_in_6 rfl ?_
    refine kw_lload dX12_in_7 rfl ?_
    refine kw_lcmp dX12_in_9 ?_
    refine kw_if_gt (tgt := 17) dX12_in_10 (by decide) (fun c10 => ?_) (fun c10 => ?_)
    · skip
      refine kw_iconst (v := 0) dX12_in_17 (by decide) ?_
      exact kw_zret dX12_in_18 rfl (by decide) (Nat.le_of_ble_eq_true rfl) (Nat.le_of_ble_eq_true rfl) (hK _ _ _ ⟨rfl, by rw [decide_eq_false (p := x ≤ b) (fun q => absurd ((lg_cmp_gt _ _).mp c10) (Int64.not_lt.mpr q)), Bool.and_false]; rfl, rfl⟩)
    · skip
      refine kw_iconst (v := 1) dX12_in_13 (by decide) ?_
      refine kw_goto (tgt := 18) dX12_in_14 (by decide) ?_
      exact kw_zret dX12_in_18 rfl (by decide) (Nat.le_of_ble_eq_true rfl) (Nat.le_of_ble_eq_true rfl) (hK _ _ _ ⟨rfl, by rw [decide_eq_true e3, decide_eq_true (Int64.not_lt.mp (fun q => c10 ((lg_cmp_gt _ _).mpr q)))]; rfl, rfl⟩)
theorem n_inI (l : Launch) (h : PH) (x a b : Int32) : kw_F l yX12_in cX12_in 6 (Option.some Jvm.ClassFile.FieldType.boolean) { frames := 0, cells := 0, slots := 0, locals := 0 } [pl_ x.toInt64, pl_ a.toInt64, pl_ b.toInt64] h (some (pi_ (b2 (inB x a b)))) h := by
  have e : (decide (a.toInt64 ≤ x.toInt64) && decide (x.toInt64 ≤ b.toInt64)) = inB x a b := by
    unfold inB
    rw [decide_eq_decide.mpr i2_le, decide_eq_decide.mpr i2_le]
  have := n_in l h x.toInt64 a.toInt64 b.toInt64
  rw [e] at this
  exact this
theorem inB_t {x a b : Int32} (h : inB x a b = true) : a ≤ x ∧ x ≤ b := by
  unfold inB at h
  rw [Bool.and_eq_true] at h
  exact ⟨of_decide_eq_true h.1, of_decide_eq_true h.2⟩
theorem inB_f {x a b : Int32} (h : inB x a b = false) : x < a ∨ b < x := by
  unfold inB at h
  by_cases e : a ≤ x
  · refine Or.inr (Int32.not_le.mp (fun q => ?_))
    rw [decide_eq_true e, decide_eq_true q] at h
    cases h
  · exact Or.inl (Int32.not_le.mp e)
/-- an index within a row, as the model asks it -/
theorem inB_ix {x : Int32} {n : Nat} (hn : n < 2 ^ 31) (h : inB x 0 (nI n - 1) = true) : ∃ j, j < n ∧ x = nI j := by
  obtain ⟨h1, h2⟩ := inB_t h
  obtain ⟨j, hj, rfl⟩ := nI_of (x := x) (Int32.not_lt.mpr h1)
  cases n with
  | zero => exact absurd (Int32.le_trans h1 h2) (by decide)
  | succ n => rw [nI_pred] at h2; exact ⟨j, Nat.lt_succ_of_le (nI_le' hj (by omega) h2), rfl⟩
theorem inB_nix {x : Int32} {n j : Nat} (hn : n < 2 ^ 31) (hj : j < n) (h : inB x 0 (nI n - 1) = false) : x ≠ nI j := by
  intro e
  subst e
  cases n with
  | zero => omega
  | succ n =>
    rw [nI_pred] at h
    rcases inB_f h with q | q
    · exact nI_pos (by omega) q
    · exact absurd (nI_lt' (by omega) (by omega) q) (by omega)
theorem sF_c (s : SG) {i j : Nat} (h : i ≠ j) (a b : Nat → Nat) : sF (sF s i a) j b = sF (sF s j b) i a := by
  show (s.1, s.2.1, s.2.2.1, s.2.2.2.1, va_up (va_up s.2.2.2.2.1 i a) j b, s.2.2.2.2.2) = (s.1, s.2.1, s.2.2.1, s.2.2.2.1, va_up (va_up s.2.2.2.2.1 j b) i a, s.2.2.2.2.2)
  rw [va_up_comm _ h]
theorem sX_id (s : SG) : sX s 0 (cut_ s) = s := by
  show (s.1, va_up s.2.1 0 (s.2.1 0), s.2.2) = s
  rw [va_up_id]
set_option maxHeartbeats 4000000 in
set_option maxRecDepth 100000 in
theorem n_write0 (l : Launch) (s : SG) (k : KG) (hc : cut_ s = 0) : kw_F l yX12_write cX12_write 2 (Option.some Jvm.ClassFile.FieldType.boolean) { frames := 0, cells := 0, slots := 0, locals := 0 } [pr_ (40, 0)] (hM s k) (some (pi_ 0)) (hM (s_lost s) k) := by
  refine kw_M_of RX12 "write" [some (pr_ (40, 0)), none] (by decide) rfl rfl rfl (Nat.le_of_ble_eq_true rfl) ?_
  intro D ad A
  refine kw_Kgen (fun K hK => ?_)
  obtain ⟨t, ht⟩ : ∃ t, t = sN (sX (sDn s true) 0 (-1)) 10 0 := ⟨_, rfl⟩
  have htv : sv_ t = sv_ s := by rw [ht]
  have hf : s_lost s = sGb t 4 (rnone 4 (sv_ t)) := by rw [ht]; rfl
  rw [hf] at hK
  have loop : ∀ (n_ : Nat) (j : Nat), 4 - j < n_ → j ≤ 4 → kw_G l D cX12_write RX12 (Option.some Jvm.ClassFile.FieldType.boolean) "write" { frames := 0, cells := 0, slots := 0, locals := 0 } A K ad (hM (sGb t 4 (rnone j (sv_ t))) k) 0 0 24 [some (pr_ (40, 0)), some (pi_ (nI j))] [] := by
    intro n_
    induction n_ with
    | zero =>
      intro j hm_
      exact absurd hm_ (Nat.not_lt_zero _)
    | succ n_ ih =>
      intro j hm_ hj
      refine kw_iload_n dX12_write_24 rfl ?_
      refine kw_iconst (v := 4) dX12_write_25 (by decide) ?_
      refine kw_icmp_ge (tgt := 42) dX12_write_26 (by decide) (fun c26 => ?_) (fun c26 => ?_)
      · skip
        have e : j = 4 := Nat.le_antisymm hj (nI_le' (a := 4) (by omega) (by omega) c26)
        subst e
        refine kw_iconst (v := 0) dX12_write_42 (by decide) ?_
        exact kw_zret dX12_write_43 rfl (by decide) (Nat.le_of_ble_eq_true rfl) (Nat.le_of_ble_eq_true rfl) (hK _ _ _ ⟨rfl, rfl, rfl⟩)
      · skip
        have hlt : j < 4 := nI_nle' (a := 4) (by omega) (by omega) c26
        refine kw_aload_n dX12_write_29 rfl ?_
        refine kw_get dX12_write_30 fl_X12_79 rfl rfl ?_
        refine kw_iload_n dX12_write_33 rfl ?_
        refine kw_iconst (v := 0) dX12_write_34 (by decide) ?_
        refine kw_top (v' := pi_ (b2 false)) rfl ?_
        refine kw_zastN dX12_write_35 rfl hlt (by decide) ?_
        refine kw_heq (h' := hM (sGb t 4 (rnone (j + 1) (sv_ t))) k) ((uma_18 (sGb t 4 (rnone j (sv_ t))) k j false).trans (by rw [sGb2]; show hM (sGb t 4 (va_up (rnone j (sv_ t)) j false)) k = _; rw [rnone_s])) ?_
        refine kw_iinc dX12_write_36 rfl (nI_i j) ?_
        refine kw_goto (tgt := 24) dX12_write_39 (by decide) ?_
        exact ih (j + 1) (by omega) (by omega)
  refine kw_aload_n dX12_write_0 rfl ?_
  refine kw_get dX12_write_1 fl_X12_15 rfl rfl ?_
  refine kw_if_ne (tgt := 44) dX12_write_4 (by decide) (fun c4 => ?_) (fun c4 => ?_)
  · skip
    exact absurd hc c4
  · skip
    refine kw_aload_n dX12_write_7 rfl ?_
    refine kw_iconst (v := 1) dX12_write_8 (by decide) ?_
    refine kw_put dX12_write_9 fl_X12_127 rfl (kw_ok_z (Or.inr rfl)) (Nat.le_of_ble_eq_true rfl) ?_
    refine kw_heq (um_dn s k true) ?_
    refine kw_aload_n dX12_write_12 rfl ?_
    refine kw_iconst (v := (-1)) dX12_write_13 (by decide) ?_
    refine kw_put dX12_write_14 fl_X12_15 rfl (kw_ok_i _) (Nat.le_of_ble_eq_true rfl) ?_
    refine kw_heq (um_cut (sDn s true) k (-1)) ?_
    refine kw_aload_n dX12_write_17 rfl ?_
    refine kw_iconst (v := 0) dX12_write_18 (by decide) ?_
    refine kw_put dX12_write_19 fl_X12_131 rfl (kw_ok_i _) (Nat.le_of_ble_eq_true rfl) ?_
    refine kw_heq (um_ph (sX (sDn s true) 0 (-1)) k 0) ?_
    refine kw_iconst (v := 0) dX12_write_22 (by decide) ?_
    refine kw_istore_n dX12_write_23 (Nat.le_of_ble_eq_true rfl) ?_
    rw [← ht]
    refine kw_heq (h' := hM (sGb t 4 (rnone 0 (sv_ t))) k) (by rw [rnone_0, sGb_id]) ?_
    exact loop 5 0 (by omega) (by omega)
set_option maxHeartbeats 4000000 in
set_option maxRecDepth 100000 in
theorem n_write1 (l : Launch) (s : SG) (k : KG) (hc : ¬ cut_ s = 0) : kw_F l yX12_write cX12_write 2 (Option.some Jvm.ClassFile.FieldType.boolean) { frames := 0, cells := 0, slots := 0, locals := 0 } [pr_ (40, 0)] (hM s k) (some (pi_ 1)) (hM (s_w1 s) k) := by
  refine kw_M_of RX12 "write" [some (pr_ (40, 0)), none] (by decide) rfl rfl rfl (Nat.le_of_ble_eq_true rfl) ?_
  intro D ad A
  refine kw_Kgen (fun K hK => ?_)
  refine kw_aload_n dX12_write_0 rfl ?_
  refine kw_get dX12_write_1 fl_X12_15 rfl rfl ?_
  refine kw_if_ne (tgt := 44) dX12_write_4 (by decide) (fun c4 => ?_) (fun c4 => ?_)
  · skip
    refine kw_aload_n dX12_write_44 rfl ?_
    refine kw_aload_n dX12_write_45 rfl ?_
    refine kw_get dX12_write_46 fl_X12_15 rfl rfl ?_
    refine kw_if_le (tgt := 61) dX12_write_49 (by decide) (fun c49 => ?_) (fun c49 => ?_)
    · skip
      have es : s_w1 s = sX s 1 (wr_ s + 1) := if_pos c49
      rw [es] at hK
      refine kw_aload_n dX12_write_61 rfl ?_
      refine kw_get dX12_write_62 fl_X12_15 rfl rfl ?_
      refine kw_put dX12_write_65 fl_X12_15 rfl (kw_ok_i _) (Nat.le_of_ble_eq_true rfl) ?_
      refine kw_heq ((um_cut s k (cut_ s)).trans (by rw [sX_id])) ?_
      refine kw_aload_n dX12_write_68 rfl ?_
      refine kw_dup dX12_write_69 rfl ?_
      refine kw_get dX12_write_70 fl_X12_134 rfl rfl ?_
      refine kw_iconst (v := 1) dX12_write_73 (by decide) ?_
      refine kw_iadd dX12_write_74 ?_
      refine kw_put dX12_write_75 fl_X12_134 rfl (kw_ok_i _) (Nat.le_of_ble_eq_true rfl) ?_
      refine kw_heq (um_wr s k (wr_ s + 1)) ?_
      refine kw_iconst (v := 1) dX12_write_78 (by decide) ?_
      exact kw_zret dX12_write_79 rfl (by decide) (Nat.le_of_ble_eq_true rfl) (Nat.le_of_ble_eq_true rfl) (hK _ _ _ ⟨rfl, rfl, rfl⟩)
    · skip
      have es : s_w1 s = sX (sX s 0 (cut_ s - 1)) 1 (wr_ s + 1) := if_neg c49
      rw [es] at hK
      refine kw_aload_n dX12_write_52 rfl ?_
      refine kw_get dX12_write_53 fl_X12_15 rfl rfl ?_
      refine kw_iconst (v := 1) dX12_write_56 (by decide) ?_
      refine kw_isub dX12_write_57 ?_
      refine kw_goto (tgt := 65) dX12_write_58 (by decide) ?_
      refine kw_put dX12_write_65 fl_X12_15 rfl (kw_ok_i _) (Nat.le_of_ble_eq_true rfl) ?_
      refine kw_heq (um_cut s k (cut_ s - 1)) ?_
      refine kw_aload_n dX12_write_68 rfl ?_
      refine kw_dup dX12_write_69 rfl ?_
      refine kw_get dX12_write_70 fl_X12_134 rfl rfl ?_
      refine kw_iconst (v := 1) dX12_write_73 (by decide) ?_
      refine kw_iadd dX12_write_74 ?_
      refine kw_put dX12_write_75 fl_X12_134 rfl (kw_ok_i _) (Nat.le_of_ble_eq_true rfl) ?_
      refine kw_heq (um_wr (sX s 0 (cut_ s - 1)) k (wr_ s + 1)) ?_
      refine kw_iconst (v := 1) dX12_write_78 (by decide) ?_
      exact kw_zret dX12_write_79 rfl (by decide) (Nat.le_of_ble_eq_true rfl) (Nat.le_of_ble_eq_true rfl) (hK _ _ _ ⟨rfl, rfl, rfl⟩)
  · skip
    exact absurd c4 hc
set_option maxHeartbeats 4000000 in
set_option maxRecDepth 100000 in
theorem n_tell (l : Launch) (s : SG) (k : KG) (hn : nh_ s < 240) (e n : Nat) : kw_F l yX12_tell cX12_tell 3 (Option.none : Option Jvm.ClassFile.FieldType) { frames := 0, cells := 0, slots := 0, locals := 0 } [pr_ (40, 0), pi_ (nI e), pi_ (nI n)] (hM s k) none (hM (s_ev s e n) k) := by
  refine kw_M_of RX12 "tell" [some (pr_ (40, 0)), some (pi_ (nI e)), some (pi_ (nI n))] (by decide) rfl rfl rfl (Nat.le_of_ble_eq_true rfl) ?_
  intro D ad A
  refine kw_Kgen (fun K hK => ?_)
  refine kw_aload_n dX12_tell_0 rfl ?_
  refine kw_get dX12_tell_1 fl_X12_70 rfl rfl ?_
  refine kw_aload_n dX12_tell_4 rfl ?_
  refine kw_get dX12_tell_5 fl_X12_137 rfl rfl ?_
  refine kw_iload_n dX12_tell_8 rfl ?_
  refine kw_iastN dX12_tell_9 rfl hn (by decide) ?_
  refine kw_heq (uma_15 s k (nh_ s) e) ?_
  refine kw_aload_n dX12_tell_10 rfl ?_
  refine kw_get dX12_tell_11 fl_X12_73 rfl rfl ?_
  refine kw_aload_n dX12_tell_14 rfl ?_
  refine kw_get dX12_tell_15 fl_X12_137 rfl rfl ?_
  refine kw_iload_n dX12_tell_18 rfl ?_
  refine kw_iastN dX12_tell_19 rfl hn (by decide) ?_
  refine kw_heq (uma_16 (sF s 10 (va_up (hk_ s) (nh_ s) e)) k (nh_ s) n) ?_
  refine kw_aload_n dX12_tell_20 rfl ?_
  refine kw_dup dX12_tell_21 rfl ?_
  refine kw_get dX12_tell_22 fl_X12_137 rfl rfl ?_
  refine kw_iconst (v := 1) dX12_tell_25 (by decide) ?_
  refine kw_iadd dX12_tell_26 ?_
  refine kw_top (v' := pi_ (nI (nh_ s + 1))) (by rw [← nI_1]) ?_
  refine kw_put dX12_tell_27 fl_X12_137 rfl (kw_ok_i _) (Nat.le_of_ble_eq_true rfl) ?_
  refine kw_heq (um_nh _ k (nh_ s + 1)) ?_
  exact kw_vret dX12_tell_30 rfl (Nat.le_of_ble_eq_true rfl) (Nat.le_of_ble_eq_true rfl) (hK _ _ _ ⟨rfl, rfl, rfl⟩)
set_option maxHeartbeats 4000000 in
set_option maxRecDepth 100000 in
theorem M_cut (l : Launch) (s : SG) (k : KG) (x : Int32) : kw_F l yX12_cut cX12_cut 2 (Option.some Jvm.ClassFile.FieldType.int) { frames := 1, cells := 0, slots := 0, locals := 25 } [pr_ (40, 0), pi_ x] (hM s k) (some (pi_ (a_cut s x).1)) (hM (a_cut s x).2 k) := by
  refine kw_M_of RX12 "cut" [some (pr_ (40, 0)), some (pi_ x)] (by decide) rfl rfl rfl (Nat.le_of_ble_eq_true rfl) ?_
  intro D ad A
  refine kw_Kgen (fun K hK => ?_)
  refine kw_aload_n dX12_cut_0 rfl ?_
  refine kw_get dX12_cut_1 fl_X12_127 rfl rfl ?_
  refine kw_if_eq (tgt := 10) dX12_cut_4 (by decide) (fun c4 => ?_) (fun c4 => ?_)
  · skip
    have hd : ¬ dn_ s = true := by rw [b2_0.mp c4]; decide
    refine kw_iload_n dX12_cut_10 rfl ?_
    refine kw_i2l dX12_cut_11 ?_
    refine kw_ldc2 dX12_cut_12 kt_1057 ?_
    refine kw_top (v' := pl_ ((-1 : Int32).toInt64)) (by decide) ?_
    refine kw_ldc2 dX12_cut_15 kt_1058 ?_
    refine kw_top (v' := pl_ ((500 : Int32).toInt64)) (by decide) ?_
    refine kw_callSf (As := [pl_ x.toInt64, pl_ (-1 : Int32).toInt64, pl_ (500 : Int32).toInt64]) (n_inI l _ x (-1) 500) dX12_cut_18 cl_X12_144 rfl rfl (Nat.le_of_ble_eq_true rfl) ⟨(Nat.le_of_ble_eq_true rfl), (Nat.le_of_ble_eq_true rfl), (Nat.le_of_ble_eq_true rfl), (Nat.le_of_ble_eq_true rfl)⟩ ?_
    refine kw_if_ne (tgt := 27) dX12_cut_21 (by decide) (fun c21 => ?_) (fun c21 => ?_)
    · skip
      have e21 := inB_t (b2_n0.mp c21)
      rw [a_cut, if_neg hd, if_neg (fun q => q.elim (fun z => Int32.not_lt.mpr e21.1 z) (fun z => Int32.not_lt.mpr e21.2 z))] at hK
      refine kw_aload_n dX12_cut_27 rfl ?_
      refine kw_iload_n dX12_cut_28 rfl ?_
      refine kw_put dX12_cut_29 fl_X12_15 rfl (kw_ok_i _) (Nat.le_of_ble_eq_true rfl) ?_
      refine kw_heq (um_cut s k x) ?_
      refine kw_iconst (v := 1) dX12_cut_32 (by decide) ?_
      exact kw_iret dX12_cut_33 rfl (Nat.le_of_ble_eq_true rfl) (Nat.le_of_ble_eq_true rfl) (hK _ _ _ ⟨rfl, rfl, rfl⟩)
    · skip
      refine kw_bipush (v := (-102)) dX12_cut_24 (by decide) ?_
      exact kw_iret dX12_cut_26 rfl (Nat.le_of_ble_eq_true rfl) (Nat.le_of_ble_eq_true rfl) (hK _ _ _ ⟨rfl, by rw [a_cut, if_neg hd, if_pos (inB_f (b2_0.mp c21))], by rw [a_cut, if_neg hd, if_pos (inB_f (b2_0.mp c21))]⟩)
  · skip
    have hd := b2_n0.mp c4
    refine kw_bipush (v := (-106)) dX12_cut_7 (by decide) ?_
    exact kw_iret dX12_cut_9 rfl (Nat.le_of_ble_eq_true rfl) (Nat.le_of_ble_eq_true rfl) (hK _ _ _ ⟨rfl, by rw [a_cut, if_pos hd], by rw [a_cut, if_pos hd]⟩)
theorem in64_t {x a b : Int64} (h : (decide (a ≤ x) && decide (x ≤ b)) = true) : a ≤ x ∧ x ≤ b := by
  rw [Bool.and_eq_true] at h
  exact ⟨of_decide_eq_true h.1, of_decide_eq_true h.2⟩
theorem in64_f {x a b : Int64} (h : (decide (a ≤ x) && decide (x ≤ b)) = false) : x < a ∨ b < x := by
  by_cases e : a ≤ x
  · refine Or.inr (Int64.not_le.mp (fun q => ?_))
    rw [decide_eq_true e, decide_eq_true q] at h
    cases h
  · exact Or.inl (Int64.not_le.mp e)
set_option maxHeartbeats 4000000 in
set_option maxRecDepth 100000 in
theorem M_at (l : Launch) (s : SG) (k : KG) (t : Int64) : kw_F l yX12_at cX12_at 3 (Option.some Jvm.ClassFile.FieldType.int) { frames := 1, cells := 0, slots := 0, locals := 25 } [pr_ (40, 0), pl_ t] (hM s k) (some (pi_ (a_at s t).1)) (hM (a_at s t).2 k) := by
  refine kw_M_of RX12 "at" [some (pr_ (40, 0)), some (pl_ t), none] (by decide) rfl rfl rfl (Nat.le_of_ble_eq_true rfl) ?_
  intro D ad A
  refine kw_Kgen (fun K hK => ?_)
  refine kw_aload_n dX12_at_0 rfl ?_
  refine kw_get dX12_at_1 fl_X12_127 rfl rfl ?_
  refine kw_if_eq (tgt := 10) dX12_at_4 (by decide) (fun c4 => ?_) (fun c4 => ?_)
  · skip
    have hd : ¬ dn_ s = true := by rw [b2_0.mp c4]; decide
    refine kw_lload_n dX12_at_10 rfl ?_
    refine kw_aload_n dX12_at_11 rfl ?_
    refine kw_get dX12_at_12 fl_X12_9 rfl rfl ?_
    refine kw_ldc2 dX12_at_15 kt_1086 ?_
    refine kw_callSf (As := [pl_ t, pl_ (now_ s), pl_ 1000000000000]) (n_in l _ t (now_ s) 1000000000000) dX12_at_18 cl_X12_144 rfl rfl (Nat.le_of_ble_eq_true rfl) ⟨(Nat.le_of_ble_eq_true rfl), (Nat.le_of_ble_eq_true rfl), (Nat.le_of_ble_eq_true rfl), (Nat.le_of_ble_eq_true rfl)⟩ ?_
    refine kw_if_ne (tgt := 27) dX12_at_21 (by decide) (fun c21 => ?_) (fun c21 => ?_)
    · skip
      have e21 := in64_t (b2_n0.mp c21)
      rw [a_at, if_neg hd, if_neg (fun q => q.elim (fun z => Int64.not_lt.mpr e21.1 z) (fun z => Int64.not_lt.mpr e21.2 z))] at hK
      refine kw_aload_n dX12_at_27 rfl ?_
      refine kw_lload_n dX12_at_28 rfl ?_
      refine kw_put dX12_at_29 fl_X12_9 rfl (kw_ok_l _) (Nat.le_of_ble_eq_true rfl) ?_
      refine kw_heq (um_now s k t) ?_
      refine kw_iconst (v := 1) dX12_at_32 (by decide) ?_
      exact kw_iret dX12_at_33 rfl (Nat.le_of_ble_eq_true rfl) (Nat.le_of_ble_eq_true rfl) (hK _ _ _ ⟨rfl, rfl, rfl⟩)
    · skip
      have e21 : t < now_ s ∨ 1000000000000 < t := in64_f (b2_0.mp c21)
      refine kw_bipush (v := (-102)) dX12_at_24 (by decide) ?_
      exact kw_iret dX12_at_26 rfl (Nat.le_of_ble_eq_true rfl) (Nat.le_of_ble_eq_true rfl) (hK _ _ _ ⟨rfl, by rw [a_at, if_neg hd, if_pos e21], by rw [a_at, if_neg hd, if_pos e21]⟩)
  · skip
    have hd := b2_n0.mp c4
    refine kw_bipush (v := (-106)) dX12_at_7 (by decide) ?_
    exact kw_iret dX12_at_9 rfl (Nat.le_of_ble_eq_true rfl) (Nat.le_of_ble_eq_true rfl) (hK _ _ _ ⟨rfl, by rw [a_at, if_pos hd], by rw [a_at, if_pos hd]⟩)
set_option maxHeartbeats 4000000 in
set_option maxRecDepth 100000 in
theorem n_isSaver (l : Launch) (s : SG) (k : KG) (x : Int32) : kw_F l yX12_isSaver cX12_isSaver 2 (Option.some Jvm.ClassFile.FieldType.boolean) { frames := 1, cells := 0, slots := 0, locals := 25 } [pr_ (40, 0), pi_ x] (hM s k) (some (pi_ (b2 (svOk s x)))) (hM s k) := by
  refine kw_M_of RX12 "isSaver" [some (pr_ (40, 0)), some (pi_ x)] (by decide) rfl rfl rfl (Nat.le_of_ble_eq_true rfl) ?_
  intro D ad A
  refine kw_Kgen (fun K hK => ?_)
  refine kw_iload_n dX12_isSaver_0 rfl ?_
  refine kw_i2l dX12_isSaver_1 ?_
  refine kw_lconst (v := 0) dX12_isSaver_2 (by decide) ?_
  refine kw_top (v' := pl_ ((0 : Int32).toInt64)) (by decide) ?_
  refine kw_ldc2 dX12_isSaver_3 kt_1100 ?_
  refine kw_top (v' := pl_ ((nI 4 - 1).toInt64)) (by decide) ?_
  refine kw_callSf (As := [pl_ x.toInt64, pl_ (0 : Int32).toInt64, pl_ (nI 4 - 1).toInt64]) (n_inI l _ x 0 (nI 4 - 1)) dX12_isSaver_6 cl_X12_144 rfl rfl (Nat.le_of_ble_eq_true rfl) ⟨(Nat.le_of_ble_eq_true rfl), (Nat.le_of_ble_eq_true rfl), (Nat.le_of_ble_eq_true rfl), (Nat.le_of_ble_eq_true rfl)⟩ ?_
  refine kw_if_eq (tgt := 25) dX12_isSaver_9 (by decide) (fun c9 => ?_) (fun c9 => ?_)
  · skip
    have ec : svOk s x = false := anyN_f (fun j hj => by rw [decide_eq_false (inB_nix (by decide) hj (b2_0.mp c9))]; rfl)
    refine kw_iconst (v := 0) dX12_isSaver_25 (by decide) ?_
    exact kw_zret dX12_isSaver_26 rfl (by decide) (Nat.le_of_ble_eq_true rfl) (Nat.le_of_ble_eq_true rfl) (hK _ _ _ ⟨rfl, by rw [ec]; rfl, rfl⟩)
  · skip
    obtain ⟨j, hj, rfl⟩ := inB_ix (by decide) (b2_n0.mp c9)
    have ec : svOk s (nI j) = sv_ s j := ix_nI (by decide) hj
    refine kw_aload_n dX12_isSaver_12 rfl ?_
    refine kw_get dX12_isSaver_13 fl_X12_79 rfl rfl ?_
    refine kw_iload_n dX12_isSaver_16 rfl ?_
    refine kw_zaldN dX12_isSaver_17 rfl (by omega) (by decide) ?_
    refine kw_if_eq (tgt := 25) dX12_isSaver_18 (by decide) (fun c18 => ?_) (fun c18 => ?_)
    · skip
      refine kw_iconst (v := 0) dX12_isSaver_25 (by decide) ?_
      exact kw_zret dX12_isSaver_26 rfl (by decide) (Nat.le_of_ble_eq_true rfl) (Nat.le_of_ble_eq_true rfl) (hK _ _ _ ⟨rfl, by rw [ec, b2_0.mp c18]; rfl, rfl⟩)
    · skip
      refine kw_iconst (v := 1) dX12_isSaver_21 (by decide) ?_
      refine kw_goto (tgt := 26) dX12_isSaver_22 (by decide) ?_
      exact kw_zret dX12_isSaver_26 rfl (by decide) (Nat.le_of_ble_eq_true rfl) (Nat.le_of_ble_eq_true rfl) (hK _ _ _ ⟨rfl, by rw [ec, b2_n0.mp c18]; rfl, rfl⟩)
set_option maxHeartbeats 4000000 in
set_option maxRecDepth 100000 in
theorem n_isBlock (l : Launch) (s : SG) (k : KG) (hb : nb_ s ≤ 80) (x : Int32) : kw_F l yX12_isBlock cX12_isBlock 2 (Option.some Jvm.ClassFile.FieldType.boolean) { frames := 1, cells := 0, slots := 0, locals := 25 } [pr_ (40, 0), pi_ x] (hM s k) (some (pi_ (b2 (holdsB s x)))) (hM s k) := by
  refine kw_M_of RX12 "isBlock" [some (pr_ (40, 0)), some (pi_ x)] (by decide) rfl rfl rfl (Nat.le_of_ble_eq_true rfl) ?_
  intro D ad A
  refine kw_Kgen (fun K hK => ?_)
  refine kw_iload_n dX12_isBlock_0 rfl ?_
  refine kw_i2l dX12_isBlock_1 ?_
  refine kw_lconst (v := 0) dX12_isBlock_2 (by decide) ?_
  refine kw_top (v' := pl_ ((0 : Int32).toInt64)) (by decide) ?_
  refine kw_aload_n dX12_isBlock_3 rfl ?_
  refine kw_get dX12_isBlock_4 fl_X12_156 rfl rfl ?_
  refine kw_iconst (v := 1) dX12_isBlock_7 (by decide) ?_
  refine kw_isub dX12_isBlock_8 ?_
  refine kw_i2l dX12_isBlock_9 ?_
  refine kw_callSf (As := [pl_ x.toInt64, pl_ (0 : Int32).toInt64, pl_ (nI (nb_ s) - 1).toInt64]) (n_inI l _ x 0 (nI (nb_ s) - 1)) dX12_isBlock_10 cl_X12_144 rfl rfl (Nat.le_of_ble_eq_true rfl) ⟨(Nat.le_of_ble_eq_true rfl), (Nat.le_of_ble_eq_true rfl), (Nat.le_of_ble_eq_true rfl), (Nat.le_of_ble_eq_true rfl)⟩ ?_
  refine kw_if_eq (tgt := 29) dX12_isBlock_13 (by decide) (fun c13 => ?_) (fun c13 => ?_)
  · skip
    have ec : holdsB s x = false := anyN_f (fun j hj => by rw [decide_eq_false (inB_nix (show nb_ s < 2 ^ 31 by omega) hj (b2_0.mp c13))]; rfl)
    refine kw_iconst (v := 0) dX12_isBlock_29 (by decide) ?_
    exact kw_zret dX12_isBlock_30 rfl (by decide) (Nat.le_of_ble_eq_true rfl) (Nat.le_of_ble_eq_true rfl) (hK _ _ _ ⟨rfl, by rw [ec]; rfl, rfl⟩)
  · skip
    obtain ⟨j, hj, rfl⟩ := inB_ix (show nb_ s < 2 ^ 31 by omega) (b2_n0.mp c13)
    have ec : holdsB s (nI j) = th_ s j := ix_nI (show nb_ s < 2 ^ 31 by omega) hj
    refine kw_aload_n dX12_isBlock_16 rfl ?_
    refine kw_get dX12_isBlock_17 fl_X12_33 rfl rfl ?_
    refine kw_iload_n dX12_isBlock_20 rfl ?_
    refine kw_zaldN dX12_isBlock_21 rfl (by omega) (by decide) ?_
    refine kw_if_eq (tgt := 29) dX12_isBlock_22 (by decide) (fun c22 => ?_) (fun c22 => ?_)
    · skip
      refine kw_iconst (v := 0) dX12_isBlock_29 (by decide) ?_
      exact kw_zret dX12_isBlock_30 rfl (by decide) (Nat.le_of_ble_eq_true rfl) (Nat.le_of_ble_eq_true rfl) (hK _ _ _ ⟨rfl, by rw [ec, b2_0.mp c22]; rfl, rfl⟩)
    · skip
      refine kw_iconst (v := 1) dX12_isBlock_25 (by decide) ?_
      refine kw_goto (tgt := 30) dX12_isBlock_26 (by decide) ?_
      exact kw_zret dX12_isBlock_30 rfl (by decide) (Nat.le_of_ble_eq_true rfl) (Nat.le_of_ble_eq_true rfl) (hK _ _ _ ⟨rfl, by rw [ec, b2_n0.mp c22]; rfl, rfl⟩)
set_option maxHeartbeats 4000000 in
set_option maxRecDepth 100000 in
theorem n_isSnap (l : Launch) (s : SG) (k : KG) (hns : ns_ s ≤ 40) (x : Int32) : kw_F l yX12_isSnapshot cX12_isSnapshot 2 (Option.some Jvm.ClassFile.FieldType.boolean) { frames := 1, cells := 0, slots := 0, locals := 25 } [pr_ (40, 0), pi_ x] (hM s k) (some (pi_ (b2 (snOk s x)))) (hM s k) := by
  refine kw_M_of RX12 "isSnapshot" [some (pr_ (40, 0)), some (pi_ x)] (by decide) rfl rfl rfl (Nat.le_of_ble_eq_true rfl) ?_
  intro D ad A
  refine kw_Kgen (fun K hK => ?_)
  refine kw_iload_n dX12_isSnapshot_0 rfl ?_
  refine kw_i2l dX12_isSnapshot_1 ?_
  refine kw_lconst (v := 0) dX12_isSnapshot_2 (by decide) ?_
  refine kw_top (v' := pl_ ((0 : Int32).toInt64)) (by decide) ?_
  refine kw_aload_n dX12_isSnapshot_3 rfl ?_
  refine kw_get dX12_isSnapshot_4 fl_X12_218 rfl rfl ?_
  refine kw_iconst (v := 1) dX12_isSnapshot_7 (by decide) ?_
  refine kw_isub dX12_isSnapshot_8 ?_
  refine kw_i2l dX12_isSnapshot_9 ?_
  refine kw_callSf (As := [pl_ x.toInt64, pl_ (0 : Int32).toInt64, pl_ (nI (ns_ s) - 1).toInt64]) (n_inI l _ x 0 (nI (ns_ s) - 1)) dX12_isSnapshot_10 cl_X12_144 rfl rfl (Nat.le_of_ble_eq_true rfl) ⟨(Nat.le_of_ble_eq_true rfl), (Nat.le_of_ble_eq_true rfl), (Nat.le_of_ble_eq_true rfl), (Nat.le_of_ble_eq_true rfl)⟩ ?_
  refine kw_if_eq (tgt := 29) dX12_isSnapshot_13 (by decide) (fun c13 => ?_) (fun c13 => ?_)
  · skip
    have ec : snOk s x = false := anyN_f (fun j hj => by rw [decide_eq_false (inB_nix (show ns_ s < 2 ^ 31 by omega) hj (b2_0.mp c13))]; rfl)
    refine kw_iconst (v := 0) dX12_isSnapshot_29 (by decide) ?_
    exact kw_zret dX12_isSnapshot_30 rfl (by decide) (Nat.le_of_ble_eq_true rfl) (Nat.le_of_ble_eq_true rfl) (hK _ _ _ ⟨rfl, by rw [ec]; rfl, rfl⟩)
  · skip
    obtain ⟨j, hj, rfl⟩ := inB_ix (show ns_ s < 2 ^ 31 by omega) (b2_n0.mp c13)
    have ec : snOk s (nI j) = kp_ s j := ix_nI (show ns_ s < 2 ^ 31 by omega) hj
    refine kw_aload_n dX12_isSnapshot_16 rfl ?_
    refine kw_get dX12_isSnapshot_17 fl_X12_55 rfl rfl ?_
    refine kw_iload_n dX12_isSnapshot_20 rfl ?_
    refine kw_zaldN dX12_isSnapshot_21 rfl (by omega) (by decide) ?_
    refine kw_if_eq (tgt := 29) dX12_isSnapshot_22 (by decide) (fun c22 => ?_) (fun c22 => ?_)
    · skip
      refine kw_iconst (v := 0) dX12_isSnapshot_29 (by decide) ?_
      exact kw_zret dX12_isSnapshot_30 rfl (by decide) (Nat.le_of_ble_eq_true rfl) (Nat.le_of_ble_eq_true rfl) (hK _ _ _ ⟨rfl, by rw [ec, b2_0.mp c22]; rfl, rfl⟩)
    · skip
      refine kw_iconst (v := 1) dX12_isSnapshot_25 (by decide) ?_
      refine kw_goto (tgt := 30) dX12_isSnapshot_26 (by decide) ?_
      exact kw_zret dX12_isSnapshot_30 rfl (by decide) (Nat.le_of_ble_eq_true rfl) (Nat.le_of_ble_eq_true rfl) (hK _ _ _ ⟨rfl, by rw [ec, b2_n0.mp c22]; rfl, rfl⟩)
set_option maxHeartbeats 4000000 in
set_option maxRecDepth 100000 in
theorem n_isDead (l : Launch) (s : SG) (k : KG) (j : Nat) (hj : j < 4) : kw_F l yX12_isDead cX12_isDead 2 (Option.some Jvm.ClassFile.FieldType.boolean) { frames := 0, cells := 0, slots := 0, locals := 0 } [pr_ (40, 0), pi_ (nI j)] (hM s k) (some (pi_ (b2 (dead_ s j)))) (hM s k) := by
  refine kw_M_of RX12 "isDead" [some (pr_ (40, 0)), some (pi_ (nI j))] (by decide) rfl rfl rfl (Nat.le_of_ble_eq_true rfl) ?_
  intro D ad A
  refine kw_Kgen (fun K hK => ?_)
  refine kw_aload_n dX12_isDead_0 rfl ?_
  refine kw_get dX12_isDead_1 fl_X12_9 rfl rfl ?_
  refine kw_aload_n dX12_isDead_4 rfl ?_
  refine kw_get dX12_isDead_5 fl_X12_85 rfl rfl ?_
  refine kw_iload_n dX12_isDead_8 rfl ?_
  refine kw_laldN dX12_isDead_9 rfl hj (by decide) ?_
  refine kw_lcmp dX12_isDead_10 ?_
  refine kw_if_le (tgt := 18) dX12_isDead_11 (by decide) (fun c11 => ?_) (fun c11 => ?_)
  · skip
    refine kw_iconst (v := 0) dX12_isDead_18 (by decide) ?_
    exact kw_zret dX12_isDead_19 rfl (by decide) (Nat.le_of_ble_eq_true rfl) (Nat.le_of_ble_eq_true rfl) (hK _ _ _ ⟨rfl, by rw [dead_, decide_eq_false (fun q => absurd ((lg_cmp_gt _ _).mpr q) (Int32.not_lt.mpr c11))]; rfl, rfl⟩)
  · skip
    refine kw_iconst (v := 1) dX12_isDead_14 (by decide) ?_
    refine kw_goto (tgt := 19) dX12_isDead_15 (by decide) ?_
    exact kw_zret dX12_isDead_19 rfl (by decide) (Nat.le_of_ble_eq_true rfl) (Nat.le_of_ble_eq_true rfl) (hK _ _ _ ⟨rfl, by rw [dead_, decide_eq_true ((lg_cmp_gt _ _).mp (Int32.not_le.mp c11))]; rfl, rfl⟩)
set_option maxHeartbeats 4000000 in
set_option maxRecDepth 100000 in
theorem n_meet (l : Launch) (s : SG) (k : KG) (j : Nat) (hj : j < 4) : kw_F l yX12_meet cX12_meet 2 (Option.some Jvm.ClassFile.FieldType.boolean) { frames := 1, cells := 0, slots := 0, locals := 21 } [pr_ (40, 0), pi_ (nI j)] (hM s k) (some (pi_ (b2 (!dead_ s j)))) (hM (s_rn s j) k) := by
  refine kw_M_of RX12 "meet" [some (pr_ (40, 0)), some (pi_ (nI j))] (by decide) rfl rfl rfl (Nat.le_of_ble_eq_true rfl) ?_
  intro D ad A
  refine kw_Kgen (fun K hK => ?_)
  refine kw_aload_n dX12_meet_0 rfl ?_
  refine kw_iload_n dX12_meet_1 rfl ?_
  refine kw_callVf (As := [pi_ (nI j)]) (n_isDead l s k j hj) dX12_meet_2 cl_X12_159 rfl rfl rfl rfl (Nat.le_of_ble_eq_true rfl) ⟨(Nat.le_of_ble_eq_true rfl), (Nat.le_of_ble_eq_true rfl), (Nat.le_of_ble_eq_true rfl), (Nat.le_of_ble_eq_true rfl)⟩ ?_
  refine kw_if_eq (tgt := 10) dX12_meet_5 (by decide) (fun c5 => ?_) (fun c5 => ?_)
  · skip
    have e5 := b2_0.mp c5
    refine kw_aload_n dX12_meet_10 rfl ?_
    refine kw_get dX12_meet_11 fl_X12_85 rfl rfl ?_
    refine kw_iload_n dX12_meet_14 rfl ?_
    refine kw_aload_n dX12_meet_15 rfl ?_
    refine kw_get dX12_meet_16 fl_X12_9 rfl rfl ?_
    refine kw_aload_n dX12_meet_19 rfl ?_
    refine kw_get dX12_meet_20 fl_X12_82 rfl rfl ?_
    refine kw_iload_n dX12_meet_23 rfl ?_
    refine kw_ialdN dX12_meet_24 rfl hj (by decide) ?_
    refine kw_i2l dX12_meet_25 ?_
    refine kw_ladd dX12_meet_26 ?_
    refine kw_lastN dX12_meet_27 rfl hj (by decide) ?_
    refine kw_heq (uma_20 s k j _) ?_
    refine kw_iconst (v := 1) dX12_meet_28 (by decide) ?_
    exact kw_zret dX12_meet_29 rfl (by decide) (Nat.le_of_ble_eq_true rfl) (Nat.le_of_ble_eq_true rfl) (hK _ _ _ ⟨rfl, by rw [e5]; rfl, by rw [s_rn, e5]; rfl⟩)
  · skip
    have e5 := b2_n0.mp c5
    refine kw_iconst (v := 0) dX12_meet_8 (by decide) ?_
    exact kw_zret dX12_meet_9 rfl (by decide) (Nat.le_of_ble_eq_true rfl) (Nat.le_of_ble_eq_true rfl) (hK _ _ _ ⟨rfl, by rw [e5]; rfl, by rw [s_rn, e5]; rfl⟩)
set_option maxHeartbeats 4000000 in
set_option maxRecDepth 100000 in
theorem n_uses (l : Launch) (s : SG) (k : KG) (j : Nat) (hj : j < 4) (hu : um_ s j ≤ 8) (hm : ∀ i, i < um_ s j → kn_ k 5 (8 * j + i) = us_ s j i) (b : Int32) : kw_F l yX12_uses cX12_uses 5 (Option.some Jvm.ClassFile.FieldType.boolean) { frames := 0, cells := 0, slots := 0, locals := 0 } [pr_ (40, 0), pi_ (nI j), pi_ b] (hM s k) (some (pi_ (b2 (usesB s j b)))) (hM s k) := by
  refine kw_M_of RX12 "uses" [some (pr_ (40, 0)), some (pi_ (nI j)), some (pi_ b), none, none] (by decide) rfl rfl rfl (Nat.le_of_ble_eq_true rfl) ?_
  intro D ad A
  refine kw_Kgen (fun K hK => ?_)
  have loop : ∀ (n_ : Nat) (i : Nat), um_ s j - i < n_ → i ≤ um_ s j → kw_G l D cX12_uses RX12 (Option.some Jvm.ClassFile.FieldType.boolean) "uses" { frames := 0, cells := 0, slots := 0, locals := 0 } A K ad (hM s k) 0 0 5 [some (pr_ (40, 0)), some (pi_ (nI j)), some (pi_ b), some (pi_ (b2 (anyN (fun q => decide (nI (us_ s j q) = b)) i))), some (pi_ (nI i))] [] := by
    intro n_
    induction n_ with
    | zero =>
      intro i hm_
      exact absurd hm_ (Nat.not_lt_zero _)
    | succ n_ ih =>
      intro i hm_ hi
      refine kw_iload dX12_uses_5 rfl ?_
      refine kw_aload_n dX12_uses_7 rfl ?_
      refine kw_get dX12_uses_8 fl_X12_88 rfl rfl ?_
      refine kw_iload_n dX12_uses_11 rfl ?_
      refine kw_ialdN dX12_uses_12 rfl hj (by decide) ?_
      refine kw_icmp_ge (tgt := 48) dX12_uses_13 (by decide) (fun c13 => ?_) (fun c13 => ?_)
      · skip
        have e : i = um_ s j := Nat.le_antisymm hi (nI_le' (by omega) (by omega) c13)
        subst e
        refine kw_iload_n dX12_uses_48 rfl ?_
        exact kw_zret dX12_uses_49 rfl (b2_nar _) (Nat.le_of_ble_eq_true rfl) (Nat.le_of_ble_eq_true rfl) (hK _ _ _ ⟨rfl, rfl, rfl⟩)
      · skip
        have hlt : i < um_ s j := nI_nle' (by omega) (by omega) c13
        refine kw_iload_n dX12_uses_16 rfl ?_
        refine kw_if_ne (tgt := 36) dX12_uses_17 (by decide) (fun c17 => ?_) (fun c17 => ?_)
        · skip
          have e17 := b2_n0.mp c17
          refine kw_iconst (v := 1) dX12_uses_36 (by decide) ?_
          refine kw_goto (tgt := 41) dX12_uses_37 (by decide) ?_
          refine kw_top (v' := pi_ (b2 (anyN (fun q => decide (nI (us_ s j q) = b)) (i + 1)))) (by rw [anyN, e17]; simp [b2]) ?_
          refine kw_istore_n dX12_uses_41 (Nat.le_of_ble_eq_true rfl) ?_
          refine kw_iinc dX12_uses_42 rfl (nI_i i) ?_
          refine kw_goto (tgt := 5) dX12_uses_45 (by decide) ?_
          exact ih (i + 1) (by omega) (by omega)
        · skip
          have e17 := b2_0.mp c17
          refine kw_aload_n dX12_uses_20 rfl ?_
          refine kw_get dX12_uses_21 fl_X12_91 rfl rfl ?_
          refine kw_bipush (v := (nI 8)) dX12_uses_24 (by decide) ?_
          refine kw_iload_n dX12_uses_26 rfl ?_
          refine kw_imul dX12_uses_27 ?_
          refine kw_top (v' := pi_ (nI (8 * j))) (by rw [nI_mul]) ?_
          refine kw_iload dX12_uses_28 rfl ?_
          refine kw_iadd dX12_uses_30 ?_
          refine kw_top (v' := pi_ (nI (8 * j + i))) (by rw [nI_add]) ?_
          refine kw_ialdN dX12_uses_31 rfl (by omega) (by decide) ?_
          refine kw_top (v' := pi_ (nI (us_ s j i))) (by rw [hm i hlt]) ?_
          refine kw_iload_n dX12_uses_32 rfl ?_
          refine kw_icmp_ne (tgt := 40) dX12_uses_33 (by decide) (fun c33 => ?_) (fun c33 => ?_)
          · skip
            refine kw_iconst (v := 0) dX12_uses_40 (by decide) ?_
            refine kw_top (v' := pi_ (b2 (anyN (fun q => decide (nI (us_ s j q) = b)) (i + 1)))) (by rw [anyN, e17, decide_eq_false c33]; rfl) ?_
            refine kw_istore_n dX12_uses_41 (Nat.le_of_ble_eq_true rfl) ?_
            refine kw_iinc dX12_uses_42 rfl (nI_i i) ?_
            refine kw_goto (tgt := 5) dX12_uses_45 (by decide) ?_
            exact ih (i + 1) (by omega) (by omega)
          · skip
            refine kw_iconst (v := 1) dX12_uses_36 (by decide) ?_
            refine kw_goto (tgt := 41) dX12_uses_37 (by decide) ?_
            refine kw_top (v' := pi_ (b2 (anyN (fun q => decide (nI (us_ s j q) = b)) (i + 1)))) (by rw [anyN, e17, decide_eq_true c33]; rfl) ?_
            refine kw_istore_n dX12_uses_41 (Nat.le_of_ble_eq_true rfl) ?_
            refine kw_iinc dX12_uses_42 rfl (nI_i i) ?_
            refine kw_goto (tgt := 5) dX12_uses_45 (by decide) ?_
            exact ih (i + 1) (by omega) (by omega)
  refine kw_iconst (v := 0) dX12_uses_0 (by decide) ?_
  refine kw_istore_n dX12_uses_1 (Nat.le_of_ble_eq_true rfl) ?_
  refine kw_iconst (v := 0) dX12_uses_2 (by decide) ?_
  refine kw_istore dX12_uses_3 (Nat.le_of_ble_eq_true rfl) ?_
  exact loop (um_ s j + 1) 0 (by omega) (by omega)
