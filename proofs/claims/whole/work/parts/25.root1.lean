/-! THE CLASS'S OWN HELPERS -/
abbrev cl_ (x : Int32) : Nat := x.toNatClampNeg
def svOk (s : SG) (x : Int32) : Bool := anyN (fun j => decide (x = nI j) && sv_ s j) 4
def snOk (s : SG) (x : Int32) : Bool := anyN (fun j => decide (x = nI j) && kp_ s j) (ns_ s)
theorem ix_cases {p : Nat → Bool} {n : Nat} (hn : n < 2 ^ 31) (x : Int32) : anyN (fun j => decide (x = nI j) && p j) n = false ∧ (∀ j, j < n → x = nI j → p j = false) ∨ ∃ j, j < n ∧ x = nI j ∧ p j = true ∧ anyN (fun j => decide (x = nI j) && p j) n = true ∧ cl_ x = j := by
  cases h : anyN (fun j => decide (x = nI j) && p j) n with
  | false =>
    refine Or.inl ⟨rfl, fun j hj e => ?_⟩
    cases h2 : p j with
    | false => rfl
    | true =>
      have := anyN_t (p := fun j => decide (x = nI j) && p j) hj (by simp [e, h2])
      rw [h] at this; cases this
  | true =>
    obtain ⟨j, hj, h2⟩ := anyN_iff.mp h
    rw [Bool.and_eq_true] at h2
    have e := of_decide_eq_true h2.1
    exact Or.inr ⟨j, hj, e, h2.2, rfl, by rw [e]; exact nI_clamp (by omega)⟩
theorem ix_nI {p : Nat → Bool} {n j : Nat} (hn : n < 2 ^ 31) (hj : j < n) : anyN (fun i => decide (nI j = nI i) && p i) n = p j := by
  cases h : p j with
  | true => exact anyN_t hj (by simp [h])
  | false =>
    refine anyN_f (fun a ha => ?_)
    by_cases q : nI j = nI a
    · rw [← nI_eq' (by omega) (by omega) q, h, Bool.and_false]
    · rw [decide_eq_false q]; rfl
def s_gone (s : SG) : SG := sN (sGb s 4 (rnone 4 (sv_ s))) 10 0
/-- what power that goes leaves -/
def s_lost (s : SG) : SG := s_gone (s_w0 s)
def thereN (s : SG) : Nat := cntN (fun j => kp_ s j) (ns_ s)
def s_rmv (s : SG) (b : Nat) : SG := sGb (s_ev (s_w1 s) 3 b) 3 (va_up (kp_ s) b false)
def useN (s : SG) (b : Int32) : Nat := cntN (fun j => sv_ s j && usesB s j b) 4
set_option maxHeartbeats 4000000 in
set_option maxRecDepth 100000 in
theorem o_lose (l : Launch) (s : SG) (k : KG) : kw_F l yX11_losePower cX11_losePower 2 (Option.some Jvm.ClassFile.FieldType.int) { frames := 0, cells := 0, slots := 0, locals := 0 } [pr_ (0, 0)] (hC s k) (some (pi_ (-105))) (hC (s_gone s) k) := by
  refine kw_M_of RX11 "losePower" [some (pr_ (0, 0)), none] (by decide) rfl rfl rfl (Nat.le_of_ble_eq_true rfl) ?_
  intro D ad A
  refine kw_Kgen (fun K hK => ?_)
  have loop : ∀ (n_ : Nat) (j : Nat), 4 - j < n_ → j ≤ 4 → kw_G l D cX11_losePower RX11 (Option.some Jvm.ClassFile.FieldType.int) "losePower" { frames := 0, cells := 0, slots := 0, locals := 0 } A K ad (hC (sGb s 4 (rnone j (sv_ s))) k) 0 0 2 [some (pr_ (0, 0)), some (pi_ (nI j))] [] := by
    intro n_
    induction n_ with
    | zero =>
      intro j hm_
      exact absurd hm_ (Nat.not_lt_zero _)
    | succ n_ ih =>
      intro j hm_ hj
      refine kw_iload_n dX11_losePower_2 rfl ?_
      refine kw_iconst (v := 4) dX11_losePower_3 (by decide) ?_
      refine kw_icmp_ge (tgt := 23) dX11_losePower_4 (by decide) (fun c4 => ?_) (fun c4 => ?_)
      · skip
        have e : j = 4 := Nat.le_antisymm hj (nI_le' (a := 4) (by omega) (by omega) c4)
        refine kw_aload_n dX11_losePower_23 rfl ?_
        refine kw_get dX11_losePower_24 fl_X11_39 rfl rfl ?_
        refine kw_iconst (v := 0) dX11_losePower_27 (by decide) ?_
        refine kw_put dX11_losePower_28 fl_X11_229 rfl (kw_ok_i _) (Nat.le_of_ble_eq_true rfl) ?_
        refine kw_heq (up_wph _ k 0) ?_
        refine kw_bipush (v := (-105)) dX11_losePower_31 (by decide) ?_
        exact kw_iret dX11_losePower_33 rfl (Nat.le_of_ble_eq_true rfl) (Nat.le_of_ble_eq_true rfl) (hK _ _ _ ⟨rfl, rfl, by rw [e]; rfl⟩)
      · skip
        have hlt : j < 4 := nI_nle' (a := 4) (by omega) (by omega) c4
        refine kw_aload_n dX11_losePower_7 rfl ?_
        refine kw_get dX11_losePower_8 fl_X11_52 rfl rfl ?_
        refine kw_iload_n dX11_losePower_11 rfl ?_
        refine kw_aaldN dX11_losePower_12 rfl hlt (by decide) (if_pos hlt) ?_
        refine kw_iconst (v := 0) dX11_losePower_13 (by decide) ?_
        refine kw_put dX11_losePower_14 fl_X11_87 (hC_sa hlt) (kw_ok_z (Or.inl rfl)) (Nat.le_of_ble_eq_true rfl) ?_
        refine kw_heq (up_ssv _ k j hlt false) ?_
        rw [show sv_ (sGb s 4 (rnone j (sv_ s))) = rnone j (sv_ s) from rfl, rnone_s, sGb2]
        refine kw_iinc dX11_losePower_17 rfl (nI_i j) ?_
        refine kw_goto (tgt := 2) dX11_losePower_20 (by decide) ?_
        exact ih (j + 1) (by omega) (by omega)
  refine kw_iconst (v := 0) dX11_losePower_0 (by decide) ?_
  refine kw_istore_n dX11_losePower_1 (Nat.le_of_ble_eq_true rfl) ?_
  have h0 : hC s k = hC (sGb s 4 (rnone 0 (sv_ s))) k := by rw [rnone_0]; exact congrArg (fun x => hC x k) (sGb_id s 4).symm
  rw [h0]
  exact loop 5 0 (by omega) (by omega)
set_option maxHeartbeats 4000000 in
set_option maxRecDepth 100000 in
theorem o_sv1 (l : Launch) (s : SG) (k : KG) (j : Nat) (hj : j < 4) (hs : sv_ s j = true) : kw_F l yX11_saverHere cX11_saverHere 3 (Option.some (Jvm.ClassFile.FieldType.object "SafeSweeps$Saver")) { frames := 0, cells := 0, slots := 0, locals := 0 } [pr_ (0, 0), pi_ (nI j)] (hC s k) (some (pr_ (12, j))) (hC s k) := by
  refine kw_M_of RX11 "saverHere" [some (pr_ (0, 0)), some (pi_ (nI j)), none] (by decide) rfl rfl rfl (Nat.le_of_ble_eq_true rfl) ?_
  intro D ad A
  refine kw_Kgen (fun K hK => ?_)
  refine kw_iload_n dX11_saverHere_0 rfl ?_
  refine kw_if_lt (tgt := 25) dX11_saverHere_1 (by decide) (fun c1 => ?_) (fun c1 => ?_)
  · skip
    exact absurd c1 (nI_pos (by omega))
  · skip
    refine kw_iload_n dX11_saverHere_4 rfl ?_
    refine kw_iconst (v := 4) dX11_saverHere_5 (by decide) ?_
    refine kw_icmp_ge (tgt := 25) dX11_saverHere_6 (by decide) (fun c6 => ?_) (fun c6 => ?_)
    · skip
      exact absurd c6 (nI_ge (b := 4) hj (by decide))
    · skip
      refine kw_aload_n dX11_saverHere_9 rfl ?_
      refine kw_get dX11_saverHere_10 fl_X11_52 rfl rfl ?_
      refine kw_iload_n dX11_saverHere_13 rfl ?_
      refine kw_aaldN dX11_saverHere_14 rfl hj (by decide) (if_pos hj) ?_
      refine kw_get dX11_saverHere_15 fl_X11_87 (hC_sa hj) rfl ?_
      refine kw_if_eq (tgt := 25) dX11_saverHere_18 (by decide) (fun c18 => ?_) (fun c18 => ?_)
      · skip
        exact absurd c18 (by rw [hs]; decide)
      · skip
        refine kw_iconst (v := 1) dX11_saverHere_21 (by decide) ?_
        refine kw_goto (tgt := 26) dX11_saverHere_22 (by decide) ?_
        refine kw_istore_n dX11_saverHere_26 (Nat.le_of_ble_eq_true rfl) ?_
        refine kw_iload_n dX11_saverHere_27 rfl ?_
        refine kw_if_eq (tgt := 40) dX11_saverHere_28 (by decide) (fun c28 => ?_) (fun c28 => ?_)
        · skip
          exact absurd c28 (by decide)
        · skip
          refine kw_aload_n dX11_saverHere_31 rfl ?_
          refine kw_get dX11_saverHere_32 fl_X11_52 rfl rfl ?_
          refine kw_iload_n dX11_saverHere_35 rfl ?_
          refine kw_aaldN dX11_saverHere_36 rfl hj (by decide) (if_pos hj) ?_
          refine kw_goto (tgt := 41) dX11_saverHere_37 (by decide) ?_
          exact kw_aret dX11_saverHere_41 rfl (Or.inl ⟨_, rfl⟩) (Nat.le_of_ble_eq_true rfl) (Nat.le_of_ble_eq_true rfl) (hK _ _ _ ⟨rfl, rfl, rfl⟩)
set_option maxHeartbeats 4000000 in
set_option maxRecDepth 100000 in
theorem o_sv0 (l : Launch) (s : SG) (k : KG) (x : Int32) (hs : ∀ j, j < 4 → x = nI j → sv_ s j = false) : kw_F l yX11_saverHere cX11_saverHere 3 (Option.some (Jvm.ClassFile.FieldType.object "SafeSweeps$Saver")) { frames := 0, cells := 0, slots := 0, locals := 0 } [pr_ (0, 0), pi_ x] (hC s k) (some pn_) (hC s k) := by
  refine kw_M_of RX11 "saverHere" [some (pr_ (0, 0)), some (pi_ x), none] (by decide) rfl rfl rfl (Nat.le_of_ble_eq_true rfl) ?_
  intro D ad A
  refine kw_Kgen (fun K hK => ?_)
  rcases pk_ix x (n := 4) (by decide) with hneg | hbig | ⟨j, hj, rfl⟩
  · skip
    refine kw_iload_n dX11_saverHere_0 rfl ?_
    refine kw_if_lt (tgt := 25) dX11_saverHere_1 (by decide) (fun c1 => ?_) (fun c1 => ?_)
    · skip
      refine kw_iconst (v := 0) dX11_saverHere_25 (by decide) ?_
      refine kw_istore_n dX11_saverHere_26 (Nat.le_of_ble_eq_true rfl) ?_
      refine kw_iload_n dX11_saverHere_27 rfl ?_
      refine kw_if_eq (tgt := 40) dX11_saverHere_28 (by decide) (fun c28 => ?_) (fun c28 => ?_)
      · skip
        refine kw_null dX11_saverHere_40 ?_
        exact kw_aret dX11_saverHere_41 rfl (Or.inl ⟨_, rfl⟩) (Nat.le_of_ble_eq_true rfl) (Nat.le_of_ble_eq_true rfl) (hK _ _ _ ⟨rfl, rfl, rfl⟩)
      · skip
        exact absurd rfl c28
    · skip
      exact absurd hneg c1
  · skip
    refine kw_iload_n dX11_saverHere_0 rfl ?_
    refine kw_if_lt (tgt := 25) dX11_saverHere_1 (by decide) (fun c1 => ?_) (fun c1 => ?_)
    · skip
      refine kw_iconst (v := 0) dX11_saverHere_25 (by decide) ?_
      refine kw_istore_n dX11_saverHere_26 (Nat.le_of_ble_eq_true rfl) ?_
      refine kw_iload_n dX11_saverHere_27 rfl ?_
      refine kw_if_eq (tgt := 40) dX11_saverHere_28 (by decide) (fun c28 => ?_) (fun c28 => ?_)
      · skip
        refine kw_null dX11_saverHere_40 ?_
        exact kw_aret dX11_saverHere_41 rfl (Or.inl ⟨_, rfl⟩) (Nat.le_of_ble_eq_true rfl) (Nat.le_of_ble_eq_true rfl) (hK _ _ _ ⟨rfl, rfl, rfl⟩)
      · skip
        exact absurd rfl c28
    · skip
      refine kw_iload_n dX11_saverHere_4 rfl ?_
      refine kw_iconst (v := 4) dX11_saverHere_5 (by decide) ?_
      refine kw_icmp_ge (tgt := 25) dX11_saverHere_6 (by decide) (fun c6 => ?_) (fun c6 => ?_)
      · skip
        refine kw_iconst (v := 0) dX11_saverHere_25 (by decide) ?_
        refine kw_istore_n dX11_saverHere_26 (Nat.le_of_ble_eq_true rfl) ?_
        refine kw_iload_n dX11_saverHere_27 rfl ?_
        refine kw_if_eq (tgt := 40) dX11_saverHere_28 (by decide) (fun c28 => ?_) (fun c28 => ?_)
        · skip
          refine kw_null dX11_saverHere_40 ?_
          exact kw_aret dX11_saverHere_41 rfl (Or.inl ⟨_, rfl⟩) (Nat.le_of_ble_eq_true rfl) (Nat.le_of_ble_eq_true rfl) (hK _ _ _ ⟨rfl, rfl, rfl⟩)
        · skip
          exact absurd rfl c28
      · skip
        exact absurd hbig c6
  · skip
    refine kw_iload_n dX11_saverHere_0 rfl ?_
    refine kw_if_lt (tgt := 25) dX11_saverHere_1 (by decide) (fun c1 => ?_) (fun c1 => ?_)
    · skip
      exact absurd c1 (nI_pos (by omega))
    · skip
      refine kw_iload_n dX11_saverHere_4 rfl ?_
      refine kw_iconst (v := 4) dX11_saverHere_5 (by decide) ?_
      refine kw_icmp_ge (tgt := 25) dX11_saverHere_6 (by decide) (fun c6 => ?_) (fun c6 => ?_)
      · skip
        exact absurd c6 (nI_ge (b := 4) hj (by decide))
      · skip
        refine kw_aload_n dX11_saverHere_9 rfl ?_
        refine kw_get dX11_saverHere_10 fl_X11_52 rfl rfl ?_
        refine kw_iload_n dX11_saverHere_13 rfl ?_
        refine kw_aaldN dX11_saverHere_14 rfl hj (by decide) (if_pos hj) ?_
        refine kw_get dX11_saverHere_15 fl_X11_87 (hC_sa hj) rfl ?_
        refine kw_if_eq (tgt := 25) dX11_saverHere_18 (by decide) (fun c18 => ?_) (fun c18 => ?_)
        · skip
          refine kw_iconst (v := 0) dX11_saverHere_25 (by decide) ?_
          refine kw_istore_n dX11_saverHere_26 (Nat.le_of_ble_eq_true rfl) ?_
          refine kw_iload_n dX11_saverHere_27 rfl ?_
          refine kw_if_eq (tgt := 40) dX11_saverHere_28 (by decide) (fun c28 => ?_) (fun c28 => ?_)
          · skip
            refine kw_null dX11_saverHere_40 ?_
            exact kw_aret dX11_saverHere_41 rfl (Or.inl ⟨_, rfl⟩) (Nat.le_of_ble_eq_true rfl) (Nat.le_of_ble_eq_true rfl) (hK _ _ _ ⟨rfl, rfl, rfl⟩)
          · skip
            exact absurd rfl c28
        · skip
          exact absurd (by rw [hs j hj rfl]; rfl) c18
set_option maxHeartbeats 4000000 in
set_option maxRecDepth 100000 in
theorem o_rn0 (l : Launch) (s : SG) (k : KG) (x : Int32) (hs : ∀ j, j < 4 → x = nI j → sv_ s j = false) : kw_F l yX11_renewed cX11_renewed 3 (Option.some (Jvm.ClassFile.FieldType.object "SafeSweeps$Saver")) { frames := 1, cells := 0, slots := 0, locals := 22 } [pr_ (0, 0), pi_ x] (hC s k) (some pn_) (hC s k) := by
  refine kw_M_of RX11 "renewed" [some (pr_ (0, 0)), some (pi_ x), none] (by decide) rfl rfl rfl (Nat.le_of_ble_eq_true rfl) ?_
  intro D ad A
  refine kw_Kgen (fun K hK => ?_)
  refine kw_aload_n dX11_renewed_0 rfl ?_
  refine kw_iload_n dX11_renewed_1 rfl ?_
  refine kw_callVf (As := [pi_ x]) (o_sv0 l s k x hs) dX11_renewed_2 cl_X11_180 rfl rfl rfl rfl (Nat.le_of_ble_eq_true rfl) ⟨(Nat.le_of_ble_eq_true rfl), (Nat.le_of_ble_eq_true rfl), (Nat.le_of_ble_eq_true rfl), (Nat.le_of_ble_eq_true rfl)⟩ ?_
  refine kw_astore_n dX11_renewed_5 (Nat.le_of_ble_eq_true rfl) ?_
  refine kw_aload_n dX11_renewed_6 rfl ?_
  refine kw_ifnull (tgt := 29) dX11_renewed_7 (by decide) (fun c7 => ?_) (fun c7 => ?_)
  · skip
    refine kw_aload_n dX11_renewed_29 rfl ?_
    exact kw_aret dX11_renewed_30 rfl (Or.inl ⟨_, rfl⟩) (Nat.le_of_ble_eq_true rfl) (Nat.le_of_ble_eq_true rfl) (hK _ _ _ ⟨rfl, rfl, rfl⟩)
  · skip
    exact absurd rfl c7
set_option maxHeartbeats 4000000 in
set_option maxRecDepth 100000 in
theorem o_rn1 (l : Launch) (s : SG) (k : KG) (j : Nat) (hj : j < 4) (hs : sv_ s j = true) : kw_F l yX11_renewed cX11_renewed 3 (Option.some (Jvm.ClassFile.FieldType.object "SafeSweeps$Saver")) { frames := 1, cells := 0, slots := 0, locals := 22 } [pr_ (0, 0), pi_ (nI j)] (hC s k) (some (pr_ (12, j))) (hC (if dead_ s j then s else s_renew s j (now_ s)) k) := by
  refine kw_M_of RX11 "renewed" [some (pr_ (0, 0)), some (pi_ (nI j)), none] (by decide) rfl rfl rfl (Nat.le_of_ble_eq_true rfl) ?_
  intro D ad A
  refine kw_Kgen (fun K hK => ?_)
  refine kw_aload_n dX11_renewed_0 rfl ?_
  refine kw_iload_n dX11_renewed_1 rfl ?_
  refine kw_callVf (As := [pi_ (nI j)]) (o_sv1 l s k j hj hs) dX11_renewed_2 cl_X11_180 rfl rfl rfl rfl (Nat.le_of_ble_eq_true rfl) ⟨(Nat.le_of_ble_eq_true rfl), (Nat.le_of_ble_eq_true rfl), (Nat.le_of_ble_eq_true rfl), (Nat.le_of_ble_eq_true rfl)⟩ ?_
  refine kw_astore_n dX11_renewed_5 (Nat.le_of_ble_eq_true rfl) ?_
  refine kw_aload_n dX11_renewed_6 rfl ?_
  refine kw_ifnull (tgt := 29) dX11_renewed_7 (by decide) (fun c7 => ?_) (fun c7 => ?_)
  · skip
    exact absurd c7 (fun z => by cases z)
  · skip
    refine kw_aload_n dX11_renewed_10 rfl ?_
    refine kw_aload_n dX11_renewed_11 rfl ?_
    refine kw_get dX11_renewed_12 fl_X11_76 rfl rfl ?_
    refine kw_callVf (As := [pl_ (now_ s)]) (v_isDead l s k j hj) dX11_renewed_15 cl_X11_102 (hC_sa hj) rfl rfl rfl (Nat.le_of_ble_eq_true rfl) ⟨(Nat.le_of_ble_eq_true rfl), (Nat.le_of_ble_eq_true rfl), (Nat.le_of_ble_eq_true rfl), (Nat.le_of_ble_eq_true rfl)⟩ ?_
    refine kw_if_ne (tgt := 29) dX11_renewed_18 (by decide) (fun c18 => ?_) (fun c18 => ?_)
    · skip
      refine kw_aload_n dX11_renewed_29 rfl ?_
      exact kw_aret dX11_renewed_30 rfl (Or.inl ⟨_, rfl⟩) (Nat.le_of_ble_eq_true rfl) (Nat.le_of_ble_eq_true rfl) (hK _ _ _ ⟨rfl, rfl, by rw [if_pos (b2_n0.mp c18)]⟩)
    · skip
      refine kw_aload_n dX11_renewed_21 rfl ?_
      refine kw_aload_n dX11_renewed_22 rfl ?_
      refine kw_get dX11_renewed_23 fl_X11_76 rfl rfl ?_
      refine kw_callVf (As := [pl_ (now_ s)]) (v_renew l s k j hj (now_ s)) dX11_renewed_26 cl_X11_199 (hC_sa hj) rfl rfl rfl (Nat.le_of_ble_eq_true rfl) ⟨(Nat.le_of_ble_eq_true rfl), (Nat.le_of_ble_eq_true rfl), (Nat.le_of_ble_eq_true rfl), (Nat.le_of_ble_eq_true rfl)⟩ ?_
      refine kw_aload_n dX11_renewed_29 rfl ?_
      exact kw_aret dX11_renewed_30 rfl (Or.inl ⟨_, rfl⟩) (Nat.le_of_ble_eq_true rfl) (Nat.le_of_ble_eq_true rfl) (hK _ _ _ ⟨rfl, rfl, by rw [if_neg (by rw [b2_0.mp c18]; decide)]⟩)
set_option maxHeartbeats 4000000 in
set_option maxRecDepth 100000 in
theorem o_savers (l : Launch) (s : SG) (k : KG) : kw_F l yX11_saversHere cX11_saversHere 3 (Option.some Jvm.ClassFile.FieldType.int) { frames := 0, cells := 0, slots := 0, locals := 0 } [pr_ (0, 0)] (hC s k) (some (pi_ (nI (cntN (fun j => sv_ s j) 4)))) (hC s k) := by
  refine kw_M_of RX11 "saversHere" [some (pr_ (0, 0)), none, none] (by decide) rfl rfl rfl (Nat.le_of_ble_eq_true rfl) ?_
  intro D ad A
  refine kw_Kgen (fun K hK => ?_)
  have loop : ∀ (n_ : Nat) (j : Nat), 4 - j < n_ → j ≤ 4 → kw_G l D cX11_saversHere RX11 (Option.some Jvm.ClassFile.FieldType.int) "saversHere" { frames := 0, cells := 0, slots := 0, locals := 0 } A K ad (hC s k) 0 0 4 [some (pr_ (0, 0)), some (pi_ (nI (cntN (fun j => sv_ s j) j))), some (pi_ (nI j))] [] := by
    intro n_
    induction n_ with
    | zero =>
      intro j hm_
      exact absurd hm_ (Nat.not_lt_zero _)
    | succ n_ ih =>
      intro j hm_ hj
      refine kw_iload_n dX11_saversHere_4 rfl ?_
      refine kw_iconst (v := 4) dX11_saversHere_5 (by decide) ?_
      refine kw_icmp_ge (tgt := 35) dX11_saversHere_6 (by decide) (fun c6 => ?_) (fun c6 => ?_)
      · skip
        have e : j = 4 := Nat.le_antisymm hj (nI_le' (a := 4) (by omega) (by omega) c6)
        refine kw_iload_n dX11_saversHere_35 rfl ?_
        exact kw_iret dX11_saversHere_36 rfl (Nat.le_of_ble_eq_true rfl) (Nat.le_of_ble_eq_true rfl) (hK _ _ _ ⟨rfl, by rw [e], rfl⟩)
      · skip
        have hlt : j < 4 := nI_nle' (a := 4) (by omega) (by omega) c6
        refine kw_iload_n dX11_saversHere_9 rfl ?_
        refine kw_aload_n dX11_saversHere_10 rfl ?_
        refine kw_get dX11_saversHere_11 fl_X11_52 rfl rfl ?_
        refine kw_iload_n dX11_saversHere_14 rfl ?_
        refine kw_aaldN dX11_saversHere_15 rfl hlt (by decide) (if_pos hlt) ?_
        refine kw_get dX11_saversHere_16 fl_X11_87 (hC_sa hlt) rfl ?_
        refine kw_if_eq (tgt := 26) dX11_saversHere_19 (by decide) (fun c19 => ?_) (fun c19 => ?_)
        · skip
          refine kw_iconst (v := 0) dX11_saversHere_26 (by decide) ?_
          refine kw_iadd dX11_saversHere_27 ?_
          refine kw_top (v' := pi_ (nI (cntN (fun j => sv_ s j) (j + 1)))) (cnt_f (p := fun j => sv_ s j) (b2_0.mp c19)) ?_
          refine kw_istore_n dX11_saversHere_28 (Nat.le_of_ble_eq_true rfl) ?_
          refine kw_iinc dX11_saversHere_29 rfl (nI_i j) ?_
          refine kw_goto (tgt := 4) dX11_saversHere_32 (by decide) ?_
          exact ih (j + 1) (by omega) (by omega)
        · skip
          refine kw_iconst (v := 1) dX11_saversHere_22 (by decide) ?_
          refine kw_goto (tgt := 27) dX11_saversHere_23 (by decide) ?_
          refine kw_iadd dX11_saversHere_27 ?_
          refine kw_top (v' := pi_ (nI (cntN (fun j => sv_ s j) (j + 1)))) (cnt_t (p := fun j => sv_ s j) (b2_n0.mp c19)) ?_
          refine kw_istore_n dX11_saversHere_28 (Nat.le_of_ble_eq_true rfl) ?_
          refine kw_iinc dX11_saversHere_29 rfl (nI_i j) ?_
          refine kw_goto (tgt := 4) dX11_saversHere_32 (by decide) ?_
          exact ih (j + 1) (by omega) (by omega)
  refine kw_iconst (v := 0) dX11_saversHere_0 (by decide) ?_
  refine kw_istore_n dX11_saversHere_1 (Nat.le_of_ble_eq_true rfl) ?_
  refine kw_iconst (v := 0) dX11_saversHere_2 (by decide) ?_
  refine kw_istore_n dX11_saversHere_3 (Nat.le_of_ble_eq_true rfl) ?_
  exact loop 5 0 (by omega) (by omega)
set_option maxHeartbeats 4000000 in
set_option maxRecDepth 100000 in
theorem o_using (l : Launch) (s : SG) (k : KG) (hu : ∀ i, i < 4 → um_ s i ≤ 8) (b : Int32) : kw_F l yX11_saversThatUse cX11_saversThatUse 4 (Option.some Jvm.ClassFile.FieldType.int) { frames := 1, cells := 0, slots := 0, locals := 22 } [pr_ (0, 0), pi_ b] (hC s k) (some (pi_ (nI (useN s b)))) (hC s k) := by
  refine kw_M_of RX11 "saversThatUse" [some (pr_ (0, 0)), some (pi_ b), none, none] (by decide) rfl rfl rfl (Nat.le_of_ble_eq_true rfl) ?_
  intro D ad A
  refine kw_Kgen (fun K hK => ?_)
  have loop : ∀ (n_ : Nat) (j : Nat), 4 - j < n_ → j ≤ 4 → kw_G l D cX11_saversThatUse RX11 (Option.some Jvm.ClassFile.FieldType.int) "saversThatUse" { frames := 1, cells := 0, slots := 0, locals := 22 } A K ad (hC s k) 0 0 4 [some (pr_ (0, 0)), some (pi_ b), some (pi_ (nI (cntN (fun j => sv_ s j && usesB s j b) j))), some (pi_ (nI j))] [] := by
    intro n_
    induction n_ with
    | zero =>
      intro j hm_
      exact absurd hm_ (Nat.not_lt_zero _)
    | succ n_ ih =>
      intro j hm_ hj
      refine kw_iload_n dX11_saversThatUse_4 rfl ?_
      refine kw_iconst (v := 4) dX11_saversThatUse_5 (by decide) ?_
      refine kw_icmp_ge (tgt := 48) dX11_saversThatUse_6 (by decide) (fun c6 => ?_) (fun c6 => ?_)
      · skip
        have e : j = 4 := Nat.le_antisymm hj (nI_le' (a := 4) (by omega) (by omega) c6)
        refine kw_iload_n dX11_saversThatUse_48 rfl ?_
        exact kw_iret dX11_saversThatUse_49 rfl (Nat.le_of_ble_eq_true rfl) (Nat.le_of_ble_eq_true rfl) (hK _ _ _ ⟨rfl, by rw [e]; rfl, rfl⟩)
      · skip
        have hlt : j < 4 := nI_nle' (a := 4) (by omega) (by omega) c6
        refine kw_iload_n dX11_saversThatUse_9 rfl ?_
        refine kw_aload_n dX11_saversThatUse_10 rfl ?_
        refine kw_get dX11_saversThatUse_11 fl_X11_52 rfl rfl ?_
        refine kw_iload_n dX11_saversThatUse_14 rfl ?_
        refine kw_aaldN dX11_saversThatUse_15 rfl hlt (by decide) (if_pos hlt) ?_
        refine kw_get dX11_saversThatUse_16 fl_X11_87 (hC_sa hlt) rfl ?_
        refine kw_if_eq (tgt := 39) dX11_saversThatUse_19 (by decide) (fun c19 => ?_) (fun c19 => ?_)
        · skip
          refine kw_iconst (v := 0) dX11_saversThatUse_39 (by decide) ?_
          refine kw_iadd dX11_saversThatUse_40 ?_
          refine kw_top (v' := pi_ (nI (cntN (fun j => sv_ s j && usesB s j b) (j + 1)))) (cnt_f (p := fun j => sv_ s j && usesB s j b) (by simp only [b2_0.mp c19]; rfl)) ?_
          refine kw_istore_n dX11_saversThatUse_41 (Nat.le_of_ble_eq_true rfl) ?_
          refine kw_iinc dX11_saversThatUse_42 rfl (nI_i j) ?_
          refine kw_goto (tgt := 4) dX11_saversThatUse_45 (by decide) ?_
          exact ih (j + 1) (by omega) (by omega)
        · skip
          refine kw_aload_n dX11_saversThatUse_22 rfl ?_
          refine kw_get dX11_saversThatUse_23 fl_X11_52 rfl rfl ?_
          refine kw_iload_n dX11_saversThatUse_26 rfl ?_
          refine kw_aaldN dX11_saversThatUse_27 rfl hlt (by decide) (if_pos hlt) ?_
          refine kw_iload_n dX11_saversThatUse_28 rfl ?_
          refine kw_callVf (As := [pi_ b]) (v_uses l s k j hlt (hu j hlt) b) dX11_saversThatUse_29 cl_X11_106 (hC_sa hlt) rfl rfl rfl (Nat.le_of_ble_eq_true rfl) ⟨(Nat.le_of_ble_eq_true rfl), (Nat.le_of_ble_eq_true rfl), (Nat.le_of_ble_eq_true rfl), (Nat.le_of_ble_eq_true rfl)⟩ ?_
          refine kw_if_eq (tgt := 39) dX11_saversThatUse_32 (by decide) (fun c32 => ?_) (fun c32 => ?_)
          · skip
            refine kw_iconst (v := 0) dX11_saversThatUse_39 (by decide) ?_
            refine kw_iadd dX11_saversThatUse_40 ?_
            refine kw_top (v' := pi_ (nI (cntN (fun j => sv_ s j && usesB s j b) (j + 1)))) (cnt_f (p := fun j => sv_ s j && usesB s j b) (by simp only [b2_0.mp c32, Bool.and_false])) ?_
            refine kw_istore_n dX11_saversThatUse_41 (Nat.le_of_ble_eq_true rfl) ?_
            refine kw_iinc dX11_saversThatUse_42 rfl (nI_i j) ?_
            refine kw_goto (tgt := 4) dX11_saversThatUse_45 (by decide) ?_
            exact ih (j + 1) (by omega) (by omega)
          · skip
            refine kw_iconst (v := 1) dX11_saversThatUse_35 (by decide) ?_
            refine kw_goto (tgt := 40) dX11_saversThatUse_36 (by decide) ?_
            refine kw_iadd dX11_saversThatUse_40 ?_
            refine kw_top (v' := pi_ (nI (cntN (fun j => sv_ s j && usesB s j b) (j + 1)))) (cnt_t (p := fun j => sv_ s j && usesB s j b) (by simp only [b2_n0.mp c19, b2_n0.mp c32]; rfl)) ?_
            refine kw_istore_n dX11_saversThatUse_41 (Nat.le_of_ble_eq_true rfl) ?_
            refine kw_iinc dX11_saversThatUse_42 rfl (nI_i j) ?_
            refine kw_goto (tgt := 4) dX11_saversThatUse_45 (by decide) ?_
            exact ih (j + 1) (by omega) (by omega)
  refine kw_iconst (v := 0) dX11_saversThatUse_0 (by decide) ?_
  refine kw_istore_n dX11_saversThatUse_1 (Nat.le_of_ble_eq_true rfl) ?_
  refine kw_iconst (v := 0) dX11_saversThatUse_2 (by decide) ?_
  refine kw_istore_n dX11_saversThatUse_3 (Nat.le_of_ble_eq_true rfl) ?_
  exact loop 5 0 (by omega) (by omega)
set_option maxHeartbeats 4000000 in
set_option maxRecDepth 100000 in
theorem o_sn (l : Launch) (s : SG) (k : KG) (hns : ns_ s ≤ 40) : kw_F l yX11_snapshotsThere cX11_snapshotsThere 3 (Option.some Jvm.ClassFile.FieldType.int) { frames := 0, cells := 0, slots := 0, locals := 0 } [pr_ (0, 0)] (hC s k) (some (pi_ (nI (thereN s)))) (hC s k) := by
  refine kw_M_of RX11 "snapshotsThere" [some (pr_ (0, 0)), none, none] (by decide) rfl rfl rfl (Nat.le_of_ble_eq_true rfl) ?_
  intro D ad A
  refine kw_Kgen (fun K hK => ?_)
  have loop : ∀ (n_ : Nat) (j : Nat), ns_ s - j < n_ → j ≤ ns_ s → kw_G l D cX11_snapshotsThere RX11 (Option.some Jvm.ClassFile.FieldType.int) "snapshotsThere" { frames := 0, cells := 0, slots := 0, locals := 0 } A K ad (hC s k) 0 0 4 [some (pr_ (0, 0)), some (pi_ (nI (cntN (fun j => kp_ s j) j))), some (pi_ (nI j))] [] := by
    intro n_
    induction n_ with
    | zero =>
      intro j hm_
      exact absurd hm_ (Nat.not_lt_zero _)
    | succ n_ ih =>
      intro j hm_ hj
      refine kw_iload_n dX11_snapshotsThere_4 rfl ?_
      refine kw_aload_n dX11_snapshotsThere_5 rfl ?_
      refine kw_get dX11_snapshotsThere_6 fl_X11_183 rfl rfl ?_
      refine kw_icmp_ge (tgt := 38) dX11_snapshotsThere_9 (by decide) (fun c9 => ?_) (fun c9 => ?_)
      · skip
        have e : j = ns_ s := Nat.le_antisymm hj (nI_le' (by omega) (by omega) c9)
        refine kw_iload_n dX11_snapshotsThere_38 rfl ?_
        exact kw_iret dX11_snapshotsThere_39 rfl (Nat.le_of_ble_eq_true rfl) (Nat.le_of_ble_eq_true rfl) (hK _ _ _ ⟨rfl, by rw [e]; rfl, rfl⟩)
      · skip
        have hlt : j < ns_ s := nI_nle' (by omega) (by omega) c9
        refine kw_iload_n dX11_snapshotsThere_12 rfl ?_
        refine kw_aload_n dX11_snapshotsThere_13 rfl ?_
        refine kw_get dX11_snapshotsThere_14 fl_X11_59 rfl rfl ?_
        refine kw_iload_n dX11_snapshotsThere_17 rfl ?_
        refine kw_aaldN dX11_snapshotsThere_18 rfl (by omega) (by decide) (if_pos hlt) ?_
        refine kw_get dX11_snapshotsThere_19 fl_X11_226 (hC_sn hlt) rfl ?_
        refine kw_if_eq (tgt := 29) dX11_snapshotsThere_22 (by decide) (fun c22 => ?_) (fun c22 => ?_)
        · skip
          refine kw_iconst (v := 1) dX11_snapshotsThere_29 (by decide) ?_
          refine kw_iadd dX11_snapshotsThere_30 ?_
          refine kw_top (v' := pi_ (nI (cntN (fun j => kp_ s j) (j + 1)))) (cnt_t (p := fun j => kp_ s j) (not_b2 c22)) ?_
          refine kw_istore_n dX11_snapshotsThere_31 (Nat.le_of_ble_eq_true rfl) ?_
          refine kw_iinc dX11_snapshotsThere_32 rfl (nI_i j) ?_
          refine kw_goto (tgt := 4) dX11_snapshotsThere_35 (by decide) ?_
          exact ih (j + 1) (by omega) (by omega)
        · skip
          refine kw_iconst (v := 0) dX11_snapshotsThere_25 (by decide) ?_
          refine kw_goto (tgt := 30) dX11_snapshotsThere_26 (by decide) ?_
          refine kw_iadd dX11_snapshotsThere_30 ?_
          refine kw_top (v' := pi_ (nI (cntN (fun j => kp_ s j) (j + 1)))) (cnt_f (p := fun j => kp_ s j) (not_b2n c22)) ?_
          refine kw_istore_n dX11_snapshotsThere_31 (Nat.le_of_ble_eq_true rfl) ?_
          refine kw_iinc dX11_snapshotsThere_32 rfl (nI_i j) ?_
          refine kw_goto (tgt := 4) dX11_snapshotsThere_35 (by decide) ?_
          exact ih (j + 1) (by omega) (by omega)
  refine kw_iconst (v := 0) dX11_snapshotsThere_0 (by decide) ?_
  refine kw_istore_n dX11_snapshotsThere_1 (Nat.le_of_ble_eq_true rfl) ?_
  refine kw_iconst (v := 0) dX11_snapshotsThere_2 (by decide) ?_
  refine kw_istore_n dX11_snapshotsThere_3 (Nat.le_of_ble_eq_true rfl) ?_
  exact loop (ns_ s + 1) 0 (by omega) (by omega)
set_option maxHeartbeats 4000000 in
set_option maxRecDepth 100000 in
theorem o_snIs (l : Launch) (s : SG) (k : KG) (hns : ns_ s ≤ 40) (x : Int32) : kw_F l yX11_snapshotIsThere cX11_snapshotIsThere 2 (Option.some Jvm.ClassFile.FieldType.boolean) { frames := 0, cells := 0, slots := 0, locals := 0 } [pr_ (0, 0), pi_ x] (hC s k) (some (pi_ (b2 (snOk s x)))) (hC s k) := by
  refine kw_M_of RX11 "snapshotIsThere" [some (pr_ (0, 0)), some (pi_ x)] (by decide) rfl rfl rfl (Nat.le_of_ble_eq_true rfl) ?_
  intro D ad A
  refine kw_Kgen (fun K hK => ?_)
  rcases pk_ix x (n := ns_ s) (by omega) with hneg | hbig | ⟨j, hj, rfl⟩
  · skip
    refine kw_iload_n dX11_snapshotIsThere_0 rfl ?_
    refine kw_if_lt (tgt := 28) dX11_snapshotIsThere_1 (by decide) (fun c1 => ?_) (fun c1 => ?_)
    · skip
      refine kw_iconst (v := 0) dX11_snapshotIsThere_28 (by decide) ?_
      exact kw_zret dX11_snapshotIsThere_29 rfl (by decide) (Nat.le_of_ble_eq_true rfl) (Nat.le_of_ble_eq_true rfl) (hK _ _ _ ⟨rfl, by rw [snOk, anyN_f (fun a ha => by rw [decide_eq_false (fun q => absurd hneg (by rw [q]; exact nI_pos (by omega)))]; rfl)]; rfl, rfl⟩)
    · skip
      exact absurd hneg c1
  · skip
    refine kw_iload_n dX11_snapshotIsThere_0 rfl ?_
    refine kw_if_lt (tgt := 28) dX11_snapshotIsThere_1 (by decide) (fun c1 => ?_) (fun c1 => ?_)
    · skip
      refine kw_iconst (v := 0) dX11_snapshotIsThere_28 (by decide) ?_
      exact kw_zret dX11_snapshotIsThere_29 rfl (by decide) (Nat.le_of_ble_eq_true rfl) (Nat.le_of_ble_eq_true rfl) (hK _ _ _ ⟨rfl, by rw [snOk, anyN_f (fun a ha => by rw [decide_eq_false (fun q => absurd c1 (by rw [q]; exact nI_pos (by omega)))]; rfl)]; rfl, rfl⟩)
    · skip
      refine kw_iload_n dX11_snapshotIsThere_4 rfl ?_
      refine kw_aload_n dX11_snapshotIsThere_5 rfl ?_
      refine kw_get dX11_snapshotIsThere_6 fl_X11_183 rfl rfl ?_
      refine kw_icmp_ge (tgt := 28) dX11_snapshotIsThere_9 (by decide) (fun c9 => ?_) (fun c9 => ?_)
      · skip
        refine kw_iconst (v := 0) dX11_snapshotIsThere_28 (by decide) ?_
        exact kw_zret dX11_snapshotIsThere_29 rfl (by decide) (Nat.le_of_ble_eq_true rfl) (Nat.le_of_ble_eq_true rfl) (hK _ _ _ ⟨rfl, by rw [snOk, anyN_f (fun a ha => by rw [decide_eq_false (fun q => absurd hbig (by rw [q]; exact nI_ge ha (by omega)))]; rfl)]; rfl, rfl⟩)
      · skip
        exact absurd hbig c9
  · skip
    refine kw_iload_n dX11_snapshotIsThere_0 rfl ?_
    refine kw_if_lt (tgt := 28) dX11_snapshotIsThere_1 (by decide) (fun c1 => ?_) (fun c1 => ?_)
    · skip
      exact absurd c1 (nI_pos (by omega))
    · skip
      refine kw_iload_n dX11_snapshotIsThere_4 rfl ?_
      refine kw_aload_n dX11_snapshotIsThere_5 rfl ?_
      refine kw_get dX11_snapshotIsThere_6 fl_X11_183 rfl rfl ?_
      refine kw_icmp_ge (tgt := 28) dX11_snapshotIsThere_9 (by decide) (fun c9 => ?_) (fun c9 => ?_)
      · skip
        exact absurd c9 (nI_ge hj (by omega))
      · skip
        refine kw_aload_n dX11_snapshotIsThere_12 rfl ?_
        refine kw_get dX11_snapshotIsThere_13 fl_X11_59 rfl rfl ?_
        refine kw_iload_n dX11_snapshotIsThere_16 rfl ?_
        refine kw_aaldN dX11_snapshotIsThere_17 rfl (by omega) (by decide) (if_pos hj) ?_
        refine kw_get dX11_snapshotIsThere_18 fl_X11_226 (hC_sn hj) rfl ?_
        refine kw_if_ne (tgt := 28) dX11_snapshotIsThere_21 (by decide) (fun c21 => ?_) (fun c21 => ?_)
        · skip
          refine kw_iconst (v := 0) dX11_snapshotIsThere_28 (by decide) ?_
          exact kw_zret dX11_snapshotIsThere_29 rfl (by decide) (Nat.le_of_ble_eq_true rfl) (Nat.le_of_ble_eq_true rfl) (hK _ _ _ ⟨rfl, by rw [snOk, ix_nI (by omega) hj, not_b2n c21]; rfl, rfl⟩)
        · skip
          refine kw_iconst (v := 1) dX11_snapshotIsThere_24 (by decide) ?_
          refine kw_goto (tgt := 29) dX11_snapshotIsThere_25 (by decide) ?_
          exact kw_zret dX11_snapshotIsThere_29 rfl (by decide) (Nat.le_of_ble_eq_true rfl) (Nat.le_of_ble_eq_true rfl) (hK _ _ _ ⟨rfl, by rw [snOk, ix_nI (by omega) hj, not_b2 c21]; rfl, rfl⟩)
set_option maxHeartbeats 4000000 in
set_option maxRecDepth 100000 in
theorem o_rm0 (l : Launch) (s : SG) (k : KG) (hc : cut_ s = 0) (b : Int32) : kw_F l yX11_removeSnapshot cX11_removeSnapshot 2 (Option.some Jvm.ClassFile.FieldType.boolean) { frames := 2, cells := 0, slots := 0, locals := 42 } [pr_ (0, 0), pi_ b] (hC s k) (some (pi_ 0)) (hC (s_w0 s) k) := by
  refine kw_M_of RX11 "removeSnapshot" [some (pr_ (0, 0)), some (pi_ b)] (by decide) rfl rfl rfl (Nat.le_of_ble_eq_true rfl) ?_
  intro D ad A
  refine kw_Kgen (fun K hK => ?_)
  refine kw_aload_n dX11_removeSnapshot_0 rfl ?_
  refine kw_get dX11_removeSnapshot_1 fl_X11_10 rfl rfl ?_
  refine kw_iconst (v := 3) dX11_removeSnapshot_4 (by decide) ?_
  refine kw_iload_n dX11_removeSnapshot_5 rfl ?_
  refine kw_callVf (As := [pi_ 3, pi_ b]) (j_ev0 l s k hc 3 b) dX11_removeSnapshot_6 cl_X11_189 rfl rfl rfl rfl (Nat.le_of_ble_eq_true rfl) ⟨(Nat.le_of_ble_eq_true rfl), (Nat.le_of_ble_eq_true rfl), (Nat.le_of_ble_eq_true rfl), (Nat.le_of_ble_eq_true rfl)⟩ ?_
  refine kw_if_ne (tgt := 14) dX11_removeSnapshot_9 (by decide) (fun c9 => ?_) (fun c9 => ?_)
  · skip
    exact absurd rfl c9
  · skip
    refine kw_iconst (v := 0) dX11_removeSnapshot_12 (by decide) ?_
    exact kw_zret dX11_removeSnapshot_13 rfl (by decide) (Nat.le_of_ble_eq_true rfl) (Nat.le_of_ble_eq_true rfl) (hK _ _ _ ⟨rfl, rfl, rfl⟩)
set_option maxHeartbeats 4000000 in
set_option maxRecDepth 100000 in
theorem o_rm1 (l : Launch) (s : SG) (k : KG) (hc : ¬ cut_ s = 0) (hns : ns_ s ≤ 40) (hn : nh_ s < 240) (b : Nat) (hb : b < ns_ s) : kw_F l yX11_removeSnapshot cX11_removeSnapshot 2 (Option.some Jvm.ClassFile.FieldType.boolean) { frames := 2, cells := 0, slots := 0, locals := 42 } [pr_ (0, 0), pi_ (nI b)] (hC s k) (some (pi_ 1)) (hC (s_rmv s b) k) := by
  refine kw_M_of RX11 "removeSnapshot" [some (pr_ (0, 0)), some (pi_ (nI b))] (by decide) rfl rfl rfl (Nat.le_of_ble_eq_true rfl) ?_
  intro D ad A
  refine kw_Kgen (fun K hK => ?_)
  have hb1 : b < ns_ (s_ev (s_w1 s) 3 b) := by show b < (s_w1 s).1 7; rw [s_w1_1]; exact hb
  have ek : kp_ (s_ev (s_w1 s) 3 b) = kp_ s := by show (s_w1 s).2.2.2.2.2.1 3 = _; rw [s_w1_2]
  refine kw_aload_n dX11_removeSnapshot_0 rfl ?_
  refine kw_get dX11_removeSnapshot_1 fl_X11_10 rfl rfl ?_
  refine kw_iconst (v := 3) dX11_removeSnapshot_4 (by decide) ?_
  refine kw_iload_n dX11_removeSnapshot_5 rfl ?_
  refine kw_callVf (As := [pi_ (nI 3), pi_ (nI b)]) (j_ev1 l s k hc hn 3 b) dX11_removeSnapshot_6 cl_X11_189 rfl rfl rfl rfl (Nat.le_of_ble_eq_true rfl) ⟨(Nat.le_of_ble_eq_true rfl), (Nat.le_of_ble_eq_true rfl), (Nat.le_of_ble_eq_true rfl), (Nat.le_of_ble_eq_true rfl)⟩ ?_
  refine kw_if_ne (tgt := 14) dX11_removeSnapshot_9 (by decide) (fun c9 => ?_) (fun c9 => ?_)
  · skip
    refine kw_aload_n dX11_removeSnapshot_14 rfl ?_
    refine kw_get dX11_removeSnapshot_15 fl_X11_59 rfl rfl ?_
    refine kw_iload_n dX11_removeSnapshot_18 rfl ?_
    refine kw_aaldN dX11_removeSnapshot_19 rfl (by omega) (by decide) (if_pos hb1) ?_
    refine kw_iconst (v := 1) dX11_removeSnapshot_20 (by decide) ?_
    refine kw_put dX11_removeSnapshot_21 fl_X11_226 (hC_sn hb1) (kw_ok_z (Or.inr rfl)) (Nat.le_of_ble_eq_true rfl) ?_
    refine kw_heq (up_skp _ k b hb1 false) ?_
    refine kw_iconst (v := 1) dX11_removeSnapshot_24 (by decide) ?_
    exact kw_zret dX11_removeSnapshot_25 rfl (by decide) (Nat.le_of_ble_eq_true rfl) (Nat.le_of_ble_eq_true rfl) (hK _ _ _ ⟨rfl, rfl, by rw [s_rmv, ek]⟩)
  · skip
    exact absurd c9 (by decide)
