/-! THE CLASS'S CALLS, 5: save, commit -/
def s_km0 (s : SG) (j : Nat) : SG := sF s 16 (va_up (km_ s) j 0)
def c_found (s : SG) (k : KG) (j b : Nat) : Int32 × SG := if um_ s j < 8 ∨ usesB s j (nI b) = true then (if (rvS s k b).1 = true then (nI b, s_km0 (c_take s k j b).2 j) else (-105, (c_take s k j b).2)) else (-104, s)
def c_new (s : SG) (k : KG) (j : Nat) (key : Int64) (z : Nat) : Int32 × SG := if um_ s j < 8 ∧ roomS s k z = true then (if cut_ s = 0 then (-105, s_lost s) else (nI (nb_ s), s_km0 (s_use (s_add s k key z (km_ s j) (ks_ s j)) j (nb_ s)) j)) else (-104, s)
def ck_new (s : SG) (k : KG) (j : Nat) (key : Int64) (z : Nat) : KG := if um_ s j < 8 ∧ roomS s k z = true ∧ ¬ cut_ s = 0 then k_add s k key z (km_ s j) (ks_ s j) else k
set_option maxHeartbeats 4000000 in
set_option maxRecDepth 100000 in
theorem o_found (l : Launch) (s : SG) (k : KG) (hb : nb_ s ≤ 80) (hkd : kidsOk s) (hw : ∀ i, i < nb_ s → wt_ s i < 2 ^ 31) (hph : ph_ s ≤ 4) (hr : rt_ s < 944) (j b : Nat) (hj : j < 4) (hu : um_ s j ≤ 8) (hbb : b < nb_ s) : kw_P l yX11_saveFound cX11_saveFound 3 (Option.some Jvm.ClassFile.FieldType.int) { frames := 4, cells := 0, slots := 0, locals := 88 } [pr_ (0, 0), pr_ (12, j), pi_ (nI b)] (hC s k) (fun r h' => r = some (pi_ (c_found s k j b).1) ∧ ∃ q, h' = hC (c_found s k j b).2 (kB k 0 q)) := by
  refine kw_M_of RX11 "saveFound" [some (pr_ (0, 0)), some (pr_ (12, j)), some (pi_ (nI b))] (by decide) rfl rfl rfl (Nat.le_of_ble_eq_true rfl) ?_
  intro D ad A
  refine kw_Kgen (fun K hK => ?_)
  have vc : (rvS s k b).2.2 ≤ 80 := by have := revL_c (rS0 s k b) (nb_ s) 0 s 0; unfold rvS; omega
  unfold c_found at hK
  refine kw_aload_n dX11_saveFound_0 rfl ?_
  refine kw_iload_n dX11_saveFound_1 rfl ?_
  refine kw_callVf (As := [pi_ (nI b)]) (v_canUse l s k j hj hu (nI b)) dX11_saveFound_2 cl_X11_159 (hC_sa hj) rfl rfl rfl (Nat.le_of_ble_eq_true rfl) ⟨(Nat.le_of_ble_eq_true rfl), (Nat.le_of_ble_eq_true rfl), (Nat.le_of_ble_eq_true rfl), (Nat.le_of_ble_eq_true rfl)⟩ ?_
  refine kw_if_ne (tgt := 11) dX11_saveFound_5 (by decide) (fun c5 => ?_) (fun c5 => ?_)
  · skip
    have e56 : um_ s j < 8 ∨ usesB s j (nI b) = true := by have := b2_n0.mp c5; rw [Bool.or_eq_true] at this; exact this.elim (fun z => Or.inl (of_decide_eq_true z)) Or.inr
    rw [if_pos e56] at hK
    refine kw_aload_n dX11_saveFound_11 rfl ?_
    refine kw_aload_n dX11_saveFound_12 rfl ?_
    refine kw_iload_n dX11_saveFound_13 rfl ?_
    refine kw_callVf (As := [pr_ (12, j), pi_ (nI b)]) (o_take l s k hb hkd hw hph hr j b hj hu hbb) dX11_saveFound_14 cl_X11_162 rfl rfl rfl rfl (Nat.le_of_ble_eq_true rfl) ⟨(Nat.le_of_ble_eq_true rfl), (Nat.le_of_ble_eq_true rfl), (Nat.le_of_ble_eq_true rfl), (Nat.le_of_ble_eq_true rfl)⟩ ?_
    refine kw_bipush (v := (-105)) dX11_saveFound_17 (by decide) ?_
    refine kw_icmp_ne (tgt := 25) dX11_saveFound_19 (by decide) (fun c19 => ?_) (fun c19 => ?_)
    · skip
      have e19 : (rvS s k b).1 = true := by cases hvv : (rvS s k b).1 with | true => rfl | false => rw [c_take, hvv, if_neg (by decide)] at c19; exact absurd rfl c19
      rw [if_pos e19] at hK
      refine kw_aload_n dX11_saveFound_25 rfl ?_
      refine kw_iconst (v := 0) dX11_saveFound_26 (by decide) ?_
      refine kw_put dX11_saveFound_27 fl_X11_112 (hC_sa hj) (kw_ok_i _) (Nat.le_of_ble_eq_true rfl) ?_
      refine kw_heq (up_skm _ _ j hj 0) ?_
      refine kw_iload_n dX11_saveFound_30 rfl ?_
      exact kw_iret dX11_saveFound_31 rfl (Nat.le_of_ble_eq_true rfl) (Nat.le_of_ble_eq_true rfl) (hK _ _ _ ⟨rfl, rfl, _, rfl⟩)
    · skip
      have e19 : (rvS s k b).1 = false := by cases hvv : (rvS s k b).1 with | false => rfl | true => rw [c_take, hvv, if_pos rfl] at c19; exact absurd c19 (nI_m105 (by omega))
      rw [if_neg (by rw [e19]; decide)] at hK
      refine kw_bipush (v := (-105)) dX11_saveFound_22 (by decide) ?_
      exact kw_iret dX11_saveFound_24 rfl (Nat.le_of_ble_eq_true rfl) (Nat.le_of_ble_eq_true rfl) (hK _ _ _ ⟨rfl, rfl, _, rfl⟩)
  · skip
    have e56 : ¬ (um_ s j < 8 ∨ usesB s j (nI b) = true) := fun q => by have := b2_0.mp c5; rw [Bool.or_eq_false_iff] at this; exact q.elim (fun z => absurd (decide_eq_true z) (by rw [this.1]; decide)) (fun z => by rw [this.2] at z; cases z)
    rw [if_neg e56] at hK
    refine kw_bipush (v := (-104)) dX11_saveFound_8 (by decide) ?_
    exact kw_iret dX11_saveFound_10 rfl (Nat.le_of_ble_eq_true rfl) (Nat.le_of_ble_eq_true rfl) (hK _ _ _ ⟨rfl, rfl, kb_ k 0, by rw [kB_id]⟩)
theorem s_lay_um (s : SG) (b p o : Nat) : um_ (s_lay s b p o) = um_ s := rfl
theorem s_add_um (s : SG) (k : KG) (key : Int64) (z n : Nat) (f : Nat → Nat) : um_ (s_add s k key z n f) = um_ s := by
  have e : um_ (s_add1 s key z n f) = um_ s := by
    show (s_w1 s).2.2.2.2.1 14 = _
    rw [s_w1_f]
  unfold s_add
  split
  · exact e
  · exact e
set_option maxHeartbeats 4000000 in
set_option maxRecDepth 100000 in
theorem o_new (l : Launch) (s : SG) (k : KG) (hb : nb_ s ≤ 80) (hp : np_ s ≤ 40) (hns : ns_ s ≤ 40) (hnh : nb_ s < 80 → nh_ s < 240) (hcap : cap_ s ≤ 1000) (hfull : fullS s k (-1) ≤ 1000) (j : Nat) (hj : j < 4) (hu : ∀ t : SG, um_ t = um_ s → um_ t j ≤ 8) (hkm : km_ s j ≤ 4) (key : Int64) (z : Nat) (hz : 1 ≤ z) (hz2 : z ≤ 1000) : kw_Q l yX11_saveNew cX11_saveNew 6 (Option.some Jvm.ClassFile.FieldType.int) { frames := 4, cells := 3, slots := 19, locals := 90 } [pr_ (0, 0), pr_ (12, j), pl_ key, pi_ (nI z)] (hC s k) (fun r h' => r = some (pi_ (c_new s k j key z).1) ∧ h' = hC (c_new s k j key z).2 (ck_new s k j key z)) := by
  refine kw_M_of RX11 "saveNew" [some (pr_ (0, 0)), some (pr_ (12, j)), some (pl_ key), none, some (pi_ (nI z)), none] (by decide) rfl rfl rfl (Nat.le_of_ble_eq_true rfl) ?_
  intro D ad A
  refine kw_Kgen (fun K hK => ?_)
  have hk6 : hC s k (6, nb_ s) = none := if_neg (Nat.lt_irrefl _)
  have hu8 := hu s rfl
  have alr : ∀ q, hC s k q ≠ none → kw_up (hC s k) (6, nb_ s) (ri_ (km_ s j) (ks_ s j)) q ≠ none := fun q hq => kw_up_nn hq
  refine kw_aload_n dX11_saveNew_0 rfl ?_
  refine kw_get dX11_saveNew_1 fl_X11_135 (hC_sa hj) rfl ?_
  refine kw_bipush (v := 8) dX11_saveNew_4 (by decide) ?_
  refine kw_icmp_ge (tgt := 21) dX11_saveNew_6 (by decide) (fun c6 => ?_) (fun c6 => ?_)
  · skip
    have e6 : ¬ um_ s j < 8 := Nat.not_lt.mpr (nI_le' (a := 8) (by decide) (by omega) c6)
    rw [c_new, ck_new, if_neg (fun q => e6 q.1), if_neg (fun q => e6 q.1)] at hK
    refine kw_bipush (v := (-104)) dX11_saveNew_21 (by decide) ?_
    exact kw_iret dX11_saveNew_23 rfl (Nat.le_of_ble_eq_true rfl) (Nat.le_of_ble_eq_true rfl) (hK _ _ _ ⟨fun _ _ => rfl, rfl, rfl⟩)
  · skip
    have e6 : um_ s j < 8 := nI_nle' (a := 8) (by decide) (by omega) c6
    refine kw_aload_n dX11_saveNew_9 rfl ?_
    refine kw_get dX11_saveNew_10 fl_X11_30 rfl rfl ?_
    refine kw_iload dX11_saveNew_13 rfl ?_
    refine kw_callVf (As := [pi_ (nI z)]) (t_room l s k hb hp z hcap hz2 hfull) dX11_saveNew_15 cl_X11_138 rfl rfl rfl rfl (Nat.le_of_ble_eq_true rfl) ⟨(Nat.le_of_ble_eq_true rfl), (Nat.le_of_ble_eq_true rfl), (Nat.le_of_ble_eq_true rfl), (Nat.le_of_ble_eq_true rfl)⟩ ?_
    refine kw_if_ne (tgt := 24) dX11_saveNew_18 (by decide) (fun c18 => ?_) (fun c18 => ?_)
    · skip
      have e18 := b2_n0.mp c18
      have e18b := e18
      rw [roomS, Bool.and_eq_true, Bool.or_eq_true] at e18b
      have hb80 : nb_ s < 80 := of_decide_eq_true e18b.1
      have hroom : fullS s k (-1) + z ≤ cap_ s ∨ np_ s < 40 := e18b.2.elim (fun q => Or.inl (of_decide_eq_true q)) (fun q => Or.inr (of_decide_eq_true q))
      rw [c_new, if_pos ⟨e6, e18⟩] at hK
      refine kw_aload_n dX11_saveNew_24 rfl ?_
      refine kw_get dX11_saveNew_25 fl_X11_30 rfl rfl ?_
      refine kw_lload_n dX11_saveNew_28 rfl ?_
      refine kw_iload dX11_saveNew_29 rfl ?_
      refine kw_aload_n dX11_saveNew_31 rfl ?_
      refine kw_get dX11_saveNew_32 fl_X11_119 (hC_sa hj) rfl ?_
      refine kw_aload_n dX11_saveNew_35 rfl ?_
      refine kw_get dX11_saveNew_36 fl_X11_112 (hC_sa hj) rfl ?_
      refine kw_callSq (As := [pr_ (14, j), pi_ (nI (km_ s j))]) (m_copy l (hC s k) (14, j) (6, nb_ s) 4 (km_ s j) (fun i => nI (ks_ s j i)) (hC_kd hj) hkm (by decide) hk6 (hC_nm hk6 hns hb hp) (fun z => by cases z)) dX11_saveNew_39 cl_X11_141 rfl rfl (Nat.le_of_ble_eq_true rfl) ⟨(Nat.le_of_ble_eq_true rfl), (Nat.le_of_ble_eq_true rfl), (Nat.le_of_ble_eq_true rfl), (Nat.le_of_ble_eq_true rfl)⟩ (by simp [kw_all, kw_alo, kw_alv, kw_set1, kw_keep]; exact ⟨nm_some (show hC s k (0, 0) = some _ from rfl), nm_some (hC_sa hj)⟩) (by simp [kw_all, kw_alv]; exact nm_some (show hC s k (3, 0) = some _ from rfl)) (fun r1 ad1 h1 he1 hp1 => ?_)
      obtain ⟨rfl, rfl⟩ := hp1
      by_cases hcut : cut_ s = 0
      · rw [ck_new, if_pos hcut, if_neg (fun q => q.2.2 hcut)] at hK
        refine kw_callVq (As := [pl_ key, pi_ (nI z), pr_ (6, nb_ s)]) (t_add0 l s k hcut key (nI z) (km_ s j) (ks_ s j)) dX11_saveNew_42 cl_X11_147 rfl rfl rfl rfl (Nat.le_of_ble_eq_true rfl) ⟨(Nat.le_of_ble_eq_true rfl), (Nat.le_of_ble_eq_true rfl), (Nat.le_of_ble_eq_true rfl), (Nat.le_of_ble_eq_true rfl)⟩ (by simp [kw_all, kw_alo, kw_alv, kw_set1, kw_keep]; exact ⟨alr _ (nm_some (show hC s k (0, 0) = some _ from rfl)), alr _ (nm_some (hC_sa hj))⟩) (by simp [kw_all]) (fun r2 ad2 h2 he2 hp2 => ?_)
        obtain ⟨rfl, rfl⟩ := hp2
        refine kw_istore dX11_saveNew_45 (Nat.le_of_ble_eq_true rfl) ?_
        refine kw_iload dX11_saveNew_47 rfl ?_
        refine kw_bipush (v := (-105)) dX11_saveNew_49 (by decide) ?_
        refine kw_icmp_ne (tgt := 59) dX11_saveNew_51 (by decide) (fun c51 => ?_) (fun c51 => ?_)
        · skip
          exact absurd rfl c51
        · skip
          refine kw_aload_n dX11_saveNew_54 rfl ?_
          refine kw_callVf (As := []) (o_lose l (s_w0 s) k) dX11_saveNew_55 cl_X11_151 rfl rfl rfl rfl (Nat.le_of_ble_eq_true rfl) ⟨(Nat.le_of_ble_eq_true rfl), (Nat.le_of_ble_eq_true rfl), (Nat.le_of_ble_eq_true rfl), (Nat.le_of_ble_eq_true rfl)⟩ ?_
          exact kw_iret dX11_saveNew_58 rfl (Nat.le_of_ble_eq_true rfl) (Nat.le_of_ble_eq_true rfl) (hK _ _ _ ⟨fun q hq => (he2 q (alr q hq)).trans (he1 q hq), rfl, rfl⟩)
      rw [ck_new, if_neg hcut, if_pos ⟨e6, e18, hcut⟩] at hK
      refine kw_callVq (As := [pl_ key, pi_ (nI z), pr_ (6, nb_ s)]) (t_add1 l s k hcut hb80 hp hns (hnh hb80) key z (km_ s j) hz hz2 hcap hfull (ks_ s j) hroom) dX11_saveNew_42 cl_X11_147 rfl rfl rfl rfl (Nat.le_of_ble_eq_true rfl) ⟨(Nat.le_of_ble_eq_true rfl), (Nat.le_of_ble_eq_true rfl), (Nat.le_of_ble_eq_true rfl), (Nat.le_of_ble_eq_true rfl)⟩ (by simp [kw_all, kw_alo, kw_alv, kw_set1, kw_keep]; exact ⟨alr _ (nm_some (show hC s k (0, 0) = some _ from rfl)), alr _ (nm_some (hC_sa hj))⟩) (by simp [kw_all]) (fun r2 ad2 h2 he2 hp2 => ?_)
      obtain ⟨rfl, rfl⟩ := hp2
      refine kw_istore dX11_saveNew_45 (Nat.le_of_ble_eq_true rfl) ?_
      refine kw_iload dX11_saveNew_47 rfl ?_
      refine kw_bipush (v := (-105)) dX11_saveNew_49 (by decide) ?_
      refine kw_icmp_ne (tgt := 59) dX11_saveNew_51 (by decide) (fun c51 => ?_) (fun c51 => ?_)
      · skip
        refine kw_aload_n dX11_saveNew_59 rfl ?_
        refine kw_iload dX11_saveNew_60 rfl ?_
        refine kw_callVf (As := [pi_ (nI (nb_ s))]) (v_use l _ _ j hj (hu _ (s_add_um s k key z _ _)) (nb_ s)) dX11_saveNew_62 cl_X11_155 (hC_sa hj) rfl rfl rfl (Nat.le_of_ble_eq_true rfl) ⟨(Nat.le_of_ble_eq_true rfl), (Nat.le_of_ble_eq_true rfl), (Nat.le_of_ble_eq_true rfl), (Nat.le_of_ble_eq_true rfl)⟩ ?_
        refine kw_aload_n dX11_saveNew_65 rfl ?_
        refine kw_iconst (v := 0) dX11_saveNew_66 (by decide) ?_
        refine kw_put dX11_saveNew_67 fl_X11_112 (hC_sa hj) (kw_ok_i _) (Nat.le_of_ble_eq_true rfl) ?_
        refine kw_heq (up_skm _ _ j hj 0) ?_
        refine kw_iload dX11_saveNew_70 rfl ?_
        exact kw_iret dX11_saveNew_72 rfl (Nat.le_of_ble_eq_true rfl) (Nat.le_of_ble_eq_true rfl) (hK _ _ _ ⟨fun q hq => (he2 q (alr q hq)).trans (he1 q hq), rfl, rfl⟩)
      · skip
        exact absurd c51 (nI_m105 (by omega))
    · skip
      have e18 := b2_0.mp c18
      rw [c_new, ck_new, if_neg (fun q => by rw [e18] at q; cases q.2), if_neg (fun q => by rw [e18] at q; cases q.2.1)] at hK
      refine kw_bipush (v := (-104)) dX11_saveNew_21 (by decide) ?_
      exact kw_iret dX11_saveNew_23 rfl (Nat.le_of_ble_eq_true rfl) (Nat.le_of_ble_eq_true rfl) (hK _ _ _ ⟨fun _ _ => rfl, rfl, rfl⟩)
