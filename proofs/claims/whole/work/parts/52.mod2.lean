/-! THE MODEL'S METHODS, 2 -/
theorem sg_ext {a b : SG} (h1 : a.1 = b.1) (h2 : a.2.1 = b.2.1) (h3 : a.2.2.1 = b.2.2.1) (h4 : a.2.2.2.1 = b.2.2.2.1) (h5 : fs_ a = fs_ b) (h6 : gs_ a = gs_ b) (h7 : ys_ a = ys_ b) (h8 : ff_ a = ff_ b) : a = b := by
  obtain ⟨a1, a2, a3, a4, a5, a6, a7, a8⟩ := a
  obtain ⟨b1, b2, b3, b4, b5, b6, b7, b8⟩ := b
  have h1 : a1 = b1 := h1
  have h2 : a2 = b2 := h2
  have h3 : a3 = b3 := h3
  have h4 : a4 = b4 := h4
  have h5 : a5 = b5 := h5
  have h6 : a6 = b6 := h6
  have h7 : a7 = b7 := h7
  have h8 : a8 = b8 := h8
  rw [h1, h2, h3, h4, h5, h6, h7, h8]
def mW (s : SG) (k : KG) (h : PH) : Prop := ∃ κ, mEq κ k ∧ MI s κ ∧ h = hM s κ
theorem MI_push {s : SG} {k : KG} (h : MI s k) {j : Nat} (hj : j < 4) (hu : ∀ i, i < 4 → um_ s i ≤ 8) (hu8 : um_ s j < 8) (b : Nat) : MI (s_push s j b) (kN k 5 (va_up (kn_ k 5) (8 * j + um_ s j) b)) := by
  refine ⟨h.1, h.2.1, fun i hi q hq => ?_, h.2.2.2⟩
  have hq : q < va_up (um_ s) j (um_ s j + 1) i := hq
  show va_up (kn_ k 5) (8 * j + um_ s j) b (8 * i + q) = va_up (us_ s) j (va_up (us_ s j) (um_ s j) b) i q
  have := hu i hi
  simp only [va_up] at hq ⊢
  by_cases e : i = j
  · subst e
    rw [if_pos rfl] at hq
    rw [if_pos rfl]
    show _ = if q = um_ s i then b else us_ s i q
    by_cases e2 : q = um_ s i
    · rw [if_pos (by omega), if_pos e2]
    · rw [if_neg (by omega), if_neg e2]; exact h.2.2.1 i hi q (by omega)
  · rw [if_neg e] at hq
    rw [if_neg e, if_neg (by omega)]; exact h.2.2.1 i hi q hq
theorem MI_kid {s : SG} {k : KG} (h : MI s k) {j : Nat} (hj : j < 4) (hu : ∀ i, i < 4 → km_ s i ≤ 4) (hu8 : km_ s j < 4) (b : Nat) : MI (s_kid s j b) (kN k 6 (va_up (kn_ k 6) (4 * j + km_ s j) b)) := by
  refine ⟨h.1, h.2.1, h.2.2.1, fun i hi q hq => ?_⟩
  have hq : q < va_up (km_ s) j (km_ s j + 1) i := hq
  show va_up (kn_ k 6) (4 * j + km_ s j) b (4 * i + q) = va_up (ks_ s) j (va_up (ks_ s j) (km_ s j) b) i q
  have := hu i hi
  simp only [va_up] at hq ⊢
  by_cases e : i = j
  · subst e
    rw [if_pos rfl] at hq
    rw [if_pos rfl]
    show _ = if q = km_ s i then b else ks_ s i q
    by_cases e2 : q = km_ s i
    · rw [if_pos (by omega), if_pos e2]
    · rw [if_neg (by omega), if_neg e2]; exact h.2.2.2 i hi q (by omega)
  · rw [if_neg e] at hq
    rw [if_neg e, if_neg (by omega)]; exact h.2.2.2 i hi q hq
theorem MI_rn {s : SG} {k : KG} (h : MI s k) (j : Nat) : MI (s_rn s j) k := by
  unfold s_rn
  split
  · exact h
  · exact h
theorem arr_eq (s : SG) (j y : Nat) : sF (sF (sY (sF (sGb s 4 (va_up (sv_ s) j true)) 13 (va_up (le_ s) j y)) 2 (va_up (un_ s) j (now_ s + (nI y).toInt64))) 14 (va_up (um_ s) j 0)) 16 (va_up (km_ s) j 0) = s_arr s j y (now_ s) := by
  have e : va_up (le_ s) j y j = y := by simp only [va_up, if_true]
  have e2 : s_arr s j y (now_ s) = sY (s_arr0 s j y) 2 (va_up (un_ s) j (now_ s + (nI (va_up (le_ s) j y j)).toInt64)) := rfl
  rw [e2, e]
  unfold s_arr0
  refine sg_ext rfl rfl rfl rfl ?_ rfl rfl rfl
  funext i
  dsimp only [fs_, sF, sGb, sY, va_up]
  repeat' split
  all_goals first | rfl | omega
theorem MI_arr {s : SG} {k : KG} (h : MI s k) (j y : Nat) : MI (s_arr s j y (now_ s)) k := by
  refine ⟨h.1, h.2.1, fun i hi q hq => ?_, fun i hi q hq => ?_⟩
  · have hq : q < va_up (um_ s) j 0 i := hq
    simp only [va_up] at hq
    split at hq
    · omega
    · exact h.2.2.1 i hi q hq
  · have hq : q < va_up (km_ s) j 0 i := hq
    simp only [va_up] at hq
    split at hq
    · omega
    · exact h.2.2.2 i hi q hq
set_option maxHeartbeats 4000000 in
set_option maxRecDepth 100000 in
theorem M_begin (l : Launch) (s : SG) (k : KG) (hMI : MI s k) (x : Int32) : kw_P l yX12_begin cX12_begin 3 (Option.some Jvm.ClassFile.FieldType.int) { frames := 1, cells := 0, slots := 0, locals := 25 } [pr_ (40, 0), pi_ x] (hM s k) (fun r h' => r = some (pi_ (a_begin s x).1) ∧ mW (a_begin s x).2 k h') := by
  refine kw_M_of RX12 "begin" [some (pr_ (40, 0)), some (pi_ x), none] (by decide) rfl rfl rfl (Nat.le_of_ble_eq_true rfl) ?_
  intro D ad A
  refine kw_Kgen (fun K hK => ?_)
  refine kw_aload_n dX12_begin_0 rfl ?_
  refine kw_get dX12_begin_1 fl_X12_127 rfl rfl ?_
  refine kw_if_eq (tgt := 10) dX12_begin_4 (by decide) (fun c4 => ?_) (fun c4 => ?_)
  · skip
    have hd : ¬ dn_ s = true := by rw [b2_0.mp c4]; decide
    refine kw_iload_n dX12_begin_10 rfl ?_
    refine kw_i2l dX12_begin_11 ?_
    refine kw_lconst (v := 1) dX12_begin_12 (by decide) ?_
    refine kw_top (v' := pl_ ((1 : Int32).toInt64)) (by decide) ?_
    refine kw_ldc2 dX12_begin_13 kt_1091 ?_
    refine kw_top (v' := pl_ ((1000000 : Int32).toInt64)) (by decide) ?_
    refine kw_callSf (As := [pl_ x.toInt64, pl_ (1 : Int32).toInt64, pl_ (1000000 : Int32).toInt64]) (n_inI l _ x 1 1000000) dX12_begin_16 cl_X12_144 rfl rfl (Nat.le_of_ble_eq_true rfl) ⟨(Nat.le_of_ble_eq_true rfl), (Nat.le_of_ble_eq_true rfl), (Nat.le_of_ble_eq_true rfl), (Nat.le_of_ble_eq_true rfl)⟩ ?_
    refine kw_if_ne (tgt := 25) dX12_begin_19 (by decide) (fun c19 => ?_) (fun c19 => ?_)
    · skip
      obtain ⟨e19, e20⟩ := inB_t (b2_n0.mp c19)
      obtain ⟨y, hy1, rfl⟩ := nI_of2 (M := 1000000) (n := 1000000) (by decide) (fun q => Int32.not_lt.mpr e19 (Int32.lt_trans q (by decide))) e20
      rw [a_begin, if_neg hd, if_neg (fun q => q.elim (fun z => Int32.not_lt.mpr e19 z) (fun z => Int32.not_lt.mpr e20 z)), cl_, nI_clamp (by omega)] at hK
      have loop : ∀ (n_ : Nat) (j : Nat), 4 - j < n_ → j ≤ 4 → frS s = ffN (fun j => !sv_ s j) (4 - j) j → kw_G l D cX12_begin RX12 (Option.some Jvm.ClassFile.FieldType.int) "begin" { frames := 1, cells := 0, slots := 0, locals := 25 } A K ad (hM s k) 0 0 27 [some (pr_ (40, 0)), some (pi_ (nI y)), some (pi_ (nI j))] [] := by
        intro n_
        induction n_ with
        | zero =>
          intro j hm_
          exact absurd hm_ (Nat.not_lt_zero _)
        | succ n_ ih =>
          intro j hm_ hj hf
          refine kw_iload_n dX12_begin_27 rfl ?_
          refine kw_iconst (v := 4) dX12_begin_28 (by decide) ?_
          refine kw_icmp_ge (tgt := 47) dX12_begin_29 (by decide) (fun c29 => ?_) (fun c29 => ?_)
          · skip
            have e : j = 4 := Nat.le_antisymm hj (nI_le' (a := 4) (by omega) (by omega) c29)
            have e4 : frS s = 4 := by rw [hf, e]; rfl
            subst e
            refine kw_iload_n dX12_begin_47 rfl ?_
            refine kw_iconst (v := 4) dX12_begin_48 (by decide) ?_
            refine kw_icmp_ne (tgt := 55) dX12_begin_49 (by decide) (fun c49 => ?_) (fun c49 => ?_)
            · skip
              exact absurd rfl c49
            · skip
              refine kw_bipush (v := (-104)) dX12_begin_52 (by decide) ?_
              exact kw_iret dX12_begin_54 rfl (Nat.le_of_ble_eq_true rfl) (Nat.le_of_ble_eq_true rfl) (hK _ _ _ ⟨rfl, by rw [if_pos e4], by rw [if_pos e4]; exact ⟨k, mEq.rf k, hMI, rfl⟩⟩)
          · skip
            have hlt : j < 4 := nI_nle' (a := 4) (by omega) (by omega) c29
            have e1 : 4 - j = (4 - (j + 1)) + 1 := by omega
            rw [e1, ffN] at hf
            refine kw_aload_n dX12_begin_32 rfl ?_
            refine kw_get dX12_begin_33 fl_X12_79 rfl rfl ?_
            refine kw_iload_n dX12_begin_36 rfl ?_
            refine kw_zaldN dX12_begin_37 rfl hlt (by decide) ?_
            refine kw_if_eq (tgt := 47) dX12_begin_38 (by decide) (fun c38 => ?_) (fun c38 => ?_)
            · skip
              rw [b2_0.mp c38] at hf
              have e5 : frS s = j := hf
              refine kw_iload_n dX12_begin_47 rfl ?_
              refine kw_iconst (v := 4) dX12_begin_48 (by decide) ?_
              refine kw_icmp_ne (tgt := 55) dX12_begin_49 (by decide) (fun c49 => ?_) (fun c49 => ?_)
              · skip
                refine kw_aload_n dX12_begin_55 rfl ?_
                refine kw_get dX12_begin_56 fl_X12_79 rfl rfl ?_
                refine kw_iload_n dX12_begin_59 rfl ?_
                refine kw_iconst (v := 1) dX12_begin_60 (by decide) ?_
                refine kw_top (v' := pi_ (b2 true)) rfl ?_
                refine kw_zastN dX12_begin_61 rfl hlt (by decide) ?_
                refine kw_heq (uma_18 s k j true) ?_
                refine kw_aload_n dX12_begin_62 rfl ?_
                refine kw_get dX12_begin_63 fl_X12_82 rfl rfl ?_
                refine kw_iload_n dX12_begin_66 rfl ?_
                refine kw_iload_n dX12_begin_67 rfl ?_
                refine kw_iastN dX12_begin_68 rfl hlt (by decide) ?_
                refine kw_heq (uma_19 (sGb s 4 (va_up (sv_ s) j true)) k j y) ?_
                refine kw_aload_n dX12_begin_69 rfl ?_
                refine kw_get dX12_begin_70 fl_X12_85 rfl rfl ?_
                refine kw_iload_n dX12_begin_73 rfl ?_
                refine kw_aload_n dX12_begin_74 rfl ?_
                refine kw_get dX12_begin_75 fl_X12_9 rfl rfl ?_
                refine kw_iload_n dX12_begin_78 rfl ?_
                refine kw_i2l dX12_begin_79 ?_
                refine kw_ladd dX12_begin_80 ?_
                refine kw_lastN dX12_begin_81 rfl hlt (by decide) ?_
                refine kw_heq (uma_20 (sF (sGb s 4 (va_up (sv_ s) j true)) 13 (va_up (le_ s) j y)) k j _) ?_
                refine kw_aload_n dX12_begin_82 rfl ?_
                refine kw_get dX12_begin_83 fl_X12_88 rfl rfl ?_
                refine kw_iload_n dX12_begin_86 rfl ?_
                refine kw_iconst (v := 0) dX12_begin_87 (by decide) ?_
                refine kw_top (v' := pi_ (nI 0)) rfl ?_
                refine kw_iastN dX12_begin_88 rfl hlt (by decide) ?_
                refine kw_heq (uma_21 _ k j 0) ?_
                refine kw_aload_n dX12_begin_89 rfl ?_
                refine kw_get dX12_begin_90 fl_X12_94 rfl rfl ?_
                refine kw_iload_n dX12_begin_93 rfl ?_
                refine kw_iconst (v := 0) dX12_begin_94 (by decide) ?_
                refine kw_top (v' := pi_ (nI 0)) rfl ?_
                refine kw_iastN dX12_begin_95 rfl hlt (by decide) ?_
                refine kw_heq (uma_23 _ k j 0) ?_
                refine kw_iload_n dX12_begin_96 rfl ?_
                exact kw_iret dX12_begin_97 rfl (Nat.le_of_ble_eq_true rfl) (Nat.le_of_ble_eq_true rfl) (hK _ _ _ ⟨rfl, by rw [if_neg (by omega), e5], by rw [if_neg (by omega), e5]; exact ⟨k, mEq.rf k, MI_arr hMI j y, congrArg (fun z => hM z k) (arr_eq s j y)⟩⟩)
              · skip
                exact absurd (nI_eq' (b := 4) (by omega) (by decide) c49) (by omega)
            · skip
              rw [b2_n0.mp c38] at hf
              refine kw_iinc dX12_begin_41 rfl (nI_i j) ?_
              refine kw_goto (tgt := 27) dX12_begin_44 (by decide) ?_
              exact ih (j + 1) (by omega) (by omega) hf
      refine kw_iconst (v := 0) dX12_begin_25 (by decide) ?_
      refine kw_istore_n dX12_begin_26 (Nat.le_of_ble_eq_true rfl) ?_
      exact loop 5 0 (by omega) (by omega) rfl
    · skip
      refine kw_bipush (v := (-102)) dX12_begin_22 (by decide) ?_
      exact kw_iret dX12_begin_24 rfl (Nat.le_of_ble_eq_true rfl) (Nat.le_of_ble_eq_true rfl) (hK _ _ _ ⟨rfl, by rw [a_begin, if_neg hd, if_pos (inB_f (b2_0.mp c19))], by rw [a_begin, if_neg hd, if_pos (inB_f (b2_0.mp c19))]; exact ⟨k, mEq.rf k, hMI, rfl⟩⟩)
  · skip
    have hd := b2_n0.mp c4
    refine kw_bipush (v := (-106)) dX12_begin_7 (by decide) ?_
    exact kw_iret dX12_begin_9 rfl (Nat.le_of_ble_eq_true rfl) (Nat.le_of_ble_eq_true rfl) (hK _ _ _ ⟨rfl, by rw [a_begin, if_pos hd], by rw [a_begin, if_pos hd]; exact ⟨k, mEq.rf k, hMI, rfl⟩⟩)
set_option maxHeartbeats 4000000 in
set_option maxRecDepth 100000 in
theorem n_use (l : Launch) (s : SG) (k : KG) (hMI : MI s k) (j : Nat) (hj : j < 4) (hu : ∀ i, i < 4 → um_ s i ≤ 8) (b : Nat) (hc : um_ s j < 8 ∨ usesB s j (nI b) = true) : kw_P l yX12_use cX12_use 3 (Option.none : Option Jvm.ClassFile.FieldType) { frames := 1, cells := 0, slots := 0, locals := 24 } [pr_ (40, 0), pi_ (nI j), pi_ (nI b)] (hM s k) (fun r h' => r = none ∧ ∃ κ, mEq κ k ∧ MI (s_use s j b) κ ∧ h' = hM (s_use s j b) κ ∧ κ.1 = k.1 ∧ kb_ κ = kb_ k) := by
  refine kw_M_of RX12 "use" [some (pr_ (40, 0)), some (pi_ (nI j)), some (pi_ (nI b))] (by decide) rfl rfl rfl (Nat.le_of_ble_eq_true rfl) ?_
  intro D ad A
  refine kw_Kgen (fun K hK => ?_)
  refine kw_aload_n dX12_use_0 rfl ?_
  refine kw_iload_n dX12_use_1 rfl ?_
  refine kw_iload_n dX12_use_2 rfl ?_
  refine kw_callVf (As := [pi_ (nI j), pi_ (nI b)]) (n_uses l s k j hj (hu j hj) (hMI.2.2.1 j hj) (nI b)) dX12_use_3 cl_X12_174 rfl rfl rfl rfl (Nat.le_of_ble_eq_true rfl) ⟨(Nat.le_of_ble_eq_true rfl), (Nat.le_of_ble_eq_true rfl), (Nat.le_of_ble_eq_true rfl), (Nat.le_of_ble_eq_true rfl)⟩ ?_
  refine kw_if_ne (tgt := 36) dX12_use_6 (by decide) (fun c6 => ?_) (fun c6 => ?_)
  · skip
    have e6 := b2_n0.mp c6
    have es : s_use s j b = s := if_neg (fun q => by rw [e6] at q; exact absurd q.2 (by decide))
    exact kw_vret dX12_use_36 rfl (Nat.le_of_ble_eq_true rfl) (Nat.le_of_ble_eq_true rfl) (hK _ _ _ ⟨rfl, rfl, k, mEq.rf k, by rw [es]; exact hMI, by rw [es], rfl, rfl⟩)
  · skip
    have e6 := b2_0.mp c6
    have hu8 : um_ s j < 8 := hc.elim (fun q => q) (fun q => by rw [e6] at q; cases q)
    have es : s_use s j b = s_push s j b := if_pos ⟨hu8, e6⟩
    refine kw_aload_n dX12_use_9 rfl ?_
    refine kw_get dX12_use_10 fl_X12_91 rfl rfl ?_
    refine kw_bipush (v := (nI 8)) dX12_use_13 (by decide) ?_
    refine kw_iload_n dX12_use_15 rfl ?_
    refine kw_imul dX12_use_16 ?_
    refine kw_top (v' := pi_ (nI (8 * j))) (by rw [nI_mul]) ?_
    refine kw_aload_n dX12_use_17 rfl ?_
    refine kw_get dX12_use_18 fl_X12_88 rfl rfl ?_
    refine kw_iload_n dX12_use_21 rfl ?_
    refine kw_ialdN dX12_use_22 rfl hj (by decide) ?_
    refine kw_iadd dX12_use_23 ?_
    refine kw_top (v' := pi_ (nI (8 * j + um_ s j))) (by rw [nI_add]) ?_
    refine kw_iload_n dX12_use_24 rfl ?_
    refine kw_iastN dX12_use_25 rfl (by omega) (by decide) ?_
    refine kw_heq (uma_22 s k (8 * j + um_ s j) b) ?_
    refine kw_aload_n dX12_use_26 rfl ?_
    refine kw_get dX12_use_27 fl_X12_88 rfl rfl ?_
    refine kw_iload_n dX12_use_30 rfl ?_
    refine kw_dup2 dX12_use_31 rfl rfl ?_
    refine kw_ialdN dX12_use_32 rfl hj (by decide) ?_
    refine kw_iconst (v := 1) dX12_use_33 (by decide) ?_
    refine kw_iadd dX12_use_34 ?_
    refine kw_top (v' := pi_ (nI (um_ s j + 1))) (by rw [← nI_1]) ?_
    refine kw_iastN dX12_use_35 rfl hj (by decide) ?_
    refine kw_heq (uma_21 s _ j (um_ s j + 1)) ?_
    exact kw_vret dX12_use_36 rfl (Nat.le_of_ble_eq_true rfl) (Nat.le_of_ble_eq_true rfl) (hK _ _ _ ⟨rfl, rfl, kN k 5 (va_up (kn_ k 5) (8 * j + um_ s j) b), ⟨rfl, rfl⟩, by rw [es]; exact MI_push hMI hj hu hu8 b, by rw [es]; rfl, rfl, rfl⟩)
set_option maxHeartbeats 4000000 in
set_option maxRecDepth 100000 in
theorem M_give (l : Launch) (s : SG) (k : KG) (hMI : MI s k) (x : Int32) : kw_P l yX12_give cX12_give 2 (Option.some Jvm.ClassFile.FieldType.int) { frames := 2, cells := 0, slots := 0, locals := 46 } [pr_ (40, 0), pi_ x] (hM s k) (fun r h' => r = some (pi_ (a_give s x).1) ∧ mW (a_give s x).2 k h') := by
  refine kw_M_of RX12 "give" [some (pr_ (40, 0)), some (pi_ x)] (by decide) rfl rfl rfl (Nat.le_of_ble_eq_true rfl) ?_
  intro D ad A
  refine kw_Kgen (fun K hK => ?_)
  refine kw_aload_n dX12_give_0 rfl ?_
  refine kw_get dX12_give_1 fl_X12_127 rfl rfl ?_
  refine kw_if_eq (tgt := 10) dX12_give_4 (by decide) (fun c4 => ?_) (fun c4 => ?_)
  · skip
    have hd : ¬ dn_ s = true := by rw [b2_0.mp c4]; decide
    refine kw_aload_n dX12_give_10 rfl ?_
    refine kw_iload_n dX12_give_11 rfl ?_
    refine kw_callVf (As := [pi_ x]) (n_isSaver l s k x) dX12_give_12 cl_X12_165 rfl rfl rfl rfl (Nat.le_of_ble_eq_true rfl) ⟨(Nat.le_of_ble_eq_true rfl), (Nat.le_of_ble_eq_true rfl), (Nat.le_of_ble_eq_true rfl), (Nat.le_of_ble_eq_true rfl)⟩ ?_
    refine kw_if_ne (tgt := 21) dX12_give_15 (by decide) (fun c15 => ?_) (fun c15 => ?_)
    · skip
      have e15 := b2_n0.mp c15
      obtain ⟨j, hj, e16⟩ := anyN_iff.mp e15
      rw [Bool.and_eq_true] at e16
      have ex := of_decide_eq_true e16.1
      subst ex
      have ecl : cl_ (nI j) = j := nI_clamp (by omega)
      rw [a_give, if_neg hd, if_pos e15, ecl] at hK
      refine kw_aload_n dX12_give_21 rfl ?_
      refine kw_get dX12_give_22 fl_X12_79 rfl rfl ?_
      refine kw_iload_n dX12_give_25 rfl ?_
      refine kw_iconst (v := 0) dX12_give_26 (by decide) ?_
      refine kw_top (v' := pi_ (b2 false)) rfl ?_
      refine kw_zastN dX12_give_27 rfl hj (by decide) ?_
      refine kw_heq (uma_18 s k j false) ?_
      refine kw_aload_n dX12_give_28 rfl ?_
      refine kw_get dX12_give_29 fl_X12_88 rfl rfl ?_
      refine kw_iload_n dX12_give_32 rfl ?_
      refine kw_ialdN dX12_give_33 rfl hj (by decide) ?_
      exact kw_iret dX12_give_34 rfl (Nat.le_of_ble_eq_true rfl) (Nat.le_of_ble_eq_true rfl) (hK _ _ _ ⟨rfl, rfl, k, mEq.rf k, hMI, rfl⟩)
    · skip
      have e15 : ¬ svOk s x = true := by rw [b2_0.mp c15]; decide
      refine kw_bipush (v := (-101)) dX12_give_18 (by decide) ?_
      exact kw_iret dX12_give_20 rfl (Nat.le_of_ble_eq_true rfl) (Nat.le_of_ble_eq_true rfl) (hK _ _ _ ⟨rfl, by rw [a_give, if_neg hd, if_neg e15], by rw [a_give, if_neg hd, if_neg e15]; exact ⟨k, mEq.rf k, hMI, rfl⟩⟩)
  · skip
    have hd := b2_n0.mp c4
    refine kw_bipush (v := (-106)) dX12_give_7 (by decide) ?_
    exact kw_iret dX12_give_9 rfl (Nat.le_of_ble_eq_true rfl) (Nat.le_of_ble_eq_true rfl) (hK _ _ _ ⟨rfl, by rw [a_give, if_pos hd], by rw [a_give, if_pos hd]; exact ⟨k, mEq.rf k, hMI, rfl⟩⟩)
set_option maxHeartbeats 4000000 in
set_option maxRecDepth 100000 in
theorem M_child (l : Launch) (s : SG) (k : KG) (hMI : MI s k) (hb : nb_ s ≤ 80) (hu : ∀ i, i < 4 → um_ s i ≤ 8) (hkm : ∀ i, i < 4 → km_ s i ≤ 4) (x b : Int32) : kw_P l yX12_child cX12_child 4 (Option.some Jvm.ClassFile.FieldType.int) { frames := 2, cells := 0, slots := 0, locals := 46 } [pr_ (40, 0), pi_ x, pi_ b] (hM s k) (fun r h' => r = some (pi_ (a_child s x b).1) ∧ mW (a_child s x b).2 k h') := by
  refine kw_M_of RX12 "child" [some (pr_ (40, 0)), some (pi_ x), some (pi_ b), none] (by decide) rfl rfl rfl (Nat.le_of_ble_eq_true rfl) ?_
  intro D ad A
  refine kw_Kgen (fun K hK => ?_)
  refine kw_aload_n dX12_child_0 rfl ?_
  refine kw_get dX12_child_1 fl_X12_127 rfl rfl ?_
  refine kw_if_eq (tgt := 10) dX12_child_4 (by decide) (fun c4 => ?_) (fun c4 => ?_)
  · skip
    have hd : ¬ dn_ s = true := by rw [b2_0.mp c4]; decide
    refine kw_aload_n dX12_child_10 rfl ?_
    refine kw_iload_n dX12_child_11 rfl ?_
    refine kw_callVf (As := [pi_ x]) (n_isSaver l s k x) dX12_child_12 cl_X12_165 rfl rfl rfl rfl (Nat.le_of_ble_eq_true rfl) ⟨(Nat.le_of_ble_eq_true rfl), (Nat.le_of_ble_eq_true rfl), (Nat.le_of_ble_eq_true rfl), (Nat.le_of_ble_eq_true rfl)⟩ ?_
    refine kw_if_ne (tgt := 21) dX12_child_15 (by decide) (fun c15 => ?_) (fun c15 => ?_)
    · skip
      have e15 := b2_n0.mp c15
      obtain ⟨j, hj, e16⟩ := anyN_iff.mp e15
      rw [Bool.and_eq_true] at e16
      have ex := of_decide_eq_true e16.1
      subst ex
      have ecl : cl_ (nI j) = j := nI_clamp (by omega)
      rw [a_child, if_neg hd, if_pos e15, ecl] at hK
      obtain ⟨y, hy, -⟩ := s_rn_e s j
      have r1 : (s_rn s j).1 = s.1 := by rw [hy]
      have r5 : (s_rn s j).2.2.2.2.1 = s.2.2.2.2.1 := by rw [hy]
      have r6 : (s_rn s j).2.2.2.2.2.1 = s.2.2.2.2.2.1 := by rw [hy]
      have r8 : (s_rn s j).2.2.2.2.2.2.2 = s.2.2.2.2.2.2.2 := by rw [hy]
      have hM2 := MI_rn hMI j
      obtain ⟨t, ht⟩ : ∃ t, t = s_rn s j := ⟨_, rfl⟩
      rw [← ht] at r1 r5 r6 r8 hM2 hK
      have eb : nb_ t = nb_ s := congrFun r1 1
      have eum : um_ t = um_ s := congrFun r5 14
      have ekm : km_ t = km_ s := congrFun r5 16
      have eh : ∀ z, holdsB t z = holdsB s z := fun z => by unfold holdsB; rw [nb_, r1, th_, gs_, r6]
      have eu : ∀ z, usesB t j z = usesB s j z := fun z => by unfold usesB; rw [eum, us_, ff_, r8]
      refine kw_aload_n dX12_child_21 rfl ?_
      refine kw_iload_n dX12_child_22 rfl ?_
      refine kw_callVf (As := [pi_ (nI j)]) (n_meet l s k j hj) dX12_child_23 cl_X12_168 rfl rfl rfl rfl (Nat.le_of_ble_eq_true rfl) ⟨(Nat.le_of_ble_eq_true rfl), (Nat.le_of_ble_eq_true rfl), (Nat.le_of_ble_eq_true rfl), (Nat.le_of_ble_eq_true rfl)⟩ ?_
      rw [← ht]
      refine kw_istore_n dX12_child_26 (Nat.le_of_ble_eq_true rfl) ?_
      refine kw_aload_n dX12_child_27 rfl ?_
      refine kw_iload_n dX12_child_28 rfl ?_
      refine kw_callVf (As := [pi_ b]) (n_isBlock l t k (by omega) b) dX12_child_29 cl_X12_171 rfl rfl rfl rfl (Nat.le_of_ble_eq_true rfl) ⟨(Nat.le_of_ble_eq_true rfl), (Nat.le_of_ble_eq_true rfl), (Nat.le_of_ble_eq_true rfl), (Nat.le_of_ble_eq_true rfl)⟩ ?_
      refine kw_if_ne (tgt := 38) dX12_child_32 (by decide) (fun c32 => ?_) (fun c32 => ?_)
      · skip
        have e32 := b2_n0.mp c32
        rw [eh] at e32
        rw [if_pos e32] at hK
        refine kw_iload_n dX12_child_38 rfl ?_
        refine kw_if_eq (tgt := 51) dX12_child_39 (by decide) (fun c39 => ?_) (fun c39 => ?_)
        · skip
          have e39 : dead_ s j = true := not_b2 c39
          refine kw_bipush (v := (-103)) dX12_child_51 (by decide) ?_
          exact kw_iret dX12_child_53 rfl (Nat.le_of_ble_eq_true rfl) (Nat.le_of_ble_eq_true rfl) (hK _ _ _ ⟨rfl, by rw [if_pos (Or.inl e39)], by rw [if_pos (Or.inl e39)]; exact ⟨k, mEq.rf k, hM2, rfl⟩⟩)
        · skip
          have e39 : dead_ s j = false := not_b2n c39
          refine kw_aload_n dX12_child_42 rfl ?_
          refine kw_iload_n dX12_child_43 rfl ?_
          refine kw_iload_n dX12_child_44 rfl ?_
          refine kw_callVf (As := [pi_ (nI j), pi_ b]) (n_uses l t k j hj (by rw [eum]; exact hu j hj) (hM2.2.2.1 j hj) b) dX12_child_45 cl_X12_174 rfl rfl rfl rfl (Nat.le_of_ble_eq_true rfl) ⟨(Nat.le_of_ble_eq_true rfl), (Nat.le_of_ble_eq_true rfl), (Nat.le_of_ble_eq_true rfl), (Nat.le_of_ble_eq_true rfl)⟩ ?_
          refine kw_if_ne (tgt := 54) dX12_child_48 (by decide) (fun c48 => ?_) (fun c48 => ?_)
          · skip
            have e48 := b2_n0.mp c48
            rw [eu] at e48
            rw [if_neg (fun q => q.elim (fun z => by rw [e39] at z; cases z) (fun z => by rw [e48] at z; cases z))] at hK
            have hkj := hkm j hj
            rw [← ekm] at hkj hK
            obtain ⟨bn, hbn, e49⟩ := anyN_iff.mp e32
            rw [Bool.and_eq_true] at e49
            have exb := of_decide_eq_true e49.1
            subst exb
            have eclb : cl_ (nI bn) = bn := nI_clamp (by omega)
            rw [eclb] at hK
            refine kw_aload_n dX12_child_54 rfl ?_
            refine kw_get dX12_child_55 fl_X12_94 rfl rfl ?_
            refine kw_iload_n dX12_child_58 rfl ?_
            refine kw_ialdN dX12_child_59 rfl hj (by decide) ?_
            refine kw_iconst (v := 4) dX12_child_60 (by decide) ?_
            refine kw_icmp_ne (tgt := 67) dX12_child_61 (by decide) (fun c61 => ?_) (fun c61 => ?_)
            · skip
              have e61 : km_ t j < 4 := Nat.lt_of_le_of_ne hkj (fun q => c61 (by rw [q]; rfl))
              rw [if_pos e61] at hK
              refine kw_aload_n dX12_child_67 rfl ?_
              refine kw_get dX12_child_68 fl_X12_97 rfl rfl ?_
              refine kw_iconst (v := (nI 4)) dX12_child_71 (by decide) ?_
              refine kw_iload_n dX12_child_72 rfl ?_
              refine kw_imul dX12_child_73 ?_
              refine kw_top (v' := pi_ (nI (4 * j))) (by rw [nI_mul]) ?_
              refine kw_aload_n dX12_child_74 rfl ?_
              refine kw_get dX12_child_75 fl_X12_94 rfl rfl ?_
              refine kw_iload_n dX12_child_78 rfl ?_
              refine kw_ialdN dX12_child_79 rfl hj (by decide) ?_
              refine kw_iadd dX12_child_80 ?_
              refine kw_top (v' := pi_ (nI (4 * j + km_ t j))) (by rw [nI_add]) ?_
              refine kw_iload_n dX12_child_81 rfl ?_
              refine kw_iastN dX12_child_82 rfl (by omega) (by decide) ?_
              refine kw_heq (uma_24 t k (4 * j + km_ t j) bn) ?_
              refine kw_aload_n dX12_child_83 rfl ?_
              refine kw_get dX12_child_84 fl_X12_94 rfl rfl ?_
              refine kw_iload_n dX12_child_87 rfl ?_
              refine kw_dup2 dX12_child_88 rfl rfl ?_
              refine kw_ialdN dX12_child_89 rfl hj (by decide) ?_
              refine kw_iconst (v := 1) dX12_child_90 (by decide) ?_
              refine kw_iadd dX12_child_91 ?_
              refine kw_top (v' := pi_ (nI (km_ t j + 1))) (by rw [← nI_1]) ?_
              refine kw_iastN dX12_child_92 rfl hj (by decide) ?_
              refine kw_heq (uma_23 t _ j (km_ t j + 1)) ?_
              refine kw_aload_n dX12_child_93 rfl ?_
              refine kw_get dX12_child_94 fl_X12_94 rfl rfl ?_
              refine kw_iload_n dX12_child_97 rfl ?_
              refine kw_ialdN dX12_child_98 rfl hj (by decide) ?_
              refine kw_top (v' := pi_ (nI (km_ t j + 1))) (by show pi_ (nI (va_up (km_ t) j (km_ t j + 1) j)) = _; simp only [va_up, if_true]) ?_
              exact kw_iret dX12_child_99 rfl (Nat.le_of_ble_eq_true rfl) (Nat.le_of_ble_eq_true rfl) (hK _ _ _ ⟨rfl, rfl, kN k 6 (va_up (kn_ k 6) (4 * j + km_ t j) bn), ⟨rfl, rfl⟩, MI_kid hM2 hj (fun i hi => by rw [ekm]; exact hkm i hi) e61 bn, rfl⟩)
            · skip
              have e61 : km_ t j = 4 := nI_eq' (b := 4) (by omega) (by decide) c61
              refine kw_bipush (v := (-104)) dX12_child_64 (by decide) ?_
              exact kw_iret dX12_child_66 rfl (Nat.le_of_ble_eq_true rfl) (Nat.le_of_ble_eq_true rfl) (hK _ _ _ ⟨rfl, by rw [if_neg (by omega)], by rw [if_neg (by omega)]; exact ⟨k, mEq.rf k, hM2, rfl⟩⟩)
          · skip
            refine kw_bipush (v := (-103)) dX12_child_51 (by decide) ?_
            exact kw_iret dX12_child_53 rfl (Nat.le_of_ble_eq_true rfl) (Nat.le_of_ble_eq_true rfl) (hK _ _ _ ⟨rfl, by rw [if_pos (Or.inr (by rw [← eu, b2_0.mp c48]))], by rw [if_pos (Or.inr (by rw [← eu, b2_0.mp c48]))]; exact ⟨k, mEq.rf k, hM2, rfl⟩⟩)
      · skip
        refine kw_bipush (v := (-101)) dX12_child_35 (by decide) ?_
        exact kw_iret dX12_child_37 rfl (Nat.le_of_ble_eq_true rfl) (Nat.le_of_ble_eq_true rfl) (hK _ _ _ ⟨rfl, by rw [if_neg (by rw [← eh, b2_0.mp c32]; decide)], by rw [if_neg (by rw [← eh, b2_0.mp c32]; decide)]; exact ⟨k, mEq.rf k, hM2, rfl⟩⟩)
    · skip
      have e15 : ¬ svOk s x = true := by rw [b2_0.mp c15]; decide
      refine kw_bipush (v := (-101)) dX12_child_18 (by decide) ?_
      exact kw_iret dX12_child_20 rfl (Nat.le_of_ble_eq_true rfl) (Nat.le_of_ble_eq_true rfl) (hK _ _ _ ⟨rfl, by rw [a_child, if_neg hd, if_neg e15], by rw [a_child, if_neg hd, if_neg e15]; exact ⟨k, mEq.rf k, hMI, rfl⟩⟩)
  · skip
    have hd := b2_n0.mp c4
    refine kw_bipush (v := (-106)) dX12_child_7 (by decide) ?_
    exact kw_iret dX12_child_9 rfl (Nat.le_of_ble_eq_true rfl) (Nat.le_of_ble_eq_true rfl) (hK _ _ _ ⟨rfl, by rw [a_child, if_pos hd], by rw [a_child, if_pos hd]; exact ⟨k, mEq.rf k, hMI, rfl⟩⟩)
set_option maxHeartbeats 4000000 in
set_option maxRecDepth 100000 in
theorem n_goes0 (l : Launch) (s : SG) (k : KG) (hc : cut_ s = 0) (b : Int32) : kw_F l yX12_goes cX12_goes 2 (Option.some Jvm.ClassFile.FieldType.boolean) { frames := 1, cells := 0, slots := 0, locals := 22 } [pr_ (40, 0), pi_ b] (hM s k) (some (pi_ 0)) (hM (s_lost s) k) := by
  refine kw_M_of RX12 "goes" [some (pr_ (40, 0)), some (pi_ b)] (by decide) rfl rfl rfl (Nat.le_of_ble_eq_true rfl) ?_
  intro D ad A
  refine kw_Kgen (fun K hK => ?_)
  refine kw_aload_n dX12_goes_0 rfl ?_
  refine kw_callVf (As := []) (n_write0 l s k hc) dX12_goes_1 cl_X12_191 rfl rfl rfl rfl (Nat.le_of_ble_eq_true rfl) ⟨(Nat.le_of_ble_eq_true rfl), (Nat.le_of_ble_eq_true rfl), (Nat.le_of_ble_eq_true rfl), (Nat.le_of_ble_eq_true rfl)⟩ ?_
  refine kw_if_ne (tgt := 9) dX12_goes_4 (by decide) (fun c4 => ?_) (fun c4 => ?_)
  · skip
    exact absurd rfl c4
  · skip
    refine kw_iconst (v := 0) dX12_goes_7 (by decide) ?_
    exact kw_zret dX12_goes_8 rfl (by decide) (Nat.le_of_ble_eq_true rfl) (Nat.le_of_ble_eq_true rfl) (hK _ _ _ ⟨rfl, rfl, rfl⟩)
set_option maxHeartbeats 4000000 in
set_option maxRecDepth 100000 in
theorem n_goes1 (l : Launch) (s : SG) (k : KG) (hc : ¬ cut_ s = 0) (hns : ns_ s ≤ 40) (hn : nh_ s < 240) (b : Nat) (hb : b < ns_ s) : kw_F l yX12_goes cX12_goes 2 (Option.some Jvm.ClassFile.FieldType.boolean) { frames := 1, cells := 0, slots := 0, locals := 22 } [pr_ (40, 0), pi_ (nI b)] (hM s k) (some (pi_ 1)) (hM (s_rmv s b) k) := by
  refine kw_M_of RX12 "goes" [some (pr_ (40, 0)), some (pi_ (nI b))] (by decide) rfl rfl rfl (Nat.le_of_ble_eq_true rfl) ?_
  intro D ad A
  refine kw_Kgen (fun K hK => ?_)
  refine kw_aload_n dX12_goes_0 rfl ?_
  refine kw_callVf (As := []) (n_write1 l s k hc) dX12_goes_1 cl_X12_191 rfl rfl rfl rfl (Nat.le_of_ble_eq_true rfl) ⟨(Nat.le_of_ble_eq_true rfl), (Nat.le_of_ble_eq_true rfl), (Nat.le_of_ble_eq_true rfl), (Nat.le_of_ble_eq_true rfl)⟩ ?_
  refine kw_if_ne (tgt := 9) dX12_goes_4 (by decide) (fun c4 => ?_) (fun c4 => ?_)
  · skip
    refine kw_aload_n dX12_goes_9 rfl ?_
    refine kw_get dX12_goes_10 fl_X12_55 rfl rfl ?_
    refine kw_iload_n dX12_goes_13 rfl ?_
    refine kw_iconst (v := 0) dX12_goes_14 (by decide) ?_
    refine kw_top (v' := pi_ (b2 false)) rfl ?_
    refine kw_zastN dX12_goes_15 rfl (by omega) (by decide) ?_
    refine kw_heq (uma_10 (s_w1 s) k b false) ?_
    refine kw_aload_n dX12_goes_16 rfl ?_
    refine kw_iconst (v := (nI 3)) dX12_goes_17 (by decide) ?_
    refine kw_iload_n dX12_goes_18 rfl ?_
    refine kw_callVf (As := [pi_ (nI 3), pi_ (nI b)]) (n_tell l (sGb (s_w1 s) 3 (va_up (kp_ (s_w1 s)) b false)) k (by show nh_ (s_w1 s) < 240; rw [nh_, s_w1_1]; exact hn) 3 b) dX12_goes_19 cl_X12_198 rfl rfl rfl rfl (Nat.le_of_ble_eq_true rfl) ⟨(Nat.le_of_ble_eq_true rfl), (Nat.le_of_ble_eq_true rfl), (Nat.le_of_ble_eq_true rfl), (Nat.le_of_ble_eq_true rfl)⟩ ?_
    refine kw_iconst (v := 1) dX12_goes_22 (by decide) ?_
    exact kw_zret dX12_goes_23 rfl (by decide) (Nat.le_of_ble_eq_true rfl) (Nat.le_of_ble_eq_true rfl) (hK _ _ _ ⟨rfl, rfl, congrArg (fun z => hM z k) (by unfold s_rmv; rw [show kp_ s = kp_ (s_w1 s) by rw [kp_, gs_, kp_, gs_, s_w1_2]]; rfl)⟩)
  · skip
    exact absurd c4 (by decide)
theorem MI_w1 {s : SG} {k : KG} (h : MI s k) : MI (s_w1 s) k := by unfold s_w1; split <;> exact h
theorem MI_lost {s : SG} {k : KG} (h : MI s k) : MI (s_lost s) k := h
theorem MI_rmv {s : SG} {k : KG} (h : MI s k) (b : Nat) : MI (s_rmv s b) k := MI_w1 h
set_option maxHeartbeats 4000000 in
set_option maxRecDepth 100000 in
theorem M_drop (l : Launch) (s : SG) (k : KG) (hMI : MI s k) (hns : ns_ s ≤ 40) (hnh : ∀ j, j < ns_ s → kp_ s j = true → nh_ s < 240) (x : Int32) : kw_P l yX12_drop cX12_drop 2 (Option.some Jvm.ClassFile.FieldType.int) { frames := 2, cells := 0, slots := 0, locals := 46 } [pr_ (40, 0), pi_ x] (hM s k) (fun r h' => r = some (pi_ (a_drop s x).1) ∧ mW (a_drop s x).2 k h') := by
  refine kw_M_of RX12 "drop" [some (pr_ (40, 0)), some (pi_ x)] (by decide) rfl rfl rfl (Nat.le_of_ble_eq_true rfl) ?_
  intro D ad A
  refine kw_Kgen (fun K hK => ?_)
  refine kw_aload_n dX12_drop_0 rfl ?_
  refine kw_get dX12_drop_1 fl_X12_127 rfl rfl ?_
  refine kw_if_eq (tgt := 10) dX12_drop_4 (by decide) (fun c4 => ?_) (fun c4 => ?_)
  · skip
    have hd : ¬ dn_ s = true := by rw [b2_0.mp c4]; decide
    refine kw_aload_n dX12_drop_10 rfl ?_
    refine kw_iload_n dX12_drop_11 rfl ?_
    refine kw_callVf (As := [pi_ x]) (n_isSnap l s k hns x) dX12_drop_12 cl_X12_225 rfl rfl rfl rfl (Nat.le_of_ble_eq_true rfl) ⟨(Nat.le_of_ble_eq_true rfl), (Nat.le_of_ble_eq_true rfl), (Nat.le_of_ble_eq_true rfl), (Nat.le_of_ble_eq_true rfl)⟩ ?_
    refine kw_if_ne (tgt := 21) dX12_drop_15 (by decide) (fun c15 => ?_) (fun c15 => ?_)
    · skip
      have e15 := b2_n0.mp c15
      obtain ⟨j, hj, e16⟩ := anyN_iff.mp e15
      rw [Bool.and_eq_true] at e16
      have ex := of_decide_eq_true e16.1
      subst ex
      have ecl : cl_ (nI j) = j := nI_clamp (by omega)
      rw [a_drop, if_neg hd, if_pos e15, ecl] at hK
      have hnh2 := hnh j hj e16.2
      by_cases hcut : cut_ s = 0
      · rw [if_pos hcut] at hK
        refine kw_aload_n dX12_drop_21 rfl ?_
        refine kw_iload_n dX12_drop_22 rfl ?_
        refine kw_callVf (As := [pi_ (nI j)]) (n_goes0 l s k hcut (nI j)) dX12_drop_23 cl_X12_228 rfl rfl rfl rfl (Nat.le_of_ble_eq_true rfl) ⟨(Nat.le_of_ble_eq_true rfl), (Nat.le_of_ble_eq_true rfl), (Nat.le_of_ble_eq_true rfl), (Nat.le_of_ble_eq_true rfl)⟩ ?_
        refine kw_if_eq (tgt := 33) dX12_drop_26 (by decide) (fun c26 => ?_) (fun c26 => ?_)
        · skip
          refine kw_bipush (v := (-105)) dX12_drop_33 (by decide) ?_
          exact kw_iret dX12_drop_35 rfl (Nat.le_of_ble_eq_true rfl) (Nat.le_of_ble_eq_true rfl) (hK _ _ _ ⟨rfl, rfl, k, mEq.rf k, MI_lost hMI, rfl⟩)
        · skip
          exact absurd rfl c26
      rw [if_neg hcut] at hK
      refine kw_aload_n dX12_drop_21 rfl ?_
      refine kw_iload_n dX12_drop_22 rfl ?_
      refine kw_callVf (As := [pi_ (nI j)]) (n_goes1 l s k hcut hns hnh2 j hj) dX12_drop_23 cl_X12_228 rfl rfl rfl rfl (Nat.le_of_ble_eq_true rfl) ⟨(Nat.le_of_ble_eq_true rfl), (Nat.le_of_ble_eq_true rfl), (Nat.le_of_ble_eq_true rfl), (Nat.le_of_ble_eq_true rfl)⟩ ?_
      refine kw_if_eq (tgt := 33) dX12_drop_26 (by decide) (fun c26 => ?_) (fun c26 => ?_)
      · skip
        exact absurd c26 (by decide)
      · skip
        refine kw_iconst (v := 1) dX12_drop_29 (by decide) ?_
        refine kw_goto (tgt := 35) dX12_drop_30 (by decide) ?_
        exact kw_iret dX12_drop_35 rfl (Nat.le_of_ble_eq_true rfl) (Nat.le_of_ble_eq_true rfl) (hK _ _ _ ⟨rfl, rfl, k, mEq.rf k, MI_rmv hMI j, rfl⟩)
    · skip
      refine kw_bipush (v := (-101)) dX12_drop_18 (by decide) ?_
      exact kw_iret dX12_drop_20 rfl (Nat.le_of_ble_eq_true rfl) (Nat.le_of_ble_eq_true rfl) (hK _ _ _ ⟨rfl, by rw [a_drop, if_neg hd, if_neg (by rw [b2_0.mp c15]; decide)], by rw [a_drop, if_neg hd, if_neg (by rw [b2_0.mp c15]; decide)]; exact ⟨k, mEq.rf k, hMI, rfl⟩⟩)
  · skip
    have hd := b2_n0.mp c4
    refine kw_bipush (v := (-106)) dX12_drop_7 (by decide) ?_
    exact kw_iret dX12_drop_9 rfl (Nat.le_of_ble_eq_true rfl) (Nat.le_of_ble_eq_true rfl) (hK _ _ _ ⟨rfl, by rw [a_drop, if_pos hd], by rw [a_drop, if_pos hd]; exact ⟨k, mEq.rf k, hMI, rfl⟩⟩)
theorem i32_5 {z : Int32} (h : 5 < z) : 6 ≤ z := by
  rw [Int32.lt_iff_toInt_lt] at h
  rw [Int32.le_iff_toInt_le]
  have e5 : (5 : Int32).toInt = 5 := by decide
  have e6 : (6 : Int32).toInt = 6 := by decide
  omega
theorem i32_6 {z : Int32} (h : 6 ≤ z) (g : z ≤ 5) : False := absurd (Int32.le_trans h g) (by decide)
set_option maxHeartbeats 4000000 in
set_option maxRecDepth 100000 in
theorem M_rule (l : Launch) (s : SG) (k : KG) (x n : Int32) : kw_F l yX12_rule cX12_rule 4 (Option.some Jvm.ClassFile.FieldType.int) { frames := 1, cells := 0, slots := 0, locals := 25 } [pr_ (40, 0), pi_ x, pi_ n] (hM s k) (some (pi_ (a_rule s x n).1)) (hM (a_rule s x n).2 k) := by
  refine kw_M_of RX12 "rule" [some (pr_ (40, 0)), some (pi_ x), some (pi_ n), none] (by decide) rfl rfl rfl (Nat.le_of_ble_eq_true rfl) ?_
  intro D ad A
  refine kw_Kgen (fun K hK => ?_)
  refine kw_aload_n dX12_rule_0 rfl ?_
  refine kw_get dX12_rule_1 fl_X12_127 rfl rfl ?_
  refine kw_if_eq (tgt := 10) dX12_rule_4 (by decide) (fun c4 => ?_) (fun c4 => ?_)
  · skip
    have hd : ¬ dn_ s = true := by rw [b2_0.mp c4]; decide
    refine kw_iload_n dX12_rule_10 rfl ?_
    refine kw_i2l dX12_rule_11 ?_
    refine kw_lconst (v := 0) dX12_rule_12 (by decide) ?_
    refine kw_top (v' := pl_ ((0 : Int32).toInt64)) (by decide) ?_
    refine kw_ldc2 dX12_rule_13 kt_1181 ?_
    refine kw_top (v' := pl_ ((5 : Int32).toInt64)) (by decide) ?_
    refine kw_callSf (As := [pl_ x.toInt64, pl_ (0 : Int32).toInt64, pl_ (5 : Int32).toInt64]) (n_inI l _ x 0 5) dX12_rule_16 cl_X12_144 rfl rfl (Nat.le_of_ble_eq_true rfl) ⟨(Nat.le_of_ble_eq_true rfl), (Nat.le_of_ble_eq_true rfl), (Nat.le_of_ble_eq_true rfl), (Nat.le_of_ble_eq_true rfl)⟩ ?_
    refine kw_if_eq (tgt := 45) dX12_rule_19 (by decide) (fun c19 => ?_) (fun c19 => ?_)
    · skip
      have e19 := inB_f (b2_0.mp c19)
      refine kw_bipush (v := (-102)) dX12_rule_45 (by decide) ?_
      exact kw_iret dX12_rule_47 rfl (Nat.le_of_ble_eq_true rfl) (Nat.le_of_ble_eq_true rfl) (hK _ _ _ ⟨rfl, by rw [a_rule, if_neg hd, if_pos (e19.elim Or.inl (fun z => Or.inr (Or.inl (i32_5 z))))], by rw [a_rule, if_neg hd, if_pos (e19.elim Or.inl (fun z => Or.inr (Or.inl (i32_5 z))))]⟩)
    · skip
      have e19 := inB_t (b2_n0.mp c19)
      refine kw_iload_n dX12_rule_22 rfl ?_
      refine kw_i2l dX12_rule_23 ?_
      refine kw_lconst (v := 0) dX12_rule_24 (by decide) ?_
      refine kw_top (v' := pl_ ((0 : Int32).toInt64)) (by decide) ?_
      refine kw_iload_n dX12_rule_25 rfl ?_
      refine kw_iconst (v := 5) dX12_rule_26 (by decide) ?_
      refine kw_icmp_ne (tgt := 36) dX12_rule_27 (by decide) (fun c27 => ?_) (fun c27 => ?_)
      · skip
        have eg : gr_ x = 100 := if_neg c27
        refine kw_ldc2 dX12_rule_36 kt_1183 ?_
        refine kw_top (v' := pl_ (gr_ x).toInt64) (by rw [eg]; decide) ?_
        refine kw_callSf (As := [pl_ n.toInt64, pl_ (0 : Int32).toInt64, pl_ (gr_ x).toInt64]) (n_inI l _ n 0 (gr_ x)) dX12_rule_39 cl_X12_144 rfl rfl (Nat.le_of_ble_eq_true rfl) ⟨(Nat.le_of_ble_eq_true rfl), (Nat.le_of_ble_eq_true rfl), (Nat.le_of_ble_eq_true rfl), (Nat.le_of_ble_eq_true rfl)⟩ ?_
        refine kw_if_ne (tgt := 48) dX12_rule_42 (by decide) (fun c42 => ?_) (fun c42 => ?_)
        · skip
          have e42 := inB_t (b2_n0.mp c42)
          rw [a_rule, if_neg hd, if_neg (fun q => q.elim (fun z => Int32.not_lt.mpr e19.1 z) (fun q => q.elim (fun z => i32_6 z e19.2) (fun q => q.elim (fun z => Int32.not_lt.mpr e42.1 z) (fun z => Int32.not_lt.mpr e42.2 z))))] at hK
          obtain ⟨i, hi, rfl⟩ := nI_of2 (M := 5) (n := 5) (by decide) (Int32.not_lt.mpr e19.1) e19.2
          obtain ⟨v, hv, rfl⟩ := nI_of (Int32.not_lt.mpr e42.1)
          rw [cl_, nI_clamp (by omega), cl_, nI_clamp hv] at hK
          refine kw_aload_n dX12_rule_48 rfl ?_
          refine kw_get dX12_rule_49 fl_X12_100 rfl rfl ?_
          refine kw_iload_n dX12_rule_52 rfl ?_
          refine kw_ialdN dX12_rule_53 rfl (by omega) (by decide) ?_
          refine kw_istore_n dX12_rule_54 (Nat.le_of_ble_eq_true rfl) ?_
          refine kw_aload_n dX12_rule_55 rfl ?_
          refine kw_get dX12_rule_56 fl_X12_100 rfl rfl ?_
          refine kw_iload_n dX12_rule_59 rfl ?_
          refine kw_iload_n dX12_rule_60 rfl ?_
          refine kw_iastN dX12_rule_61 rfl (by omega) (by decide) ?_
          refine kw_heq (uma_25 s k i v) ?_
          refine kw_iload_n dX12_rule_62 rfl ?_
          exact kw_iret dX12_rule_63 rfl (Nat.le_of_ble_eq_true rfl) (Nat.le_of_ble_eq_true rfl) (hK _ _ _ ⟨rfl, rfl, rfl⟩)
        · skip
          have e42 := inB_f (b2_0.mp c42)
          refine kw_bipush (v := (-102)) dX12_rule_45 (by decide) ?_
          exact kw_iret dX12_rule_47 rfl (Nat.le_of_ble_eq_true rfl) (Nat.le_of_ble_eq_true rfl) (hK _ _ _ ⟨rfl, by rw [a_rule, if_neg hd, if_pos (e42.elim (fun z => Or.inr (Or.inr (Or.inl z))) (fun z => Or.inr (Or.inr (Or.inr z))))], by rw [a_rule, if_neg hd, if_pos (e42.elim (fun z => Or.inr (Or.inr (Or.inl z))) (fun z => Or.inr (Or.inr (Or.inr z))))]⟩)
      · skip
        have eg : gr_ x = 15 := if_pos c27
        refine kw_ldc2 dX12_rule_30 kt_1182 ?_
        refine kw_goto (tgt := 39) dX12_rule_33 (by decide) ?_
        refine kw_top (v' := pl_ (gr_ x).toInt64) (by rw [eg]; decide) ?_
        refine kw_callSf (As := [pl_ n.toInt64, pl_ (0 : Int32).toInt64, pl_ (gr_ x).toInt64]) (n_inI l _ n 0 (gr_ x)) dX12_rule_39 cl_X12_144 rfl rfl (Nat.le_of_ble_eq_true rfl) ⟨(Nat.le_of_ble_eq_true rfl), (Nat.le_of_ble_eq_true rfl), (Nat.le_of_ble_eq_true rfl), (Nat.le_of_ble_eq_true rfl)⟩ ?_
        refine kw_if_ne (tgt := 48) dX12_rule_42 (by decide) (fun c42 => ?_) (fun c42 => ?_)
        · skip
          have e42 := inB_t (b2_n0.mp c42)
          rw [a_rule, if_neg hd, if_neg (fun q => q.elim (fun z => Int32.not_lt.mpr e19.1 z) (fun q => q.elim (fun z => i32_6 z e19.2) (fun q => q.elim (fun z => Int32.not_lt.mpr e42.1 z) (fun z => Int32.not_lt.mpr e42.2 z))))] at hK
          obtain ⟨i, hi, rfl⟩ := nI_of2 (M := 5) (n := 5) (by decide) (Int32.not_lt.mpr e19.1) e19.2
          obtain ⟨v, hv, rfl⟩ := nI_of (Int32.not_lt.mpr e42.1)
          rw [cl_, nI_clamp (by omega), cl_, nI_clamp hv] at hK
          refine kw_aload_n dX12_rule_48 rfl ?_
          refine kw_get dX12_rule_49 fl_X12_100 rfl rfl ?_
          refine kw_iload_n dX12_rule_52 rfl ?_
          refine kw_ialdN dX12_rule_53 rfl (by omega) (by decide) ?_
          refine kw_istore_n dX12_rule_54 (Nat.le_of_ble_eq_true rfl) ?_
          refine kw_aload_n dX12_rule_55 rfl ?_
          refine kw_get dX12_rule_56 fl_X12_100 rfl rfl ?_
          refine kw_iload_n dX12_rule_59 rfl ?_
          refine kw_iload_n dX12_rule_60 rfl ?_
          refine kw_iastN dX12_rule_61 rfl (by omega) (by decide) ?_
          refine kw_heq (uma_25 s k i v) ?_
          refine kw_iload_n dX12_rule_62 rfl ?_
          exact kw_iret dX12_rule_63 rfl (Nat.le_of_ble_eq_true rfl) (Nat.le_of_ble_eq_true rfl) (hK _ _ _ ⟨rfl, rfl, rfl⟩)
        · skip
          have e42 := inB_f (b2_0.mp c42)
          refine kw_bipush (v := (-102)) dX12_rule_45 (by decide) ?_
          exact kw_iret dX12_rule_47 rfl (Nat.le_of_ble_eq_true rfl) (Nat.le_of_ble_eq_true rfl) (hK _ _ _ ⟨rfl, by rw [a_rule, if_neg hd, if_pos (e42.elim (fun z => Or.inr (Or.inr (Or.inl z))) (fun z => Or.inr (Or.inr (Or.inr z))))], by rw [a_rule, if_neg hd, if_pos (e42.elim (fun z => Or.inr (Or.inr (Or.inl z))) (fun z => Or.inr (Or.inr (Or.inr z))))]⟩)
  · skip
    have hd := b2_n0.mp c4
    refine kw_bipush (v := (-106)) dX12_rule_7 (by decide) ?_
    exact kw_iret dX12_rule_9 rfl (Nat.le_of_ble_eq_true rfl) (Nat.le_of_ble_eq_true rfl) (hK _ _ _ ⟨rfl, by rw [a_rule, if_pos hd], by rw [a_rule, if_pos hd]⟩)
set_option maxHeartbeats 4000000 in
set_option maxRecDepth 100000 in
theorem M_share (l : Launch) (s : SG) (k : KG) (x : Int32) : kw_F l yX12_share cX12_share 3 (Option.some Jvm.ClassFile.FieldType.int) { frames := 1, cells := 0, slots := 0, locals := 25 } [pr_ (40, 0), pi_ x] (hM s k) (some (pi_ (a_share s x).1)) (hM (a_share s x).2 k) := by
  refine kw_M_of RX12 "share" [some (pr_ (40, 0)), some (pi_ x), none] (by decide) rfl rfl rfl (Nat.le_of_ble_eq_true rfl) ?_
  intro D ad A
  refine kw_Kgen (fun K hK => ?_)
  refine kw_aload_n dX12_share_0 rfl ?_
  refine kw_get dX12_share_1 fl_X12_127 rfl rfl ?_
  refine kw_if_eq (tgt := 10) dX12_share_4 (by decide) (fun c4 => ?_) (fun c4 => ?_)
  · skip
    have hd : ¬ dn_ s = true := by rw [b2_0.mp c4]; decide
    refine kw_iload_n dX12_share_10 rfl ?_
    refine kw_i2l dX12_share_11 ?_
    refine kw_lconst (v := 0) dX12_share_12 (by decide) ?_
    refine kw_top (v' := pl_ ((0 : Int32).toInt64)) (by decide) ?_
    refine kw_ldc2 dX12_share_13 kt_1183 ?_
    refine kw_top (v' := pl_ ((100 : Int32).toInt64)) (by decide) ?_
    refine kw_callSf (As := [pl_ x.toInt64, pl_ (0 : Int32).toInt64, pl_ (100 : Int32).toInt64]) (n_inI l _ x 0 100) dX12_share_16 cl_X12_144 rfl rfl (Nat.le_of_ble_eq_true rfl) ⟨(Nat.le_of_ble_eq_true rfl), (Nat.le_of_ble_eq_true rfl), (Nat.le_of_ble_eq_true rfl), (Nat.le_of_ble_eq_true rfl)⟩ ?_
    refine kw_if_ne (tgt := 25) dX12_share_19 (by decide) (fun c19 => ?_) (fun c19 => ?_)
    · skip
      have e21 := inB_t (b2_n0.mp c19)
      rw [a_share, if_neg hd, if_neg (fun q => q.elim (fun z => Int32.not_lt.mpr e21.1 z) (fun z => Int32.not_lt.mpr e21.2 z))] at hK
      obtain ⟨v, hv, rfl⟩ := nI_of (Int32.not_lt.mpr e21.1)
      rw [cl_, nI_clamp hv] at hK
      refine kw_aload_n dX12_share_25 rfl ?_
      refine kw_get dX12_share_26 fl_X12_52 rfl rfl ?_
      refine kw_istore_n dX12_share_29 (Nat.le_of_ble_eq_true rfl) ?_
      refine kw_aload_n dX12_share_30 rfl ?_
      refine kw_iload_n dX12_share_31 rfl ?_
      refine kw_put dX12_share_32 fl_X12_52 rfl (kw_ok_i _) (Nat.le_of_ble_eq_true rfl) ?_
      refine kw_heq (um_shr s k v) ?_
      refine kw_iload_n dX12_share_35 rfl ?_
      exact kw_iret dX12_share_36 rfl (Nat.le_of_ble_eq_true rfl) (Nat.le_of_ble_eq_true rfl) (hK _ _ _ ⟨rfl, rfl, rfl⟩)
    · skip
      refine kw_bipush (v := (-102)) dX12_share_22 (by decide) ?_
      exact kw_iret dX12_share_24 rfl (Nat.le_of_ble_eq_true rfl) (Nat.le_of_ble_eq_true rfl) (hK _ _ _ ⟨rfl, by rw [a_share, if_neg hd, if_pos (inB_f (b2_0.mp c19))], by rw [a_share, if_neg hd, if_pos (inB_f (b2_0.mp c19))]⟩)
  · skip
    have hd := b2_n0.mp c4
    refine kw_bipush (v := (-106)) dX12_share_7 (by decide) ?_
    exact kw_iret dX12_share_9 rfl (Nat.le_of_ble_eq_true rfl) (Nat.le_of_ble_eq_true rfl) (hK _ _ _ ⟨rfl, by rw [a_share, if_pos hd], by rw [a_share, if_pos hd]⟩)
set_option maxHeartbeats 4000000 in
set_option maxRecDepth 100000 in
theorem n_snThere (l : Launch) (s : SG) (k : KG) (hns : ns_ s ≤ 40) : kw_F l yX12_snapshotsThere cX12_snapshotsThere 3 (Option.some Jvm.ClassFile.FieldType.int) { frames := 0, cells := 0, slots := 0, locals := 0 } [pr_ (40, 0)] (hM s k) (some (pi_ (nI (cntN (fun j => kp_ s j) (ns_ s))))) (hM s k) := by
  refine kw_M_of RX12 "snapshotsThere" [some (pr_ (40, 0)), none, none] (by decide) rfl rfl rfl (Nat.le_of_ble_eq_true rfl) ?_
  intro D ad A
  refine kw_Kgen (fun K hK => ?_)
  have loop : ∀ (n_ : Nat) (j : Nat), ns_ s - j < n_ → j ≤ ns_ s → kw_G l D cX12_snapshotsThere RX12 (Option.some Jvm.ClassFile.FieldType.int) "snapshotsThere" { frames := 0, cells := 0, slots := 0, locals := 0 } A K ad (hM s k) 0 0 4 [some (pr_ (40, 0)), some (pi_ (nI (cntN (fun j => kp_ s j) j))), some (pi_ (nI j))] [] := by
    intro n_
    induction n_ with
    | zero =>
      intro j hm_
      exact absurd hm_ (Nat.not_lt_zero _)
    | succ n_ ih =>
      intro j hm_ hj
      refine kw_iload_n dX12_snapshotsThere_4 rfl ?_
      refine kw_aload_n dX12_snapshotsThere_5 rfl ?_
      refine kw_get dX12_snapshotsThere_6 fl_X12_218 rfl rfl ?_
      refine kw_icmp_ge (tgt := 35) dX12_snapshotsThere_9 (by decide) (fun c9 => ?_) (fun c9 => ?_)
      · skip
        have e : j = ns_ s := Nat.le_antisymm hj (nI_le' (a := ns_ s) (by omega) (by omega) c9)
        subst e
        refine kw_iload_n dX12_snapshotsThere_35 rfl ?_
        exact kw_iret dX12_snapshotsThere_36 rfl (Nat.le_of_ble_eq_true rfl) (Nat.le_of_ble_eq_true rfl) (hK _ _ _ ⟨rfl, rfl, rfl⟩)
      · skip
        have hlt : j < ns_ s := nI_nle' (a := ns_ s) (by omega) (by omega) c9
        refine kw_iload_n dX12_snapshotsThere_12 rfl ?_
        refine kw_aload_n dX12_snapshotsThere_13 rfl ?_
        refine kw_get dX12_snapshotsThere_14 fl_X12_55 rfl rfl ?_
        refine kw_iload_n dX12_snapshotsThere_17 rfl ?_
        refine kw_zaldN dX12_snapshotsThere_18 rfl (by omega) (by decide) ?_
        refine kw_if_eq (tgt := 26) dX12_snapshotsThere_19 (by decide) (fun c19 => ?_) (fun c19 => ?_)
        · skip
          refine kw_iconst (v := 0) dX12_snapshotsThere_26 (by decide) ?_
          refine kw_iadd dX12_snapshotsThere_27 ?_
          refine kw_top (v' := pi_ (nI (cntN (fun j => kp_ s j) (j + 1)))) (cnt_f (p := (fun j => kp_ s j)) (b2_0.mp c19)) ?_
          refine kw_istore_n dX12_snapshotsThere_28 (Nat.le_of_ble_eq_true rfl) ?_
          refine kw_iinc dX12_snapshotsThere_29 rfl (nI_i j) ?_
          refine kw_goto (tgt := 4) dX12_snapshotsThere_32 (by decide) ?_
          exact ih (j + 1) (by omega) (by omega)
        · skip
          refine kw_iconst (v := 1) dX12_snapshotsThere_22 (by decide) ?_
          refine kw_goto (tgt := 27) dX12_snapshotsThere_23 (by decide) ?_
          refine kw_iadd dX12_snapshotsThere_27 ?_
          refine kw_top (v' := pi_ (nI (cntN (fun j => kp_ s j) (j + 1)))) (cnt_t (p := (fun j => kp_ s j)) (b2_n0.mp c19)) ?_
          refine kw_istore_n dX12_snapshotsThere_28 (Nat.le_of_ble_eq_true rfl) ?_
          refine kw_iinc dX12_snapshotsThere_29 rfl (nI_i j) ?_
          refine kw_goto (tgt := 4) dX12_snapshotsThere_32 (by decide) ?_
          exact ih (j + 1) (by omega) (by omega)
  refine kw_iconst (v := 0) dX12_snapshotsThere_0 (by decide) ?_
  refine kw_istore_n dX12_snapshotsThere_1 (Nat.le_of_ble_eq_true rfl) ?_
  refine kw_iconst (v := 0) dX12_snapshotsThere_2 (by decide) ?_
  refine kw_istore_n dX12_snapshotsThere_3 (Nat.le_of_ble_eq_true rfl) ?_
  exact loop (ns_ s + 1) 0 (by omega) (by omega)
set_option maxHeartbeats 4000000 in
set_option maxRecDepth 100000 in
theorem n_savers (l : Launch) (s : SG) (k : KG)  : kw_F l yX12_savers cX12_savers 3 (Option.some Jvm.ClassFile.FieldType.int) { frames := 0, cells := 0, slots := 0, locals := 0 } [pr_ (40, 0)] (hM s k) (some (pi_ (nI (cntN (fun j => sv_ s j) (4))))) (hM s k) := by
  refine kw_M_of RX12 "savers" [some (pr_ (40, 0)), none, none] (by decide) rfl rfl rfl (Nat.le_of_ble_eq_true rfl) ?_
  intro D ad A
  refine kw_Kgen (fun K hK => ?_)
  have loop : ∀ (n_ : Nat) (j : Nat), 4 - j < n_ → j ≤ 4 → kw_G l D cX12_savers RX12 (Option.some Jvm.ClassFile.FieldType.int) "savers" { frames := 0, cells := 0, slots := 0, locals := 0 } A K ad (hM s k) 0 0 4 [some (pr_ (40, 0)), some (pi_ (nI (cntN (fun j => sv_ s j) j))), some (pi_ (nI j))] [] := by
    intro n_
    induction n_ with
    | zero =>
      intro j hm_
      exact absurd hm_ (Nat.not_lt_zero _)
    | succ n_ ih =>
      intro j hm_ hj
      refine kw_iload_n dX12_savers_4 rfl ?_
      refine kw_iconst (v := 4) dX12_savers_5 (by decide) ?_
      refine kw_icmp_ge (tgt := 32) dX12_savers_6 (by decide) (fun c6 => ?_) (fun c6 => ?_)
      · skip
        have e : j = 4 := Nat.le_antisymm hj (nI_le' (a := 4) (by omega) (by omega) c6)
        subst e
        refine kw_iload_n dX12_savers_32 rfl ?_
        exact kw_iret dX12_savers_33 rfl (Nat.le_of_ble_eq_true rfl) (Nat.le_of_ble_eq_true rfl) (hK _ _ _ ⟨rfl, rfl, rfl⟩)
      · skip
        have hlt : j < 4 := nI_nle' (a := 4) (by omega) (by omega) c6
        refine kw_iload_n dX12_savers_9 rfl ?_
        refine kw_aload_n dX12_savers_10 rfl ?_
        refine kw_get dX12_savers_11 fl_X12_79 rfl rfl ?_
        refine kw_iload_n dX12_savers_14 rfl ?_
        refine kw_zaldN dX12_savers_15 rfl (by omega) (by decide) ?_
        refine kw_if_eq (tgt := 23) dX12_savers_16 (by decide) (fun c16 => ?_) (fun c16 => ?_)
        · skip
          refine kw_iconst (v := 0) dX12_savers_23 (by decide) ?_
          refine kw_iadd dX12_savers_24 ?_
          refine kw_top (v' := pi_ (nI (cntN (fun j => sv_ s j) (j + 1)))) (cnt_f (p := (fun j => sv_ s j)) (b2_0.mp c16)) ?_
          refine kw_istore_n dX12_savers_25 (Nat.le_of_ble_eq_true rfl) ?_
          refine kw_iinc dX12_savers_26 rfl (nI_i j) ?_
          refine kw_goto (tgt := 4) dX12_savers_29 (by decide) ?_
          exact ih (j + 1) (by omega) (by omega)
        · skip
          refine kw_iconst (v := 1) dX12_savers_19 (by decide) ?_
          refine kw_goto (tgt := 24) dX12_savers_20 (by decide) ?_
          refine kw_iadd dX12_savers_24 ?_
          refine kw_top (v' := pi_ (nI (cntN (fun j => sv_ s j) (j + 1)))) (cnt_t (p := (fun j => sv_ s j)) (b2_n0.mp c16)) ?_
          refine kw_istore_n dX12_savers_25 (Nat.le_of_ble_eq_true rfl) ?_
          refine kw_iinc dX12_savers_26 rfl (nI_i j) ?_
          refine kw_goto (tgt := 4) dX12_savers_29 (by decide) ?_
          exact ih (j + 1) (by omega) (by omega)
  refine kw_iconst (v := 0) dX12_savers_0 (by decide) ?_
  refine kw_istore_n dX12_savers_1 (Nat.le_of_ble_eq_true rfl) ?_
  refine kw_iconst (v := 0) dX12_savers_2 (by decide) ?_
  refine kw_istore_n dX12_savers_3 (Nat.le_of_ble_eq_true rfl) ?_
  exact loop (4 + 1) 0 (by omega) (by omega)
