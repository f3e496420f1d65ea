/-! THE MODEL'S METHODS, 7: the sweep without packing -/
set_option maxHeartbeats 4000000 in
set_option maxRecDepth 100000 in
theorem n_push (l : Launch) (s : SG) (k : KG) (hr : rt_ s < 1400) (b : Nat) : kw_F l yX12_push cX12_push 2 (Option.none : Option Jvm.ClassFile.FieldType) { frames := 0, cells := 0, slots := 0, locals := 0 } [pr_ (40, 0), pi_ (nI b)] (hM s k) none (hM (s_line s b) k) := by
  refine kw_M_of RX12 "push" [some (pr_ (40, 0)), some (pi_ (nI b))] (by decide) rfl rfl rfl (Nat.le_of_ble_eq_true rfl) ?_
  intro D ad A
  refine kw_Kgen (fun K hK => ?_)
  refine kw_aload_n dX12_push_0 rfl ?_
  refine kw_get dX12_push_1 fl_X12_106 rfl rfl ?_
  refine kw_aload_n dX12_push_4 rfl ?_
  refine kw_get dX12_push_5 fl_X12_215 rfl rfl ?_
  refine kw_iload_n dX12_push_8 rfl ?_
  refine kw_iastN dX12_push_9 rfl hr (by decide) ?_
  refine kw_heq (uma_27 s k (rt_ s) b) ?_
  refine kw_aload_n dX12_push_10 rfl ?_
  refine kw_dup dX12_push_11 rfl ?_
  refine kw_get dX12_push_12 fl_X12_215 rfl rfl ?_
  refine kw_iconst (v := 1) dX12_push_15 (by decide) ?_
  refine kw_iadd dX12_push_16 ?_
  refine kw_top (v' := pi_ (nI (rt_ s + 1))) (by rw [← nI_1]) ?_
  refine kw_put dX12_push_17 fl_X12_215 rfl (kw_ok_i _) (Nat.le_of_ble_eq_true rfl) ?_
  refine kw_heq (um_rt _ k (rt_ s + 1)) ?_
  exact kw_vret dX12_push_20 rfl (Nat.le_of_ble_eq_true rfl) (Nat.le_of_ble_eq_true rfl) (hK _ _ _ ⟨rfl, rfl, rfl⟩)
set_option maxHeartbeats 4000000 in
set_option maxRecDepth 100000 in
theorem n_settle (l : Launch) (s : SG) (k : KG) (hph : ph_ s ≤ 4) (hrt : rt_ s ≤ 1400) (hrf : rf_ s ≤ rt_ s) : kw_F l yX12_settle cX12_settle 1 (Option.none : Option Jvm.ClassFile.FieldType) { frames := 0, cells := 0, slots := 0, locals := 0 } [pr_ (40, 0)] (hM s k) none (hM (settleF (s, k)).1 (settleF (s, k)).2) := by
  refine kw_M_of RX12 "settle" [some (pr_ (40, 0))] (by decide) rfl rfl rfl (Nat.le_of_ble_eq_true rfl) ?_
  intro D ad A
  refine kw_Kgen (fun K hK => ?_)
  obtain ⟨fin, hfin⟩ : ∃ fin, fin = settleF (s, k) := ⟨_, rfl⟩
  rw [← hfin] at hK
  unfold settleF at hfin
  have j96 : ∀ (t : SG) (q : KG), ph_ t ≤ 4 → fin = st4 (t, q) → kw_G l D cX12_settle RX12 (Option.none : Option Jvm.ClassFile.FieldType) "settle" { frames := 0, cells := 0, slots := 0, locals := 0 } A K ad (hM t q) 0 0 96 [some (pr_ (40, 0))] [] := by
    intro t q hph hf
    refine kw_aload_n dX12_settle_96 rfl ?_
    refine kw_get dX12_settle_97 fl_X12_131 rfl rfl ?_
    refine kw_iconst (v := 4) dX12_settle_100 (by decide) ?_
    refine kw_icmp_ne (tgt := 120) dX12_settle_101 (by decide) (fun c101 => ?_) (fun c101 => ?_)
    · skip
      rw [st4, if_neg (fun z => c101 (by rw [z.1]; rfl))] at hf
      exact kw_vret dX12_settle_120 rfl (Nat.le_of_ble_eq_true rfl) (Nat.le_of_ble_eq_true rfl) (hK _ _ _ ⟨rfl, rfl, by rw [hf]⟩)
    · skip
      have e4 := nI_eq' (a := ph_ t) (b := 4) (by omega) (by decide) c101
      refine kw_aload_n dX12_settle_104 rfl ?_
      refine kw_get dX12_settle_105 fl_X12_267 rfl rfl ?_
      refine kw_aload_n dX12_settle_108 rfl ?_
      refine kw_get dX12_settle_109 fl_X12_273 rfl rfl ?_
      refine kw_icmp_lt (tgt := 120) dX12_settle_112 (by decide) (fun c112 => ?_) (fun c112 => ?_)
      · skip
        rw [st4, if_neg (fun z => absurd z.2 (Int32.not_le.mpr c112))] at hf
        exact kw_vret dX12_settle_120 rfl (Nat.le_of_ble_eq_true rfl) (Nat.le_of_ble_eq_true rfl) (hK _ _ _ ⟨rfl, rfl, by rw [hf]⟩)
      · skip
        rw [st4, if_pos ⟨e4, Int32.not_lt.mp c112⟩] at hf
        refine kw_aload_n dX12_settle_115 rfl ?_
        refine kw_iconst (v := 0) dX12_settle_116 (by decide) ?_
        refine kw_put dX12_settle_117 fl_X12_131 rfl (kw_ok_i _) (Nat.le_of_ble_eq_true rfl) ?_
        refine kw_heq (um_ph t q 0) ?_
        exact kw_vret dX12_settle_120 rfl (Nat.le_of_ble_eq_true rfl) (Nat.le_of_ble_eq_true rfl) (hK _ _ _ ⟨rfl, rfl, by rw [hf]⟩)
  have j63 : ∀ (t : SG) (q : KG), ph_ t ≤ 4 → fin = st4 (st3 (t, q)) → kw_G l D cX12_settle RX12 (Option.none : Option Jvm.ClassFile.FieldType) "settle" { frames := 0, cells := 0, slots := 0, locals := 0 } A K ad (hM t q) 0 0 63 [some (pr_ (40, 0))] [] := by
    intro t q hph hf
    refine kw_aload_n dX12_settle_63 rfl ?_
    refine kw_get dX12_settle_64 fl_X12_131 rfl rfl ?_
    refine kw_iconst (v := 3) dX12_settle_67 (by decide) ?_
    refine kw_icmp_ne (tgt := 96) dX12_settle_68 (by decide) (fun c68 => ?_) (fun c68 => ?_)
    · skip
      rw [st3, if_neg (fun z => c68 (by rw [z.1]; rfl))] at hf
      exact j96 t q hph hf
    · skip
      have e3 := nI_eq' (a := ph_ t) (b := 3) (by omega) (by decide) c68
      refine kw_aload_n dX12_settle_71 rfl ?_
      refine kw_get dX12_settle_72 fl_X12_267 rfl rfl ?_
      refine kw_if_ge (tgt := 96) dX12_settle_75 (by decide) (fun c75 => ?_) (fun c75 => ?_)
      · skip
        rw [st3, if_neg (fun z => absurd z.2 (Int32.not_lt.mpr c75))] at hf
        exact j96 t q hph hf
      · skip
        rw [st3, if_pos ⟨e3, Int32.not_le.mp c75⟩] at hf
        refine kw_aload_n dX12_settle_78 rfl ?_
        refine kw_iconst (v := 4) dX12_settle_79 (by decide) ?_
        refine kw_put dX12_settle_80 fl_X12_131 rfl (kw_ok_i _) (Nat.le_of_ble_eq_true rfl) ?_
        refine kw_heq (um_ph t q 4) ?_
        refine kw_aload_n dX12_settle_83 rfl ?_
        refine kw_iconst (v := 0) dX12_settle_84 (by decide) ?_
        refine kw_put dX12_settle_85 fl_X12_267 rfl (kw_ok_i _) (Nat.le_of_ble_eq_true rfl) ?_
        refine kw_heq (um_nx _ q 0) ?_
        refine kw_aload_n dX12_settle_88 rfl ?_
        refine kw_aload_n dX12_settle_89 rfl ?_
        refine kw_get dX12_settle_90 fl_X12_178 rfl rfl ?_
        refine kw_put dX12_settle_93 fl_X12_273 rfl (kw_ok_i _) (Nat.le_of_ble_eq_true rfl) ?_
        refine kw_heq (um_pe _ _ _) ?_
        exact j96 (sN t 10 4) (kX (kX q 0 0) 1 (nI (np_ t))) (Nat.le_of_ble_eq_true rfl) hf
  have j29 : ∀ (t : SG) (q : KG), ph_ t ≤ 4 → fin = st4 (st3 (st2 (t, q))) → kw_G l D cX12_settle RX12 (Option.none : Option Jvm.ClassFile.FieldType) "settle" { frames := 0, cells := 0, slots := 0, locals := 0 } A K ad (hM t q) 0 0 29 [some (pr_ (40, 0))] [] := by
    intro t q hph hf
    refine kw_aload_n dX12_settle_29 rfl ?_
    refine kw_get dX12_settle_30 fl_X12_131 rfl rfl ?_
    refine kw_iconst (v := 2) dX12_settle_33 (by decide) ?_
    refine kw_icmp_ne (tgt := 63) dX12_settle_34 (by decide) (fun c34 => ?_) (fun c34 => ?_)
    · skip
      rw [st2, if_neg (fun z => c34 (by rw [z.1]; rfl))] at hf
      exact j63 t q hph hf
    · skip
      have e2 := nI_eq' (a := ph_ t) (b := 2) (by omega) (by decide) c34
      refine kw_aload_n dX12_settle_37 rfl ?_
      refine kw_get dX12_settle_38 fl_X12_267 rfl rfl ?_
      refine kw_aload_n dX12_settle_41 rfl ?_
      refine kw_get dX12_settle_42 fl_X12_270 rfl rfl ?_
      refine kw_icmp_lt (tgt := 63) dX12_settle_45 (by decide) (fun c45 => ?_) (fun c45 => ?_)
      · skip
        rw [st2, if_neg (fun z => absurd z.2 (Int32.not_le.mpr c45))] at hf
        exact j63 t q hph hf
      · skip
        rw [st2, if_pos ⟨e2, Int32.not_lt.mp c45⟩] at hf
        refine kw_aload_n dX12_settle_48 rfl ?_
        refine kw_iconst (v := 3) dX12_settle_49 (by decide) ?_
        refine kw_put dX12_settle_50 fl_X12_131 rfl (kw_ok_i _) (Nat.le_of_ble_eq_true rfl) ?_
        refine kw_heq (um_ph t q 3) ?_
        refine kw_aload_n dX12_settle_53 rfl ?_
        refine kw_aload_n dX12_settle_54 rfl ?_
        refine kw_get dX12_settle_55 fl_X12_270 rfl rfl ?_
        refine kw_iconst (v := 1) dX12_settle_58 (by decide) ?_
        refine kw_isub dX12_settle_59 ?_
        refine kw_put dX12_settle_60 fl_X12_267 rfl (kw_ok_i _) (Nat.le_of_ble_eq_true rfl) ?_
        refine kw_heq (um_nx _ q _) ?_
        exact j63 (sN t 10 3) (kX q 0 (nI (end_ t) - 1)) (Nat.le_of_ble_eq_true rfl) hf
  refine kw_aload_n dX12_settle_0 rfl ?_
  refine kw_get dX12_settle_1 fl_X12_131 rfl rfl ?_
  refine kw_iconst (v := 1) dX12_settle_4 (by decide) ?_
  refine kw_icmp_ne (tgt := 29) dX12_settle_5 (by decide) (fun c5 => ?_) (fun c5 => ?_)
  · skip
    rw [st1, if_neg (fun z => c5 (by rw [z.1]; rfl))] at hfin
    exact j29 s k hph hfin
  · skip
    have e1 := nI_eq' (a := ph_ s) (b := 1) (by omega) (by decide) c5
    refine kw_aload_n dX12_settle_8 rfl ?_
    refine kw_get dX12_settle_9 fl_X12_264 rfl rfl ?_
    refine kw_aload_n dX12_settle_12 rfl ?_
    refine kw_get dX12_settle_13 fl_X12_215 rfl rfl ?_
    refine kw_icmp_ne (tgt := 29) dX12_settle_16 (by decide) (fun c16 => ?_) (fun c16 => ?_)
    · skip
      have e16 : rf_ s ≠ rt_ s := nI_ne' (by omega) (by omega) c16
      rw [st1, if_neg (fun z => by have : rt_ s ≤ rf_ s := z.2; omega)] at hfin
      exact j29 s k hph hfin
    · skip
      have e16 : rt_ s ≤ rf_ s := Nat.le_of_eq (nI_eq' (a := rf_ s) (b := rt_ s) (by omega) (by omega) c16).symm
      rw [st1, if_pos ⟨e1, e16⟩] at hfin
      refine kw_aload_n dX12_settle_19 rfl ?_
      refine kw_iconst (v := 2) dX12_settle_20 (by decide) ?_
      refine kw_put dX12_settle_21 fl_X12_131 rfl (kw_ok_i _) (Nat.le_of_ble_eq_true rfl) ?_
      refine kw_heq (um_ph s k 2) ?_
      refine kw_aload_n dX12_settle_24 rfl ?_
      refine kw_iconst (v := 0) dX12_settle_25 (by decide) ?_
      refine kw_put dX12_settle_26 fl_X12_267 rfl (kw_ok_i _) (Nat.le_of_ble_eq_true rfl) ?_
      refine kw_heq (um_nx _ k 0) ?_
      exact j29 (sN s 10 2) (kX k 0 0) (Nat.le_of_ble_eq_true rfl) hfin
set_option maxHeartbeats 4000000 in
set_option maxRecDepth 100000 in
theorem n_mark (l : Launch) (s : SG) (k : KG) (hMI : MI s k) (hb : nb_ s ≤ 80) (hkd : kidsOk s) (hrf : rf_ s < 1400) (hb0 : rw_ s (rf_ s) < nb_ s) (hr : rt_ s + 4 ≤ 1400) : kw_F l yX12_mark cX12_mark 3 (Option.none : Option Jvm.ClassFile.FieldType) { frames := 1, cells := 0, slots := 0, locals := 21 } [pr_ (40, 0)] (hM s k) none (hM (s_mark1 s) k) := by
  refine kw_M_of RX12 "mark" [some (pr_ (40, 0)), none, none] (by decide) rfl rfl rfl (Nat.le_of_ble_eq_true rfl) ?_
  intro D ad A
  refine kw_Kgen (fun K hK => ?_)
  obtain ⟨b, hbe⟩ : ∃ b, b = rw_ s (rf_ s) := ⟨_, rfl⟩
  rw [← hbe] at hb0
  have hc4 := (hkd b hb0).1
  unfold s_mark1 at hK
  rw [← hbe] at hK
  have loop : ∀ (n_ : Nat) (i : Nat), cm_ s b - i < n_ → i ≤ cm_ s b → mk_ s b = false → kw_G l D cX12_mark RX12 (Option.none : Option Jvm.ClassFile.FieldType) "mark" { frames := 1, cells := 0, slots := 0, locals := 21 } A K ad (hM (s_lines (s_mark0 s b) (ch_ s b) i) k) 0 0 38 [some (pr_ (40, 0)), some (pi_ (nI b)), some (pi_ (nI i))] [] := by
    intro n_
    induction n_ with
    | zero =>
      intro i hm_
      exact absurd hm_ (Nat.not_lt_zero _)
    | succ n_ ih =>
      intro i hm_ hi hm
      refine kw_iload_n dX12_mark_38 rfl ?_
      refine kw_aload_n dX12_mark_39 rfl ?_
      refine kw_get dX12_mark_40 fl_X12_27 rfl rfl ?_
      refine kw_iload_n dX12_mark_43 rfl ?_
      refine kw_ialdN dX12_mark_44 rfl (by omega) (by decide) ?_
      refine kw_top (v' := pi_ (nI (cm_ s b))) (by rw [show cm_ (s_lines (s_mark0 s b) (ch_ s b) i) = cm_ s from s_lines_f (s_mark0 s b) (ch_ s b) 1 (by decide) i]) ?_
      refine kw_icmp_ge (tgt := 68) dX12_mark_45 (by decide) (fun c45 => ?_) (fun c45 => ?_)
      · skip
        have e : i = cm_ s b := Nat.le_antisymm hi (nI_le' (by omega) (by omega) c45)
        subst e
        exact kw_vret dX12_mark_68 rfl (Nat.le_of_ble_eq_true rfl) (Nat.le_of_ble_eq_true rfl) (hK _ _ _ ⟨rfl, rfl, by rw [if_neg (by rw [hm]; decide)]⟩)
      · skip
        have hlt : i < cm_ s b := nI_nle' (by omega) (by omega) c45
        refine kw_aload_n dX12_mark_48 rfl ?_
        refine kw_aload_n dX12_mark_49 rfl ?_
        refine kw_get dX12_mark_50 fl_X12_30 rfl rfl ?_
        refine kw_iconst (v := (nI 4)) dX12_mark_53 (by decide) ?_
        refine kw_iload_n dX12_mark_54 rfl ?_
        refine kw_imul dX12_mark_55 ?_
        refine kw_top (v' := pi_ (nI (4 * b))) (by rw [nI_mul]) ?_
        refine kw_iload_n dX12_mark_56 rfl ?_
        refine kw_iadd dX12_mark_57 ?_
        refine kw_top (v' := pi_ (nI (4 * b + i))) (by rw [nI_add]) ?_
        refine kw_ialdN dX12_mark_58 rfl (by omega) (by decide) ?_
        refine kw_top (v' := pi_ (nI (ch_ s b i))) (by rw [← hMI.1 b hb0 i hlt]) ?_
        refine kw_callVf (As := [pi_ (nI (ch_ s b i))]) (n_push l (s_lines (s_mark0 s b) (ch_ s b) i) k (by rw [s_lines_rt]; show rt_ s + i < 1400; omega) (ch_ s b i)) dX12_mark_59 cl_X12_279 rfl rfl rfl rfl (Nat.le_of_ble_eq_true rfl) ⟨(Nat.le_of_ble_eq_true rfl), (Nat.le_of_ble_eq_true rfl), (Nat.le_of_ble_eq_true rfl), (Nat.le_of_ble_eq_true rfl)⟩ ?_
        refine kw_iinc dX12_mark_62 rfl (nI_i i) ?_
        refine kw_goto (tgt := 38) dX12_mark_65 (by decide) ?_
        exact ih (i + 1) (by omega) (by omega) hm
  refine kw_aload_n dX12_mark_0 rfl ?_
  refine kw_get dX12_mark_1 fl_X12_106 rfl rfl ?_
  refine kw_aload_n dX12_mark_4 rfl ?_
  refine kw_get dX12_mark_5 fl_X12_264 rfl rfl ?_
  refine kw_ialdN dX12_mark_8 rfl hrf (by decide) ?_
  refine kw_top (v' := pi_ (nI b)) (by rw [hbe]) ?_
  refine kw_istore_n dX12_mark_9 (Nat.le_of_ble_eq_true rfl) ?_
  refine kw_aload_n dX12_mark_10 rfl ?_
  refine kw_dup dX12_mark_11 rfl ?_
  refine kw_get dX12_mark_12 fl_X12_264 rfl rfl ?_
  refine kw_iconst (v := 1) dX12_mark_15 (by decide) ?_
  refine kw_iadd dX12_mark_16 ?_
  refine kw_top (v' := pi_ (nI (rf_ s + 1))) (by rw [← nI_1]) ?_
  refine kw_put dX12_mark_17 fl_X12_264 rfl (kw_ok_i _) (Nat.le_of_ble_eq_true rfl) ?_
  refine kw_heq (um_rf s k (rf_ s + 1)) ?_
  refine kw_aload_n dX12_mark_20 rfl ?_
  refine kw_get dX12_mark_21 fl_X12_103 rfl rfl ?_
  refine kw_iload_n dX12_mark_24 rfl ?_
  refine kw_zaldN dX12_mark_25 rfl (by omega) (by decide) ?_
  refine kw_if_ne (tgt := 68) dX12_mark_26 (by decide) (fun c26 => ?_) (fun c26 => ?_)
  · skip
    have e26 : mk_ s b = true := b2_n0.mp c26
    exact kw_vret dX12_mark_68 rfl (Nat.le_of_ble_eq_true rfl) (Nat.le_of_ble_eq_true rfl) (hK _ _ _ ⟨rfl, rfl, by rw [if_pos e26]⟩)
  · skip
    have e26 : mk_ s b = false := b2_0.mp c26
    refine kw_aload_n dX12_mark_29 rfl ?_
    refine kw_get dX12_mark_30 fl_X12_103 rfl rfl ?_
    refine kw_iload_n dX12_mark_33 rfl ?_
    refine kw_iconst (v := 1) dX12_mark_34 (by decide) ?_
    refine kw_top (v' := pi_ (b2 true)) rfl ?_
    refine kw_zastN dX12_mark_35 rfl (by omega) (by decide) ?_
    refine kw_heq (uma_26 (sN s 11 (rf_ s + 1)) k b true) ?_
    refine kw_iconst (v := 0) dX12_mark_36 (by decide) ?_
    refine kw_istore_n dX12_mark_37 (Nat.le_of_ble_eq_true rfl) ?_
    exact loop (cm_ s b + 1) 0 (by omega) (by omega) e26
/-- as clearF and chooseF, and the power lost at once -/
def clearM (s : SG) (b : Nat) : Bool × SG := if mk_ s b = true ∧ wt_ s b ≠ 0 then (if cut_ s = 0 then (false, s_lost s) else (true, s_await s b 0)) else (true, s)
def chooseM (s : SG) (b : Nat) : Bool × SG := if th_ s b = true ∧ mk_ s b = false then (if cut_ s = 0 then (false, s_lost s) else if 0 < wt_ s b then (true, s_free s b) else (true, s_await s b (nsw_ s))) else (true, s)
theorem w1_X (s : SG) : ∃ X, s_w1 s = (s.1, X, s.2.2) := by
  unfold s_w1
  split <;> exact ⟨_, rfl⟩
theorem free_eq (s : SG) (b : Nat) : s_ev (sN (sGb (sF (s_w1 s) 5 (va_up (wt_ (s_w1 s)) b 0)) 0 (va_up (th_ (s_w1 s)) b false)) 2 (nfr_ (s_w1 s) + 1)) 1 b = s_free s b := by
  unfold s_free s_free1 s_ev
  obtain ⟨X, e⟩ := w1_X s
  rw [e]
  refine sg_ext ?_ rfl rfl rfl ?_ rfl rfl rfl
  · funext i
    dsimp only [fs_, sF, sGb, sY, sN, sFF, va_up]
    repeat' split
    all_goals first | rfl | omega
  · funext i
    dsimp only [fs_, sF, sGb, sY, sN, sFF, va_up]
    repeat' split
    all_goals first | rfl | omega
set_option maxHeartbeats 4000000 in
set_option maxRecDepth 100000 in
theorem n_clear (l : Launch) (s : SG) (k : KG) (hb : nb_ s ≤ 80) (b : Nat) (hbb : b < nb_ s) (hnx : nx_ k = nI b) (hw : wt_ s b < 2 ^ 31) : kw_F l yX12_clear cX12_clear 2 (Option.some Jvm.ClassFile.FieldType.boolean) { frames := 1, cells := 0, slots := 0, locals := 21 } [pr_ (40, 0)] (hM s k) (some (pi_ (b2 (clearM s b).1))) (hM (clearM s b).2 (kX k 0 (nI (b + 1)))) := by
  refine kw_M_of RX12 "clear" [some (pr_ (40, 0)), none] (by decide) rfl rfl rfl (Nat.le_of_ble_eq_true rfl) ?_
  intro D ad A
  refine kw_Kgen (fun K hK => ?_)
  unfold clearM at hK
  refine kw_aload_n dX12_clear_0 rfl ?_
  refine kw_get dX12_clear_1 fl_X12_267 rfl rfl ?_
  refine kw_top (v' := pi_ (nI b)) (by rw [← hnx]) ?_
  refine kw_istore_n dX12_clear_4 (Nat.le_of_ble_eq_true rfl) ?_
  refine kw_aload_n dX12_clear_5 rfl ?_
  refine kw_dup dX12_clear_6 rfl ?_
  refine kw_get dX12_clear_7 fl_X12_267 rfl rfl ?_
  refine kw_iconst (v := 1) dX12_clear_10 (by decide) ?_
  refine kw_iadd dX12_clear_11 ?_
  refine kw_top (v' := pi_ (nI (b + 1))) (by rw [← nI_1, ← hnx]) ?_
  refine kw_put dX12_clear_12 fl_X12_267 rfl (kw_ok_i _) (Nat.le_of_ble_eq_true rfl) ?_
  refine kw_heq (um_nx s k (nI (b + 1))) ?_
  refine kw_aload_n dX12_clear_15 rfl ?_
  refine kw_get dX12_clear_16 fl_X12_103 rfl rfl ?_
  refine kw_iload_n dX12_clear_19 rfl ?_
  refine kw_zaldN dX12_clear_20 rfl (by omega) (by decide) ?_
  refine kw_if_eq (tgt := 33) dX12_clear_21 (by decide) (fun c21 => ?_) (fun c21 => ?_)
  · skip
    have e21 := b2_0.mp c21
    refine kw_iconst (v := 1) dX12_clear_33 (by decide) ?_
    exact kw_zret dX12_clear_34 rfl (by decide) (Nat.le_of_ble_eq_true rfl) (Nat.le_of_ble_eq_true rfl) (hK _ _ _ ⟨rfl, by rw [if_neg (fun q => by rw [e21] at q; cases q.1)]; rfl, by rw [if_neg (fun q => by rw [e21] at q; cases q.1)]⟩)
  · skip
    have e21 := b2_n0.mp c21
    refine kw_aload_n dX12_clear_24 rfl ?_
    refine kw_get dX12_clear_25 fl_X12_43 rfl rfl ?_
    refine kw_iload_n dX12_clear_28 rfl ?_
    refine kw_ialdN dX12_clear_29 rfl (by omega) (by decide) ?_
    refine kw_if_ne (tgt := 35) dX12_clear_30 (by decide) (fun c30 => ?_) (fun c30 => ?_)
    · skip
      have e30 : wt_ s b ≠ 0 := fun q => c30 (by rw [q]; rfl)
      rw [if_pos ⟨e21, e30⟩] at hK
      by_cases hcut : cut_ s = 0
      · rw [if_pos hcut] at hK
        refine kw_aload_n dX12_clear_35 rfl ?_
        refine kw_callVf (As := []) (n_write0 l s (kX k 0 (nI (b + 1))) hcut) dX12_clear_36 cl_X12_191 rfl rfl rfl rfl (Nat.le_of_ble_eq_true rfl) ⟨(Nat.le_of_ble_eq_true rfl), (Nat.le_of_ble_eq_true rfl), (Nat.le_of_ble_eq_true rfl), (Nat.le_of_ble_eq_true rfl)⟩ ?_
        refine kw_if_ne (tgt := 44) dX12_clear_39 (by decide) (fun c39 => ?_) (fun c39 => ?_)
        · skip
          exact absurd rfl c39
        · skip
          refine kw_iconst (v := 0) dX12_clear_42 (by decide) ?_
          exact kw_zret dX12_clear_43 rfl (by decide) (Nat.le_of_ble_eq_true rfl) (Nat.le_of_ble_eq_true rfl) (hK _ _ _ ⟨rfl, rfl, rfl⟩)
      rw [if_neg hcut] at hK
      refine kw_aload_n dX12_clear_35 rfl ?_
      refine kw_callVf (As := []) (n_write1 l s (kX k 0 (nI (b + 1))) hcut) dX12_clear_36 cl_X12_191 rfl rfl rfl rfl (Nat.le_of_ble_eq_true rfl) ⟨(Nat.le_of_ble_eq_true rfl), (Nat.le_of_ble_eq_true rfl), (Nat.le_of_ble_eq_true rfl), (Nat.le_of_ble_eq_true rfl)⟩ ?_
      refine kw_if_ne (tgt := 44) dX12_clear_39 (by decide) (fun c39 => ?_) (fun c39 => ?_)
      · skip
        refine kw_aload_n dX12_clear_44 rfl ?_
        refine kw_get dX12_clear_45 fl_X12_43 rfl rfl ?_
        refine kw_iload_n dX12_clear_48 rfl ?_
        refine kw_iconst (v := 0) dX12_clear_49 (by decide) ?_
        refine kw_top (v' := pi_ (nI 0)) rfl ?_
        refine kw_iastN dX12_clear_50 rfl (by omega) (by decide) ?_
        refine kw_heq (uma_7 (s_w1 s) _ b 0) ?_
        refine kw_iconst (v := 1) dX12_clear_51 (by decide) ?_
        exact kw_zret dX12_clear_52 rfl (by decide) (Nat.le_of_ble_eq_true rfl) (Nat.le_of_ble_eq_true rfl) (hK _ _ _ ⟨rfl, rfl, congrArg (fun z => hM z _) (by unfold s_await; rw [show wt_ s = wt_ (s_w1 s) by rw [wt_, fs_, wt_, fs_, s_w1_2]])⟩)
      · skip
        exact absurd c39 (by decide)
    · skip
      have e30 : wt_ s b = 0 := nI_eq' (b := 0) hw (by decide) c30
      refine kw_iconst (v := 1) dX12_clear_33 (by decide) ?_
      exact kw_zret dX12_clear_34 rfl (by decide) (Nat.le_of_ble_eq_true rfl) (Nat.le_of_ble_eq_true rfl) (hK _ _ _ ⟨rfl, by rw [if_neg (fun q => q.2 e30)]; rfl, by rw [if_neg (fun q => q.2 e30)]⟩)
set_option maxHeartbeats 4000000 in
set_option maxRecDepth 100000 in
theorem n_choose (l : Launch) (s : SG) (k : KG) (hb : nb_ s ≤ 80) (b : Nat) (hbb : b < nb_ s) (hnx : nx_ k = nI b) (hw : wt_ s b < 2 ^ 31) (hn : th_ s b = true → nh_ s < 240) : kw_F l yX12_choose cX12_choose 3 (Option.some Jvm.ClassFile.FieldType.boolean) { frames := 1, cells := 0, slots := 0, locals := 22 } [pr_ (40, 0)] (hM s k) (some (pi_ (b2 (chooseM s b).1))) (hM (chooseM s b).2 (kX k 0 (nI b - 1))) := by
  refine kw_M_of RX12 "choose" [some (pr_ (40, 0)), none, none] (by decide) rfl rfl rfl (Nat.le_of_ble_eq_true rfl) ?_
  intro D ad A
  refine kw_Kgen (fun K hK => ?_)
  unfold chooseM at hK
  refine kw_aload_n dX12_choose_0 rfl ?_
  refine kw_get dX12_choose_1 fl_X12_267 rfl rfl ?_
  refine kw_top (v' := pi_ (nI b)) (by rw [← hnx]) ?_
  refine kw_istore_n dX12_choose_4 (Nat.le_of_ble_eq_true rfl) ?_
  refine kw_aload_n dX12_choose_5 rfl ?_
  refine kw_dup dX12_choose_6 rfl ?_
  refine kw_get dX12_choose_7 fl_X12_267 rfl rfl ?_
  refine kw_iconst (v := 1) dX12_choose_10 (by decide) ?_
  refine kw_isub dX12_choose_11 ?_
  refine kw_top (v' := pi_ (nI b - 1)) (by rw [← hnx]) ?_
  refine kw_put dX12_choose_12 fl_X12_267 rfl (kw_ok_i _) (Nat.le_of_ble_eq_true rfl) ?_
  refine kw_heq (um_nx s k (nI b - 1)) ?_
  refine kw_aload_n dX12_choose_15 rfl ?_
  refine kw_get dX12_choose_16 fl_X12_33 rfl rfl ?_
  refine kw_iload_n dX12_choose_19 rfl ?_
  refine kw_zaldN dX12_choose_20 rfl (by omega) (by decide) ?_
  refine kw_if_eq (tgt := 33) dX12_choose_21 (by decide) (fun c21 => ?_) (fun c21 => ?_)
  · skip
    have e21 := b2_0.mp c21
    refine kw_iconst (v := 1) dX12_choose_33 (by decide) ?_
    exact kw_zret dX12_choose_34 rfl (by decide) (Nat.le_of_ble_eq_true rfl) (Nat.le_of_ble_eq_true rfl) (hK _ _ _ ⟨rfl, by rw [if_neg (fun q => by rw [e21] at q; cases q.1)]; rfl, by rw [if_neg (fun q => by rw [e21] at q; cases q.1)]⟩)
  · skip
    have e21 := b2_n0.mp c21
    refine kw_aload_n dX12_choose_24 rfl ?_
    refine kw_get dX12_choose_25 fl_X12_103 rfl rfl ?_
    refine kw_iload_n dX12_choose_28 rfl ?_
    refine kw_zaldN dX12_choose_29 rfl (by omega) (by decide) ?_
    refine kw_if_eq (tgt := 35) dX12_choose_30 (by decide) (fun c30 => ?_) (fun c30 => ?_)
    · skip
      have e30 : mk_ s b = false := b2_0.mp c30
      rw [if_pos ⟨e21, e30⟩] at hK
      have hnh := hn e21
      by_cases hcut : cut_ s = 0
      · rw [if_pos hcut] at hK
        refine kw_aload_n dX12_choose_35 rfl ?_
        refine kw_callVf (As := []) (n_write0 l s (kX k 0 (nI b - 1)) hcut) dX12_choose_36 cl_X12_191 rfl rfl rfl rfl (Nat.le_of_ble_eq_true rfl) ⟨(Nat.le_of_ble_eq_true rfl), (Nat.le_of_ble_eq_true rfl), (Nat.le_of_ble_eq_true rfl), (Nat.le_of_ble_eq_true rfl)⟩ ?_
        refine kw_if_ne (tgt := 44) dX12_choose_39 (by decide) (fun c39 => ?_) (fun c39 => ?_)
        · skip
          exact absurd rfl c39
        · skip
          refine kw_iconst (v := 0) dX12_choose_42 (by decide) ?_
          exact kw_zret dX12_choose_43 rfl (by decide) (Nat.le_of_ble_eq_true rfl) (Nat.le_of_ble_eq_true rfl) (hK _ _ _ ⟨rfl, rfl, rfl⟩)
      rw [if_neg hcut] at hK
      have ewt : wt_ (s_w1 s) = wt_ s := by rw [wt_, fs_, s_w1_2]
      have enb : nb_ (s_w1 s) = nb_ s := by rw [nb_, s_w1_1]
      have ensw : nsw_ (s_w1 s) = nsw_ s := by rw [nsw_, s_w1_1]
      have enhh : nh_ (s_w1 s) = nh_ s := by rw [nh_, s_w1_1]
      refine kw_aload_n dX12_choose_35 rfl ?_
      refine kw_callVf (As := []) (n_write1 l s (kX k 0 (nI b - 1)) hcut) dX12_choose_36 cl_X12_191 rfl rfl rfl rfl (Nat.le_of_ble_eq_true rfl) ⟨(Nat.le_of_ble_eq_true rfl), (Nat.le_of_ble_eq_true rfl), (Nat.le_of_ble_eq_true rfl), (Nat.le_of_ble_eq_true rfl)⟩ ?_
      refine kw_if_ne (tgt := 44) dX12_choose_39 (by decide) (fun c39 => ?_) (fun c39 => ?_)
      · skip
        refine kw_aload_n dX12_choose_44 rfl ?_
        refine kw_get dX12_choose_45 fl_X12_43 rfl rfl ?_
        refine kw_iload_n dX12_choose_48 rfl ?_
        refine kw_ialdN dX12_choose_49 rfl (by omega) (by decide) ?_
        refine kw_top (v' := pi_ (nI (wt_ s b))) (by rw [ewt]) ?_
        refine kw_if_le (tgt := 57) dX12_choose_50 (by decide) (fun c50 => ?_) (fun c50 => ?_)
        · skip
          have e50 : ¬ 0 < wt_ s b := fun q => nI_nle q hw c50
          rw [if_neg e50] at hK
          refine kw_iconst (v := 0) dX12_choose_57 (by decide) ?_
          refine kw_istore_n dX12_choose_58 (Nat.le_of_ble_eq_true rfl) ?_
          refine kw_aload_n dX12_choose_59 rfl ?_
          refine kw_get dX12_choose_60 fl_X12_43 rfl rfl ?_
          refine kw_iload_n dX12_choose_63 rfl ?_
          refine kw_iload_n dX12_choose_64 rfl ?_
          refine kw_if_eq (tgt := 72) dX12_choose_65 (by decide) (fun c65 => ?_) (fun c65 => ?_)
          · skip
            refine kw_aload_n dX12_choose_72 rfl ?_
            refine kw_get dX12_choose_73 fl_X12_276 rfl rfl ?_
            refine kw_top (v' := pi_ (nI (nsw_ s))) (by rw [ensw]) ?_
            refine kw_iastN dX12_choose_76 rfl (by omega) (by decide) ?_
            refine kw_heq (uma_7 (s_w1 s) _ b (nsw_ s)) ?_
            refine kw_iload_n dX12_choose_77 rfl ?_
            refine kw_if_eq (tgt := 104) dX12_choose_78 (by decide) (fun c78 => ?_) (fun c78 => ?_)
            · skip
              refine kw_iconst (v := 1) dX12_choose_104 (by decide) ?_
              exact kw_zret dX12_choose_105 rfl (by decide) (Nat.le_of_ble_eq_true rfl) (Nat.le_of_ble_eq_true rfl) (hK _ _ _ ⟨rfl, rfl, congrArg (fun z => hM z _) (by unfold s_await; rw [ewt])⟩)
            · skip
              exact absurd rfl c78
          · skip
            exact absurd rfl c65
        · skip
          have e50 : 0 < wt_ s b := Nat.pos_of_ne_zero (fun q => c50 (by rw [q]; decide))
          rw [if_pos e50] at hK
          refine kw_iconst (v := 1) dX12_choose_53 (by decide) ?_
          refine kw_goto (tgt := 58) dX12_choose_54 (by decide) ?_
          refine kw_istore_n dX12_choose_58 (Nat.le_of_ble_eq_true rfl) ?_
          refine kw_aload_n dX12_choose_59 rfl ?_
          refine kw_get dX12_choose_60 fl_X12_43 rfl rfl ?_
          refine kw_iload_n dX12_choose_63 rfl ?_
          refine kw_iload_n dX12_choose_64 rfl ?_
          refine kw_if_eq (tgt := 72) dX12_choose_65 (by decide) (fun c65 => ?_) (fun c65 => ?_)
          · skip
            exact absurd c65 (by decide)
          · skip
            refine kw_iconst (v := 0) dX12_choose_68 (by decide) ?_
            refine kw_top (v' := pi_ (nI 0)) rfl ?_
            refine kw_goto (tgt := 76) dX12_choose_69 (by decide) ?_
            refine kw_iastN dX12_choose_76 rfl (by omega) (by decide) ?_
            refine kw_heq (uma_7 (s_w1 s) _ b 0) ?_
            refine kw_iload_n dX12_choose_77 rfl ?_
            refine kw_if_eq (tgt := 104) dX12_choose_78 (by decide) (fun c78 => ?_) (fun c78 => ?_)
            · skip
              exact absurd c78 (by decide)
            · skip
              refine kw_aload_n dX12_choose_81 rfl ?_
              refine kw_get dX12_choose_82 fl_X12_33 rfl rfl ?_
              refine kw_iload_n dX12_choose_85 rfl ?_
              refine kw_iconst (v := 0) dX12_choose_86 (by decide) ?_
              refine kw_top (v' := pi_ (b2 false)) rfl ?_
              refine kw_zastN dX12_choose_87 rfl (by omega) (by decide) ?_
              refine kw_heq (uma_4 _ _ b false) ?_
              refine kw_aload_n dX12_choose_88 rfl ?_
              refine kw_dup dX12_choose_89 rfl ?_
              refine kw_get dX12_choose_90 fl_X12_285 rfl rfl ?_
              refine kw_iconst (v := 1) dX12_choose_93 (by decide) ?_
              refine kw_iadd dX12_choose_94 ?_
              refine kw_top (v' := pi_ (nI (nfr_ (s_w1 s) + 1))) (by rw [← nI_1]) ?_
              refine kw_put dX12_choose_95 fl_X12_285 rfl (kw_ok_i _) (Nat.le_of_ble_eq_true rfl) ?_
              refine kw_heq (um_nfr _ _ (nfr_ (s_w1 s) + 1)) ?_
              refine kw_aload_n dX12_choose_98 rfl ?_
              refine kw_iconst (v := (nI 1)) dX12_choose_99 (by decide) ?_
              refine kw_iload_n dX12_choose_100 rfl ?_
              refine kw_callVf (As := [pi_ (nI 1), pi_ (nI b)]) (n_tell l (sN (sGb (sF (s_w1 s) 5 (va_up (wt_ (s_w1 s)) b 0)) 0 (va_up (th_ (s_w1 s)) b false)) 2 (nfr_ (s_w1 s) + 1)) (kX k 0 (nI b - 1)) (by show nh_ (s_w1 s) < 240; omega) 1 b) dX12_choose_101 cl_X12_198 rfl rfl rfl rfl (Nat.le_of_ble_eq_true rfl) ⟨(Nat.le_of_ble_eq_true rfl), (Nat.le_of_ble_eq_true rfl), (Nat.le_of_ble_eq_true rfl), (Nat.le_of_ble_eq_true rfl)⟩ ?_
              rw [free_eq]
              refine kw_iconst (v := 1) dX12_choose_104 (by decide) ?_
              exact kw_zret dX12_choose_105 rfl (by decide) (Nat.le_of_ble_eq_true rfl) (Nat.le_of_ble_eq_true rfl) (hK _ _ _ ⟨rfl, rfl, rfl⟩)
      · skip
        exact absurd c39 (by decide)
    · skip
      have e30 : mk_ s b = true := b2_n0.mp c30
      refine kw_iconst (v := 1) dX12_choose_33 (by decide) ?_
      exact kw_zret dX12_choose_34 rfl (by decide) (Nat.le_of_ble_eq_true rfl) (Nat.le_of_ble_eq_true rfl) (hK _ _ _ ⟨rfl, by rw [if_neg (fun q => by rw [e30] at q; cases q.2)]; rfl, by rw [if_neg (fun q => by rw [e30] at q; cases q.2)]⟩)
theorem line_c (s : SG) (b i v : Nat) (hi : i ≠ 12) : s_line (sN s i v) b = sN (s_line s b) i v := by
  have e : rt_ (sN s i v) = rt_ s := by show va_up s.1 i v 12 = _; simp only [va_up]; rw [if_neg (fun q => hi q.symm)]
  unfold s_line
  rw [e]
  refine sg_ext ?_ rfl rfl rfl rfl rfl rfl rfl
  exact va_up_comm _ hi _ _
theorem lines_c (s : SG) (f : Nat → Nat) (i v : Nat) (hi : i ≠ 12) : ∀ n, s_lines (sN s i v) f n = sN (s_lines s f n) i v := by
  intro n
  induction n with
  | zero => rfl
  | succ n ih =>
    show s_line (s_lines (sN s i v) f n) (f n) = sN (s_line (s_lines s f n) (f n)) i v
    rw [ih, line_c _ _ _ _ hi]
theorem Sn_c (s : SG) (i v : Nat) (hi : i ≠ 12) : ∀ n, rowSn (sN s i v) n = sN (rowSn s n) i v := by
  intro n
  induction n with
  | zero => rfl
  | succ n ih =>
    rw [rowSn, rowSn, ih]
    by_cases e : kp_ s n = true
    · rw [if_pos (show kp_ (sN s i v) n = true from e), if_pos e]
      exact lines_c _ _ _ _ hi _
    · rw [if_neg (show ¬ kp_ (sN s i v) n = true from e), if_neg e]
theorem Sv_c (s : SG) (i v : Nat) (hi : i ≠ 12) : ∀ n, rowSv (sN s i v) n = sN (rowSv s n) i v := by
  intro n
  induction n with
  | zero => rfl
  | succ n ih =>
    show svOne (rowSv (sN s i v) n) n = sN (svOne (rowSv s n) n) i v
    rw [ih]
    unfold svOne
    by_cases e : sv_ (rowSv s n) n = true
    · rw [if_pos (show sv_ (sN (rowSv s n) i v) n = true from e), if_pos e]
      by_cases e2 : dead_ (rowSv s n) n = true
      · rw [if_pos (show dead_ (sN (rowSv s n) i v) n = true from e2), if_pos e2]
      · rw [if_neg (show ¬ dead_ (sN (rowSv s n) i v) n = true from e2), if_neg e2]
        exact lines_c _ _ _ _ hi _
    · rw [if_neg (show ¬ sv_ (sN (rowSv s n) i v) n = true from e), if_neg e]
abbrev swP (t : SG) : SG := sGb (sN (sN (sN t 9 (nsw_ t + 1)) 11 0) 12 0) 1 (rnone 80 (mk_ t))
theorem swS_e (s : SG) (hb : nb_ s ≤ 80) (hmk : ∀ b, nb_ s ≤ b → mk_ s b = false) : sN (sN (rowSv (rowSn (swP (s_w1 s)) (ns_ s)) 4) 13 (nb_ s)) 10 1 = swS s := by
  have e : s_prep (s_w1 s) = sN (sN (swP (s_w1 s)) 13 (nb_ s)) 10 1 := by
    obtain ⟨X, eX⟩ := w1_X s
    rw [eX]
    unfold s_prep s_prep0
    refine sg_ext ?_ rfl rfl rfl rfl ?_ rfl rfl
    · funext i
      dsimp only [fs_, sF, sGb, sY, sN, sFF, va_up]
      repeat' split
      all_goals first | rfl | omega
    · show va_up s.2.2.2.2.2.1 1 (rnone (nb_ s) (mk_ s)) = va_up s.2.2.2.2.2.1 1 (rnone 80 (mk_ s))
      rw [show rnone (nb_ s) (mk_ s) = rnone 80 (mk_ s) from funext (fun q => by
        unfold rnone
        by_cases h1 : q < nb_ s
        · rw [if_pos h1, if_pos (by omega)]
        · rw [if_neg h1, hmk q (by omega)]; split <;> rfl)]
  unfold swS
  rw [e, Sn_c _ _ _ (by decide), Sn_c _ _ _ (by decide), Sv_c _ _ _ (by decide), Sv_c _ _ _ (by decide)]
theorem MI_row {s t : SG} {k : KG} (h : MI s k) (h1 : ∀ i, i ≠ 9 → i ≠ 10 → i ≠ 11 → i ≠ 12 → i ≠ 13 → t.1 i = s.1 i) (h2 : ∀ i, i ≠ 19 → fs_ t i = fs_ s i) (h3 : ff_ t = ff_ s) : MI t k := by
  have e1 : nb_ t = nb_ s := h1 1 (by decide) (by decide) (by decide) (by decide) (by decide)
  have e7 : ns_ t = ns_ s := h1 7 (by decide) (by decide) (by decide) (by decide) (by decide)
  have c1 : cm_ t = cm_ s := h2 1 (by decide)
  have c8 : rm_ t = rm_ s := h2 8 (by decide)
  have c14 : um_ t = um_ s := h2 14 (by decide)
  have c16 : km_ t = km_ s := h2 16 (by decide)
  have f0 : ch_ t = ch_ s := congrFun h3 0
  have f1 : ro_ t = ro_ s := congrFun h3 1
  have f2 : us_ t = us_ s := congrFun h3 2
  have f3 : ks_ t = ks_ s := congrFun h3 3
  unfold MI
  rw [e1, c1, f0, e7, c8, f1, c14, f2, c16, f3]
  exact h
theorem Sv_sv1 (R : SG) (n : Nat) : sv_ (rowSv R n) n = sv_ R n := by
  have : ∀ m, m ≤ n → sv_ (rowSv R m) n = sv_ R n := by
    intro m
    induction m with
    | zero => intro _; rfl
    | succ m ih =>
      intro hm
      show sv_ (svOne (rowSv R m) m) n = _
      have eL : ∀ f q, sv_ (s_lines (rowSv R m) f q) = sv_ (rowSv R m) := fun f q => congrFun (congrArg (fun x : (Nat → Nat → Bool) × (Nat → Nat → Int64) × (Nat → Nat → Nat → Nat) => x.1) (s_lines_ff (rowSv R m) f q)) 4
      unfold svOne
      split
      · split
        · show va_up (sv_ (rowSv R m)) m false n = _
          simp only [va_up]
          rw [if_neg (by omega)]
          exact ih (by omega)
        · rw [eL]; exact ih (by omega)
      · exact ih (by omega)
  exact this n (Nat.le_refl _)
theorem sv_id (t : SG) (j : Nat) (v : Bool) (h : sv_ t j = v) : sGb t 4 (va_up (sv_ t) j v) = t := by
  rw [← h, va_up_id]
  exact sGb_id t 4
theorem SvF (R : SG) (n : Nat) : us_ (rowSv R n) = us_ R := rowSv_pres (P := fun t => us_ t = us_ R) (fun _ _ h => h) (fun _ _ h => h) R n rfl
theorem MI_ph {s : SG} {k k' : KG} (h : MI s k) (v : Nat) (e : kn_ k' = kn_ k) : MI (sN s 10 v) k' := by
  unfold MI
  rw [e]
  exact h
theorem MI_st {s : SG} {k : KG} (h : MI s k) : MI (settleF (s, k)).1 (settleF (s, k)).2 := by
  have h1 : ∀ x : SG × KG, MI x.1 x.2 → MI (st1 x).1 (st1 x).2 := fun x h => by
    unfold st1
    split
    · exact MI_ph h 2 rfl
    · exact h
  have h2 : ∀ x : SG × KG, MI x.1 x.2 → MI (st2 x).1 (st2 x).2 := fun x h => by
    unfold st2
    split
    · exact MI_ph h 3 rfl
    · exact h
  have h3 : ∀ x : SG × KG, MI x.1 x.2 → MI (st3 x).1 (st3 x).2 := fun x h => by
    unfold st3
    split
    · exact MI_ph h 4 rfl
    · exact h
  have h4 : ∀ x : SG × KG, MI x.1 x.2 → MI (st4 x).1 (st4 x).2 := fun x h => by
    unfold st4
    split
    · exact MI_ph h 0 rfl
    · exact h
  exact h4 _ (h3 _ (h2 _ (h1 (s, k) h)))
set_option maxHeartbeats 4000000 in
set_option maxRecDepth 100000 in
theorem M_sweep (l : Launch) (s : SG) (k : KG) (hMI : MI s k) (hb : nb_ s ≤ 80) (hph : ph_ s ≤ 4) (hns : ns_ s ≤ 40) (h10 : thereN s ≤ 10) (hrm : ∀ j, j < ns_ s → rm_ s j ≤ 8) (hu : ∀ i, i < 4 → um_ s i ≤ 8) (hmk : ∀ b, nb_ s ≤ b → mk_ s b = false) : kw_P l yX12_sweep cX12_sweep 3 (Option.some Jvm.ClassFile.FieldType.int) { frames := 1, cells := 0, slots := 0, locals := 21 } [pr_ (40, 0)] (hM s k) (fun r h' => r = some (pi_ (c_sweep s k).1) ∧ MI (c_sweep s k).2.1 (c_sweep s k).2.2 ∧ h' = hM (c_sweep s k).2.1 (c_sweep s k).2.2) := by
  refine kw_M_of RX12 "sweep" [some (pr_ (40, 0)), none, none] (by decide) rfl rfl rfl (Nat.le_of_ble_eq_true rfl) ?_
  intro D ad A
  refine kw_Kgen (fun K hK => ?_)
  refine kw_aload_n dX12_sweep_0 rfl ?_
  refine kw_get dX12_sweep_1 fl_X12_127 rfl rfl ?_
  refine kw_if_eq (tgt := 10) dX12_sweep_4 (by decide) (fun c4 => ?_) (fun c4 => ?_)
  · skip
    have hd : ¬ dn_ s = true := by rw [b2_0.mp c4]; decide
    refine kw_aload_n dX12_sweep_10 rfl ?_
    refine kw_get dX12_sweep_11 fl_X12_131 rfl rfl ?_
    refine kw_if_eq (tgt := 20) dX12_sweep_14 (by decide) (fun c14 => ?_) (fun c14 => ?_)
    · skip
      have e14 : ph_ s = 0 := nI_eq' (b := 0) (by omega) (by decide) c14
      rw [c_sweep, if_neg hd, if_pos e14] at hK
      by_cases hcut : cut_ s = 0
      · rw [if_pos hcut] at hK
        refine kw_aload_n dX12_sweep_20 rfl ?_
        refine kw_callVf (As := []) (n_write0 l s k hcut) dX12_sweep_21 cl_X12_191 rfl rfl rfl rfl (Nat.le_of_ble_eq_true rfl) ⟨(Nat.le_of_ble_eq_true rfl), (Nat.le_of_ble_eq_true rfl), (Nat.le_of_ble_eq_true rfl), (Nat.le_of_ble_eq_true rfl)⟩ ?_
        refine kw_if_ne (tgt := 30) dX12_sweep_24 (by decide) (fun c24 => ?_) (fun c24 => ?_)
        · skip
          exact absurd rfl c24
        · skip
          refine kw_bipush (v := (-105)) dX12_sweep_27 (by decide) ?_
          exact kw_iret dX12_sweep_29 rfl (Nat.le_of_ble_eq_true rfl) (Nat.le_of_ble_eq_true rfl) (hK _ _ _ ⟨rfl, rfl, MI_lost hMI, rfl⟩)
      rw [if_neg hcut] at hK
      obtain ⟨X, eX⟩ := w1_X s
      obtain ⟨t, ht⟩ : ∃ t, t = s_w1 s := ⟨_, rfl⟩
      have t1 : t.1 = s.1 := by rw [ht, eX]
      have t2 : t.2.2 = s.2.2 := by rw [ht, eX]
      have hMt := MI_w1 hMI
      rw [← ht] at hMt
      have eS := swS_e s hb hmk
      rw [← ht] at eS
      obtain ⟨Q, hQ⟩ : ∃ Q, Q = sN (sN (sN t 9 (nsw_ t + 1)) 11 0) 12 0 := ⟨_, rfl⟩
      obtain ⟨P, hP⟩ : ∃ P, P = swP t := ⟨_, rfl⟩
      have hPQ : P = sGb Q 1 (rnone 80 (mk_ Q)) := by rw [hP, hQ]
      obtain ⟨R, hR⟩ : ∃ R, R = rowSn P (ns_ s) := ⟨_, rfl⟩
      rw [← hP, ← hR] at eS
      have p1 : ∀ i, i ≠ 9 → i ≠ 11 → i ≠ 12 → P.1 i = s.1 i := by
        intro i h1 h2 h3
        rw [hP, ← t1]
        show va_up (va_up (va_up t.1 9 _) 11 _) 12 _ i = _
        simp only [va_up]
        rw [if_neg h3, if_neg h2, if_neg h1]
      have pf : fs_ P = fs_ s := by rw [hP]; show t.2.2.2.2.1 = _; rw [t2]
      have pg : ∀ i, i ≠ 1 → gs_ P i = gs_ s i := by
        intro i hi
        rw [hP]
        show va_up t.2.2.2.2.2.1 1 _ i = _
        simp only [va_up]
        rw [if_neg hi, t2]
      have pff : ff_ P = ff_ s := by rw [hP]; show t.2.2.2.2.2.2.2 = _; rw [t2]
      have pns : ns_ P = ns_ s := p1 7 (by decide) (by decide) (by decide)
      have prt : rt_ P = 0 := by rw [hP]; rfl
      have prm : rm_ P = rm_ s := congrFun pf 8
      have pkp : kp_ P = kp_ s := pg 3 (by decide)
      have pum : um_ P = um_ s := congrFun pf 14
      have r1 : ∀ i, i ≠ 12 → R.1 i = P.1 i := fun i hi => by rw [hR]; exact rowSn_1 P _ i hi
      have rf : ∀ i, i ≠ 19 → fs_ R i = fs_ P i := fun i hi => by rw [hR]; exact rowSn_f P _ i hi
      have rg : R.2.2.2.2.2 = P.2.2.2.2.2 := by rw [hR]; exact rowSn_g P _
      have rum : um_ R = um_ s := (rf 14 (by decide)).trans pum
      have rus : us_ R = us_ s := by rw [us_, ff_, rg]; exact congrFun pff 2
      have rrt : rt_ R ≤ 80 := by
        have := rowSn_rt P (by rw [pns, prm]; exact hrm) (ns_ s) (by rw [pns]; exact Nat.le_refl _)
        rw [← hR, prt, pkp] at this
        have h9 : cntN (fun j => kp_ s j) (ns_ s) ≤ 10 := h10
        omega
      have tns : ns_ t = ns_ s := congrFun t1 7
      have tnb : nb_ t = nb_ s := congrFun t1 1
      have loopC : ∀ (n_ : Nat) (j : Nat), 4 - j < n_ → j ≤ 4 → kw_G l D cX12_sweep RX12 (Option.some Jvm.ClassFile.FieldType.int) "sweep" { frames := 1, cells := 0, slots := 0, locals := 21 } A K ad (hM (rowSv R j) k) 0 0 131 [some (pr_ (40, 0)), some (pi_ (nI j)), none] [] := by
        intro n_
        induction n_ with
        | zero =>
          intro j hm_
          exact absurd hm_ (Nat.not_lt_zero _)
        | succ n_ ih =>
          intro j hm_ hj
          refine kw_iload_n dX12_sweep_131 rfl ?_
          refine kw_iconst (v := 4) dX12_sweep_132 (by decide) ?_
          refine kw_icmp_ge (tgt := 212) dX12_sweep_133 (by decide) (fun c133 => ?_) (fun c133 => ?_)
          · skip
            have e : j = 4 := Nat.le_antisymm hj (nI_le' (a := 4) (by decide) (by omega) c133)
            subst e
            obtain ⟨T, hT⟩ : ∃ T, T = rowSv R 4 := ⟨_, rfl⟩
            rw [← hT] at eS ⊢
            have u1 : ∀ i, i ≠ 12 → T.1 i = R.1 i := fun i hi => by rw [hT]; exact rowSv_1 R 4 i hi
            have unb : nb_ T = nb_ s := (u1 1 (by decide)).trans ((r1 1 (by decide)).trans (p1 1 (by decide) (by decide) (by decide)))
            have urt : rt_ T ≤ 112 := by
              have h1 := rowSv_rt R (by rw [rum]; exact hu) 4 (by omega)
              rw [← hT] at h1
              omega
            have urf : rf_ T = 0 := (u1 11 (by decide)).trans ((r1 11 (by decide)).trans (by rw [hP]; rfl))
            have hMS : MI (swS s) k := by
              refine MI_row hMI (fun i h9 h10 h11 h12 h13 => ?_) (fun i h19 => ?_) ?_
              · rw [← eS]
                show va_up (va_up T.1 13 _) 10 _ i = _
                simp only [va_up]
                rw [if_neg h10, if_neg h13]
                exact (u1 i h12).trans ((r1 i h12).trans (p1 i h9 h11 h12))
              · rw [← eS]
                show fs_ T i = _
                rw [hT]
                exact (rowSv_f R 4 i h19).trans ((rf i h19).trans (by rw [pf]))
              · rw [← eS]
                show ff_ T = _
                rw [hT]
                exact (rowSv_pres (P := fun t => ff_ t = ff_ R) (fun _ _ h => h) (fun t j h => h) R 4 rfl).trans (by rw [ff_, rg]; exact pff)
            refine kw_aload_n dX12_sweep_212 rfl ?_
            refine kw_aload_n dX12_sweep_213 rfl ?_
            refine kw_get dX12_sweep_214 fl_X12_156 rfl rfl ?_
            refine kw_top (v' := pi_ (nI (nb_ s))) (by rw [unb]) ?_
            refine kw_put dX12_sweep_217 fl_X12_270 rfl (kw_ok_i _) (Nat.le_of_ble_eq_true rfl) ?_
            refine kw_heq (um_end T k (nb_ s)) ?_
            refine kw_aload_n dX12_sweep_220 rfl ?_
            refine kw_iconst (v := 1) dX12_sweep_221 (by decide) ?_
            refine kw_put dX12_sweep_222 fl_X12_131 rfl (kw_ok_i _) (Nat.le_of_ble_eq_true rfl) ?_
            refine kw_heq (um_ph _ k 1) ?_
            rw [eS]
            refine kw_aload_n dX12_sweep_225 rfl ?_
            refine kw_callVf (As := []) (n_settle l (swS s) k (by rw [← eS]; exact (by decide : 1 ≤ 4)) (by rw [← eS]; show rt_ T ≤ 1400; omega) (by rw [← eS]; show rf_ T ≤ rt_ T; rw [urf]; exact Nat.zero_le _)) dX12_sweep_226 cl_X12_282 rfl rfl rfl rfl (Nat.le_of_ble_eq_true rfl) ⟨(Nat.le_of_ble_eq_true rfl), (Nat.le_of_ble_eq_true rfl), (Nat.le_of_ble_eq_true rfl), (Nat.le_of_ble_eq_true rfl)⟩ ?_
            refine kw_aload_n dX12_sweep_229 rfl ?_
            refine kw_get dX12_sweep_230 fl_X12_276 rfl rfl ?_
            exact kw_iret dX12_sweep_233 rfl (Nat.le_of_ble_eq_true rfl) (Nat.le_of_ble_eq_true rfl) (hK _ _ _ ⟨rfl, rfl, MI_st (s := swS s) hMS, rfl⟩)
          · skip
            have hlt : j < 4 := nI_nle' (a := 4) (by decide) (by omega) c133
            have h8 := hu j hlt
            have esv : sv_ (rowSv R j) j = sv_ R j := Sv_sv1 R j
            refine kw_aload_n dX12_sweep_136 rfl ?_
            refine kw_get dX12_sweep_137 fl_X12_79 rfl rfl ?_
            refine kw_iload_n dX12_sweep_140 rfl ?_
            refine kw_aload_n dX12_sweep_141 rfl ?_
            refine kw_get dX12_sweep_142 fl_X12_79 rfl rfl ?_
            refine kw_iload_n dX12_sweep_145 rfl ?_
            refine kw_zaldN dX12_sweep_146 rfl hlt (by decide) ?_
            refine kw_if_eq (tgt := 162) dX12_sweep_147 (by decide) (fun c147 => ?_) (fun c147 => ?_)
            · skip
              have e147 := b2_0.mp c147
              refine kw_iconst (v := 0) dX12_sweep_162 (by decide) ?_
              refine kw_top (v' := pi_ (b2 false)) rfl ?_
              refine kw_zastN dX12_sweep_163 rfl hlt (by decide) ?_
              refine kw_heq ((uma_18 (rowSv R j) k j false).trans (by rw [sv_id _ _ _ e147])) ?_
              refine kw_iconst (v := 0) dX12_sweep_164 (by decide) ?_
              refine kw_istore_n dX12_sweep_165 (Nat.le_of_ble_eq_true rfl) ?_
              refine kw_iload_n dX12_sweep_166 rfl ?_
              refine kw_aload_n dX12_sweep_167 rfl ?_
              refine kw_get dX12_sweep_168 fl_X12_88 rfl rfl ?_
              refine kw_iload_n dX12_sweep_171 rfl ?_
              refine kw_ialdN dX12_sweep_172 rfl (by omega) (by decide) ?_
              refine kw_top (v' := pi_ (nI (um_ s j))) (by rw [show um_ (rowSv R j) = um_ s from (rowSv_f R j 14 (by decide)).trans rum]) ?_
              refine kw_icmp_ge (tgt := 206) dX12_sweep_173 (by decide) (fun c173 => ?_) (fun c173 => ?_)
              · skip
                refine kw_iinc dX12_sweep_206 rfl (nI_i j) ?_
                refine kw_goto (tgt := 131) dX12_sweep_209 (by decide) ?_
                refine kw_heq (h' := hM (rowSv R (j + 1)) k) (congrArg (fun z => hM z k) (show (rowSv R j) = svOne (rowSv R j) j by unfold svOne; rw [if_neg (by rw [e147]; decide)])) ?_
                refine kw_lvle (lv' := [some (pr_ (40, 0)), some (pi_ (nI (j + 1))), none]) (kw_le_s (kw_le_s (kw_le_n kw_le_0))) ?_
                exact ih (j + 1) (by omega) (by omega)
              · skip
                refine kw_aload_n dX12_sweep_176 rfl ?_
                refine kw_get dX12_sweep_177 fl_X12_79 rfl rfl ?_
                refine kw_iload_n dX12_sweep_180 rfl ?_
                refine kw_zaldN dX12_sweep_181 rfl hlt (by decide) ?_
                refine kw_top (v' := pi_ (b2 false)) (by rw [e147]) ?_
                refine kw_if_eq (tgt := 206) dX12_sweep_182 (by decide) (fun c182 => ?_) (fun c182 => ?_)
                · skip
                  refine kw_iinc dX12_sweep_206 rfl (nI_i j) ?_
                  refine kw_goto (tgt := 131) dX12_sweep_209 (by decide) ?_
                  refine kw_heq (h' := hM (rowSv R (j + 1)) k) (congrArg (fun z => hM z k) (show (rowSv R j) = svOne (rowSv R j) j by unfold svOne; rw [if_neg (by rw [e147]; decide)])) ?_
                  refine kw_lvle (lv' := [some (pr_ (40, 0)), some (pi_ (nI (j + 1))), none]) (kw_le_s (kw_le_s (kw_le_n kw_le_0))) ?_
                  exact ih (j + 1) (by omega) (by omega)
                · skip
                  exact absurd rfl c182
            · skip
              have e147 := b2_n0.mp c147
              refine kw_aload_n dX12_sweep_150 rfl ?_
              refine kw_iload_n dX12_sweep_151 rfl ?_
              refine kw_callVf (As := [pi_ (nI j)]) (n_isDead l (rowSv R j) k j hlt) dX12_sweep_152 cl_X12_159 rfl rfl rfl rfl (Nat.le_of_ble_eq_true rfl) ⟨(Nat.le_of_ble_eq_true rfl), (Nat.le_of_ble_eq_true rfl), (Nat.le_of_ble_eq_true rfl), (Nat.le_of_ble_eq_true rfl)⟩ ?_
              refine kw_if_ne (tgt := 162) dX12_sweep_155 (by decide) (fun c155 => ?_) (fun c155 => ?_)
              · skip
                have e155 := b2_n0.mp c155
                refine kw_iconst (v := 0) dX12_sweep_162 (by decide) ?_
                refine kw_top (v' := pi_ (b2 false)) rfl ?_
                refine kw_zastN dX12_sweep_163 rfl hlt (by decide) ?_
                refine kw_heq (uma_18 (rowSv R j) k j false) ?_
                refine kw_iconst (v := 0) dX12_sweep_164 (by decide) ?_
                refine kw_istore_n dX12_sweep_165 (Nat.le_of_ble_eq_true rfl) ?_
                refine kw_iload_n dX12_sweep_166 rfl ?_
                refine kw_aload_n dX12_sweep_167 rfl ?_
                refine kw_get dX12_sweep_168 fl_X12_88 rfl rfl ?_
                refine kw_iload_n dX12_sweep_171 rfl ?_
                refine kw_ialdN dX12_sweep_172 rfl (by omega) (by decide) ?_
                refine kw_top (v' := pi_ (nI (um_ s j))) (by rw [show um_ (sGb (rowSv R j) 4 (va_up (sv_ (rowSv R j)) j false)) = um_ s from (rowSv_f R j 14 (by decide)).trans rum]) ?_
                refine kw_icmp_ge (tgt := 206) dX12_sweep_173 (by decide) (fun c173 => ?_) (fun c173 => ?_)
                · skip
                  refine kw_iinc dX12_sweep_206 rfl (nI_i j) ?_
                  refine kw_goto (tgt := 131) dX12_sweep_209 (by decide) ?_
                  refine kw_heq (h' := hM (rowSv R (j + 1)) k) (congrArg (fun z => hM z k) (show (sGb (rowSv R j) 4 (va_up (sv_ (rowSv R j)) j false)) = svOne (rowSv R j) j by unfold svOne; rw [if_pos e147, if_pos e155])) ?_
                  refine kw_lvle (lv' := [some (pr_ (40, 0)), some (pi_ (nI (j + 1))), none]) (kw_le_s (kw_le_s (kw_le_n kw_le_0))) ?_
                  exact ih (j + 1) (by omega) (by omega)
                · skip
                  refine kw_aload_n dX12_sweep_176 rfl ?_
                  refine kw_get dX12_sweep_177 fl_X12_79 rfl rfl ?_
                  refine kw_iload_n dX12_sweep_180 rfl ?_
                  refine kw_zaldN dX12_sweep_181 rfl hlt (by decide) ?_
                  refine kw_top (v' := pi_ (b2 false)) (by rw [show sv_ (sGb (rowSv R j) 4 (va_up (sv_ (rowSv R j)) j false)) j = false by show va_up (sv_ (rowSv R j)) j false j = false; simp only [va_up, if_true]]) ?_
                  refine kw_if_eq (tgt := 206) dX12_sweep_182 (by decide) (fun c182 => ?_) (fun c182 => ?_)
                  · skip
                    refine kw_iinc dX12_sweep_206 rfl (nI_i j) ?_
                    refine kw_goto (tgt := 131) dX12_sweep_209 (by decide) ?_
                    refine kw_heq (h' := hM (rowSv R (j + 1)) k) (congrArg (fun z => hM z k) (show (sGb (rowSv R j) 4 (va_up (sv_ (rowSv R j)) j false)) = svOne (rowSv R j) j by unfold svOne; rw [if_pos e147, if_pos e155])) ?_
                    refine kw_lvle (lv' := [some (pr_ (40, 0)), some (pi_ (nI (j + 1))), none]) (kw_le_s (kw_le_s (kw_le_n kw_le_0))) ?_
                    exact ih (j + 1) (by omega) (by omega)
                  · skip
                    exact absurd rfl c182
              · skip
                have e155 := b2_0.mp c155
                refine kw_iconst (v := 1) dX12_sweep_158 (by decide) ?_
                refine kw_top (v' := pi_ (b2 true)) rfl ?_
                refine kw_goto (tgt := 163) dX12_sweep_159 (by decide) ?_
                refine kw_zastN dX12_sweep_163 rfl hlt (by decide) ?_
                refine kw_heq ((uma_18 (rowSv R j) k j true).trans (by rw [sv_id _ _ _ e147])) ?_
                have hbt : rt_ (rowSv R j) ≤ 112 := by
                  have h1 := rowSv_rt R (by rw [rum]; exact hu) j (by omega)
                  omega
                have inner : ∀ (n_ : Nat) (i : Nat), um_ s j - i < n_ → i ≤ um_ s j → kw_G l D cX12_sweep RX12 (Option.some Jvm.ClassFile.FieldType.int) "sweep" { frames := 1, cells := 0, slots := 0, locals := 21 } A K ad (hM (s_lines (rowSv R j) (us_ R j) i) k) 0 0 166 [some (pr_ (40, 0)), some (pi_ (nI j)), some (pi_ (nI i))] [] := by
                  intro n_
                  induction n_ with
                  | zero =>
                    intro i hm_
                    exact absurd hm_ (Nat.not_lt_zero _)
                  | succ n_ ih2 =>
                    intro i hm_ hi
                    refine kw_iload_n dX12_sweep_166 rfl ?_
                    refine kw_aload_n dX12_sweep_167 rfl ?_
                    refine kw_get dX12_sweep_168 fl_X12_88 rfl rfl ?_
                    refine kw_iload_n dX12_sweep_171 rfl ?_
                    refine kw_ialdN dX12_sweep_172 rfl (by omega) (by decide) ?_
                    refine kw_top (v' := pi_ (nI (um_ s j))) (by rw [show um_ (s_lines (rowSv R j) (us_ R j) i) = um_ s from (s_lines_f _ _ 14 (by decide) i).trans ((rowSv_f R j 14 (by decide)).trans rum)]) ?_
                    refine kw_icmp_ge (tgt := 206) dX12_sweep_173 (by decide) (fun c173 => ?_) (fun c173 => ?_)
                    · skip
                      have e : i = um_ s j := Nat.le_antisymm hi (nI_le' (by omega) (by omega) c173)
                      subst e
                      refine kw_iinc dX12_sweep_206 rfl (nI_i j) ?_
                      refine kw_goto (tgt := 131) dX12_sweep_209 (by decide) ?_
                      refine kw_heq (h' := hM (rowSv R (j + 1)) k) (congrArg (fun z => hM z k) (show (s_lines (rowSv R j) (us_ R j) (um_ s j)) = svOne (rowSv R j) j by unfold svOne; rw [if_pos e147, if_neg (by rw [e155]; decide), show um_ (rowSv R j) = um_ s from (rowSv_f R j 14 (by decide)).trans rum, (SvF R j)])) ?_
                      refine kw_lvle (lv' := [some (pr_ (40, 0)), some (pi_ (nI (j + 1))), none]) (kw_le_s (kw_le_s (kw_le_n kw_le_0))) ?_
                      exact ih (j + 1) (by omega) (by omega)
                    · skip
                      have hlti : i < um_ s j := nI_nle' (by omega) (by omega) c173
                      refine kw_aload_n dX12_sweep_176 rfl ?_
                      refine kw_get dX12_sweep_177 fl_X12_79 rfl rfl ?_
                      refine kw_iload_n dX12_sweep_180 rfl ?_
                      refine kw_zaldN dX12_sweep_181 rfl hlt (by decide) ?_
                      refine kw_top (v' := pi_ (b2 true)) (by rw [show sv_ (s_lines (rowSv R j) (us_ R j) i) j = true by rw [sv_, gs_, s_lines_ff]; exact e147]) ?_
                      refine kw_if_eq (tgt := 206) dX12_sweep_182 (by decide) (fun c182 => ?_) (fun c182 => ?_)
                      · skip
                        exact absurd c182 (by decide)
                      · skip
                        refine kw_aload_n dX12_sweep_185 rfl ?_
                        refine kw_aload_n dX12_sweep_186 rfl ?_
                        refine kw_get dX12_sweep_187 fl_X12_91 rfl rfl ?_
                        refine kw_bipush (v := (nI 8)) dX12_sweep_190 (by decide) ?_
                        refine kw_iload_n dX12_sweep_192 rfl ?_
                        refine kw_imul dX12_sweep_193 ?_
                        refine kw_top (v' := pi_ (nI (8 * j))) (by rw [nI_mul]) ?_
                        refine kw_iload_n dX12_sweep_194 rfl ?_
                        refine kw_iadd dX12_sweep_195 ?_
                        refine kw_top (v' := pi_ (nI (8 * j + i))) (by rw [nI_add]) ?_
                        refine kw_ialdN dX12_sweep_196 rfl (by omega) (by decide) ?_
                        refine kw_top (v' := pi_ (nI (us_ R j i))) (by rw [rus, ← hMI.2.2.1 j hlt i hlti]) ?_
                        refine kw_callVf (As := [pi_ (nI (us_ R j i))]) (n_push l (s_lines (rowSv R j) (us_ R j) i) k (by rw [s_lines_rt]; omega) (us_ R j i)) dX12_sweep_197 cl_X12_279 rfl rfl rfl rfl (Nat.le_of_ble_eq_true rfl) ⟨(Nat.le_of_ble_eq_true rfl), (Nat.le_of_ble_eq_true rfl), (Nat.le_of_ble_eq_true rfl), (Nat.le_of_ble_eq_true rfl)⟩ ?_
                        refine kw_iinc dX12_sweep_200 rfl (nI_i i) ?_
                        refine kw_goto (tgt := 166) dX12_sweep_203 (by decide) ?_
                        exact ih2 (i + 1) (by omega) (by omega)
                refine kw_iconst (v := 0) dX12_sweep_164 (by decide) ?_
                refine kw_istore_n dX12_sweep_165 (Nat.le_of_ble_eq_true rfl) ?_
                exact inner (um_ s j + 1) 0 (by omega) (by omega)
      have loopB : ∀ (n_ : Nat) (j : Nat), ns_ s - j < n_ → j ≤ ns_ s → kw_G l D cX12_sweep RX12 (Option.some Jvm.ClassFile.FieldType.int) "sweep" { frames := 1, cells := 0, slots := 0, locals := 21 } A K ad (hM (rowSn P j) k) 0 0 73 [some (pr_ (40, 0)), some (pi_ (nI j)), none] [] := by
        intro n_
        induction n_ with
        | zero =>
          intro j hm_
          exact absurd hm_ (Nat.not_lt_zero _)
        | succ n_ ih =>
          intro j hm_ hj
          refine kw_iload_n dX12_sweep_73 rfl ?_
          refine kw_aload_n dX12_sweep_74 rfl ?_
          refine kw_get dX12_sweep_75 fl_X12_218 rfl rfl ?_
          refine kw_top (v' := pi_ (nI (ns_ s))) (by rw [show ns_ (rowSn P j) = ns_ s from (rowSn_1 P j 7 (by decide)).trans pns]) ?_
          refine kw_icmp_ge (tgt := 129) dX12_sweep_78 (by decide) (fun c78 => ?_) (fun c78 => ?_)
          · skip
            have e : j = ns_ s := Nat.le_antisymm hj (nI_le' (by omega) (by omega) c78)
            subst e
            rw [← hR]
            refine kw_iconst (v := 0) dX12_sweep_129 (by decide) ?_
            refine kw_istore_n dX12_sweep_130 (Nat.le_of_ble_eq_true rfl) ?_
            exact loopC 5 0 (by omega) (by omega)
          · skip
            have hlt : j < ns_ s := nI_nle' (by omega) (by omega) c78
            have h8 := hrm j hlt
            by_cases hkp : kp_ s j = true
            · skip
              have hb9 : rt_ (rowSn P j) ≤ 80 := by
                have h1 := rowSn_rt P (by rw [pns, prm]; exact hrm) j (by rw [pns]; omega)
                rw [prt, pkp] at h1
                have h2 := cntN_mono (fun j => kp_ s j) (show j ≤ ns_ s by omega)
                have h9 : cntN (fun j => kp_ s j) (ns_ s) ≤ 10 := h10
                omega
              have inner : ∀ (n_ : Nat) (i : Nat), rm_ s j - i < n_ → i ≤ rm_ s j → kw_G l D cX12_sweep RX12 (Option.some Jvm.ClassFile.FieldType.int) "sweep" { frames := 1, cells := 0, slots := 0, locals := 21 } A K ad (hM (s_lines (rowSn P j) (ro_ P j) i) k) 0 0 83 [some (pr_ (40, 0)), some (pi_ (nI j)), some (pi_ (nI i))] [] := by
                intro n_
                induction n_ with
                | zero =>
                  intro i hm_
                  exact absurd hm_ (Nat.not_lt_zero _)
                | succ n_ ih2 =>
                  intro i hm_ hi
                  refine kw_iload_n dX12_sweep_83 rfl ?_
                  refine kw_aload_n dX12_sweep_84 rfl ?_
                  refine kw_get dX12_sweep_85 fl_X12_64 rfl rfl ?_
                  refine kw_iload_n dX12_sweep_88 rfl ?_
                  refine kw_ialdN dX12_sweep_89 rfl (by omega) (by decide) ?_
                  refine kw_top (v' := pi_ (nI (rm_ s j))) (by rw [show rm_ (s_lines (rowSn P j) (ro_ P j) i) = rm_ s from (s_lines_f _ _ 8 (by decide) i).trans ((rowSn_f P j 8 (by decide)).trans prm)]) ?_
                  refine kw_icmp_ge (tgt := 123) dX12_sweep_90 (by decide) (fun c90 => ?_) (fun c90 => ?_)
                  · skip
                    have e : i = rm_ s j := Nat.le_antisymm hi (nI_le' (by omega) (by omega) c90)
                    subst e
                    refine kw_iinc dX12_sweep_123 rfl (nI_i j) ?_
                    refine kw_goto (tgt := 73) dX12_sweep_126 (by decide) ?_
                    refine kw_heq (h' := hM (rowSn P (j + 1)) k) (congrArg (fun z => hM z k) (by rw [rowSn, if_pos (by rw [pkp, hkp]), prm])) ?_
                    refine kw_lvle (lv' := [some (pr_ (40, 0)), some (pi_ (nI (j + 1))), none]) (kw_le_s (kw_le_s (kw_le_n kw_le_0))) ?_
                    exact ih (j + 1) (by omega) (by omega)
                  · skip
                    have hlti : i < rm_ s j := nI_nle' (by omega) (by omega) c90
                    refine kw_aload_n dX12_sweep_93 rfl ?_
                    refine kw_get dX12_sweep_94 fl_X12_55 rfl rfl ?_
                    refine kw_iload_n dX12_sweep_97 rfl ?_
                    refine kw_zaldN dX12_sweep_98 rfl (by omega) (by decide) ?_
                    refine kw_top (v' := pi_ (b2 (kp_ s j))) (by rw [show kp_ (s_lines (rowSn P j) (ro_ P j) i) = kp_ s by rw [kp_, gs_, s_lines_ff, rowSn_g P j]; exact pkp]) ?_
                    refine kw_if_eq (tgt := 123) dX12_sweep_99 (by decide) (fun c99 => ?_) (fun c99 => ?_)
                    · skip
                      exact absurd c99 (by rw [hkp]; decide)
                    · skip
                      refine kw_aload_n dX12_sweep_102 rfl ?_
                      refine kw_aload_n dX12_sweep_103 rfl ?_
                      refine kw_get dX12_sweep_104 fl_X12_67 rfl rfl ?_
                      refine kw_bipush (v := (nI 8)) dX12_sweep_107 (by decide) ?_
                      refine kw_iload_n dX12_sweep_109 rfl ?_
                      refine kw_imul dX12_sweep_110 ?_
                      refine kw_top (v' := pi_ (nI (8 * j))) (by rw [nI_mul]) ?_
                      refine kw_iload_n dX12_sweep_111 rfl ?_
                      refine kw_iadd dX12_sweep_112 ?_
                      refine kw_top (v' := pi_ (nI (8 * j + i))) (by rw [nI_add]) ?_
                      refine kw_ialdN dX12_sweep_113 rfl (by omega) (by decide) ?_
                      refine kw_top (v' := pi_ (nI (ro_ P j i))) (by rw [show ro_ P = ro_ s from congrFun pff 1, ← hMI.2.1 j hlt i hlti]) ?_
                      refine kw_callVf (As := [pi_ (nI (ro_ P j i))]) (n_push l (s_lines (rowSn P j) (ro_ P j) i) k (by rw [s_lines_rt]; omega) (ro_ P j i)) dX12_sweep_114 cl_X12_279 rfl rfl rfl rfl (Nat.le_of_ble_eq_true rfl) ⟨(Nat.le_of_ble_eq_true rfl), (Nat.le_of_ble_eq_true rfl), (Nat.le_of_ble_eq_true rfl), (Nat.le_of_ble_eq_true rfl)⟩ ?_
                      refine kw_iinc dX12_sweep_117 rfl (nI_i i) ?_
                      refine kw_goto (tgt := 83) dX12_sweep_120 (by decide) ?_
                      exact ih2 (i + 1) (by omega) (by omega)
              refine kw_iconst (v := 0) dX12_sweep_81 (by decide) ?_
              refine kw_istore_n dX12_sweep_82 (Nat.le_of_ble_eq_true rfl) ?_
              exact inner (rm_ s j + 1) 0 (by omega) (by omega)
            have hkf : kp_ s j = false := by cases e : kp_ s j with | false => rfl | true => exact absurd e hkp
            refine kw_iconst (v := 0) dX12_sweep_81 (by decide) ?_
            refine kw_istore_n dX12_sweep_82 (Nat.le_of_ble_eq_true rfl) ?_
            refine kw_iload_n dX12_sweep_83 rfl ?_
            refine kw_aload_n dX12_sweep_84 rfl ?_
            refine kw_get dX12_sweep_85 fl_X12_64 rfl rfl ?_
            refine kw_iload_n dX12_sweep_88 rfl ?_
            refine kw_ialdN dX12_sweep_89 rfl (by omega) (by decide) ?_
            refine kw_top (v' := pi_ (nI (rm_ s j))) (by rw [show rm_ (rowSn P j) = rm_ s from (rowSn_f P j 8 (by decide)).trans prm]) ?_
            refine kw_icmp_ge (tgt := 123) dX12_sweep_90 (by decide) (fun c90 => ?_) (fun c90 => ?_)
            · skip
              refine kw_iinc dX12_sweep_123 rfl (nI_i j) ?_
              refine kw_goto (tgt := 73) dX12_sweep_126 (by decide) ?_
              refine kw_heq (h' := hM (rowSn P (j + 1)) k) (congrArg (fun z => hM z k) (by rw [rowSn, if_neg (by rw [pkp, hkf]; decide)])) ?_
              refine kw_lvle (lv' := [some (pr_ (40, 0)), some (pi_ (nI (j + 1))), none]) (kw_le_s (kw_le_s (kw_le_n kw_le_0))) ?_
              exact ih (j + 1) (by omega) (by omega)
            · skip
              refine kw_aload_n dX12_sweep_93 rfl ?_
              refine kw_get dX12_sweep_94 fl_X12_55 rfl rfl ?_
              refine kw_iload_n dX12_sweep_97 rfl ?_
              refine kw_zaldN dX12_sweep_98 rfl (by omega) (by decide) ?_
              refine kw_top (v' := pi_ (b2 (kp_ s j))) (by rw [show kp_ (rowSn P j) = kp_ s by rw [kp_, gs_, rowSn_g P j]; exact pkp]) ?_
              refine kw_if_eq (tgt := 123) dX12_sweep_99 (by decide) (fun c99 => ?_) (fun c99 => ?_)
              · skip
                refine kw_iinc dX12_sweep_123 rfl (nI_i j) ?_
                refine kw_goto (tgt := 73) dX12_sweep_126 (by decide) ?_
                refine kw_heq (h' := hM (rowSn P (j + 1)) k) (congrArg (fun z => hM z k) (by rw [rowSn, if_neg (by rw [pkp, hkf]; decide)])) ?_
                refine kw_lvle (lv' := [some (pr_ (40, 0)), some (pi_ (nI (j + 1))), none]) (kw_le_s (kw_le_s (kw_le_n kw_le_0))) ?_
                exact ih (j + 1) (by omega) (by omega)
              · skip
                exact absurd (by rw [hkf]; rfl) c99
      have loopA : ∀ (n_ : Nat) (j : Nat), 80 - j < n_ → j ≤ 80 → kw_G l D cX12_sweep RX12 (Option.some Jvm.ClassFile.FieldType.int) "sweep" { frames := 1, cells := 0, slots := 0, locals := 21 } A K ad (hM (sGb Q 1 (rnone j (mk_ Q))) k) 0 0 52 [some (pr_ (40, 0)), some (pi_ (nI j)), none] [] := by
        intro n_
        induction n_ with
        | zero =>
          intro j hm_
          exact absurd hm_ (Nat.not_lt_zero _)
        | succ n_ ih =>
          intro j hm_ hj
          refine kw_iload_n dX12_sweep_52 rfl ?_
          refine kw_bipush (v := 80) dX12_sweep_53 (by decide) ?_
          refine kw_icmp_ge (tgt := 71) dX12_sweep_55 (by decide) (fun c55 => ?_) (fun c55 => ?_)
          · skip
            have e : j = 80 := Nat.le_antisymm hj (nI_le' (a := 80) (by decide) (by omega) c55)
            subst e
            rw [← hPQ]
            refine kw_iconst (v := 0) dX12_sweep_71 (by decide) ?_
            refine kw_istore_n dX12_sweep_72 (Nat.le_of_ble_eq_true rfl) ?_
            exact loopB (ns_ s + 1) 0 (by omega) (by omega)
          · skip
            have hlt : j < 80 := nI_nle' (a := 80) (by decide) (by omega) c55
            refine kw_aload_n dX12_sweep_58 rfl ?_
            refine kw_get dX12_sweep_59 fl_X12_103 rfl rfl ?_
            refine kw_iload_n dX12_sweep_62 rfl ?_
            refine kw_iconst (v := 0) dX12_sweep_63 (by decide) ?_
            refine kw_top (v' := pi_ (b2 false)) rfl ?_
            refine kw_zastN dX12_sweep_64 rfl hlt (by decide) ?_
            refine kw_heq (h' := hM (sGb Q 1 (rnone (j + 1) (mk_ Q))) k) ((uma_26 (sGb Q 1 (rnone j (mk_ Q))) k j false).trans (by rw [sGb2]; show hM (sGb Q 1 (va_up (rnone j (mk_ Q)) j false)) k = _; rw [rnone_s])) ?_
            refine kw_iinc dX12_sweep_65 rfl (nI_i j) ?_
            refine kw_goto (tgt := 52) dX12_sweep_68 (by decide) ?_
            exact ih (j + 1) (by omega) (by omega)
      refine kw_aload_n dX12_sweep_20 rfl ?_
      refine kw_callVf (As := []) (n_write1 l s k hcut) dX12_sweep_21 cl_X12_191 rfl rfl rfl rfl (Nat.le_of_ble_eq_true rfl) ⟨(Nat.le_of_ble_eq_true rfl), (Nat.le_of_ble_eq_true rfl), (Nat.le_of_ble_eq_true rfl), (Nat.le_of_ble_eq_true rfl)⟩ ?_
      rw [← ht]
      refine kw_if_ne (tgt := 30) dX12_sweep_24 (by decide) (fun c24 => ?_) (fun c24 => ?_)
      · skip
        refine kw_aload_n dX12_sweep_30 rfl ?_
        refine kw_dup dX12_sweep_31 rfl ?_
        refine kw_get dX12_sweep_32 fl_X12_276 rfl rfl ?_
        refine kw_iconst (v := 1) dX12_sweep_35 (by decide) ?_
        refine kw_iadd dX12_sweep_36 ?_
        refine kw_top (v' := pi_ (nI (nsw_ t + 1))) (by rw [← nI_1]) ?_
        refine kw_put dX12_sweep_37 fl_X12_276 rfl (kw_ok_i _) (Nat.le_of_ble_eq_true rfl) ?_
        refine kw_heq (um_nsw t k (nsw_ t + 1)) ?_
        refine kw_aload_n dX12_sweep_40 rfl ?_
        refine kw_iconst (v := 0) dX12_sweep_41 (by decide) ?_
        refine kw_put dX12_sweep_42 fl_X12_264 rfl (kw_ok_i _) (Nat.le_of_ble_eq_true rfl) ?_
        refine kw_heq (um_rf _ k 0) ?_
        refine kw_aload_n dX12_sweep_45 rfl ?_
        refine kw_iconst (v := 0) dX12_sweep_46 (by decide) ?_
        refine kw_put dX12_sweep_47 fl_X12_215 rfl (kw_ok_i _) (Nat.le_of_ble_eq_true rfl) ?_
        refine kw_heq (um_rt _ k 0) ?_
        rw [← hQ]
        refine kw_iconst (v := 0) dX12_sweep_50 (by decide) ?_
        refine kw_istore_n dX12_sweep_51 (Nat.le_of_ble_eq_true rfl) ?_
        refine kw_heq (h' := hM (sGb Q 1 (rnone 0 (mk_ Q))) k) (by rw [rnone_0, sGb_id]) ?_
        exact loopA 81 0 (by omega) (by omega)
      · skip
        exact absurd c24 (by decide)
    · skip
      have e14 : ¬ ph_ s = 0 := fun q => c14 (by rw [q]; rfl)
      refine kw_bipush (v := (-103)) dX12_sweep_17 (by decide) ?_
      exact kw_iret dX12_sweep_19 rfl (Nat.le_of_ble_eq_true rfl) (Nat.le_of_ble_eq_true rfl) (hK _ _ _ ⟨rfl, by rw [c_sweep, if_neg hd, if_neg e14], by rw [c_sweep, if_neg hd, if_neg e14]; exact ⟨hMI, rfl⟩⟩)
  · skip
    have hd := b2_n0.mp c4
    refine kw_bipush (v := (-106)) dX12_sweep_7 (by decide) ?_
    exact kw_iret dX12_sweep_9 rfl (Nat.le_of_ble_eq_true rfl) (Nat.le_of_ble_eq_true rfl) (hK _ _ _ ⟨rfl, by rw [c_sweep, if_pos hd], by rw [c_sweep, if_pos hd]; exact ⟨hMI, rfl⟩⟩)
