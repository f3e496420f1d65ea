/-! THE MODEL'S MIRRORS AND AUDIT -/
theorem kB_MI {s : SG} {k : KG} (h : MI s k) (i : Nat) (r : Nat → Bool) : MI s (kB k i r) := h
set_option maxHeartbeats 4000000 in
set_option maxRecDepth 100000 in
theorem n_isMir (l : Launch) (s : SG) (k : KG) (x : Int32) : kw_F l yX12_isMirror cX12_isMirror 2 (Option.some Jvm.ClassFile.FieldType.boolean) { frames := 0, cells := 0, slots := 0, locals := 0 } [pr_ (40, 0), pi_ x] (hM s k) (some (pi_ (b2 (decide (x = 0) || decide (x = 1))))) (hM s k) := by
  refine kw_M_of RX12 "isMirror" [some (pr_ (40, 0)), some (pi_ x)] (by decide) rfl rfl rfl (Nat.le_of_ble_eq_true rfl) ?_
  intro D ad A
  refine kw_Kgen (fun K hK => ?_)
  refine kw_iload_n dX12_isMirror_0 rfl ?_
  refine kw_if_eq (tgt := 9) dX12_isMirror_1 (by decide) (fun c1 => ?_) (fun c1 => ?_)
  · skip
    refine kw_iconst (v := 1) dX12_isMirror_9 (by decide) ?_
    refine kw_goto (tgt := 14) dX12_isMirror_10 (by decide) ?_
    exact kw_zret dX12_isMirror_14 rfl (by decide) (Nat.le_of_ble_eq_true rfl) (Nat.le_of_ble_eq_true rfl) (hK _ _ _ ⟨rfl, by rw [decide_eq_true c1]; rfl, rfl⟩)
  · skip
    refine kw_iload_n dX12_isMirror_4 rfl ?_
    refine kw_iconst (v := 1) dX12_isMirror_5 (by decide) ?_
    refine kw_icmp_ne (tgt := 13) dX12_isMirror_6 (by decide) (fun c6 => ?_) (fun c6 => ?_)
    · skip
      refine kw_iconst (v := 0) dX12_isMirror_13 (by decide) ?_
      exact kw_zret dX12_isMirror_14 rfl (by decide) (Nat.le_of_ble_eq_true rfl) (Nat.le_of_ble_eq_true rfl) (hK _ _ _ ⟨rfl, by rw [decide_eq_false c1, decide_eq_false c6]; rfl, rfl⟩)
    · skip
      refine kw_iconst (v := 1) dX12_isMirror_9 (by decide) ?_
      refine kw_goto (tgt := 14) dX12_isMirror_10 (by decide) ?_
      exact kw_zret dX12_isMirror_14 rfl (by decide) (Nat.le_of_ble_eq_true rfl) (Nat.le_of_ble_eq_true rfl) (hK _ _ _ ⟨rfl, by rw [decide_eq_true c6, Bool.or_true]; rfl, rfl⟩)
theorem mir_ok {x : Int32} (h : (decide (x = 0) || decide (x = 1)) = true) : ∃ j, j < 2 ∧ x = nI j := by
  rw [Bool.or_eq_true] at h
  rcases h with h | h
  · exact ⟨0, by decide, of_decide_eq_true h⟩
  · exact ⟨1, by decide, of_decide_eq_true h⟩
theorem mir_no {x : Int32} (h : (decide (x = 0) || decide (x = 1)) = false) : x < 0 ∨ 2 ≤ x := by
  by_cases e : x < 0
  · exact Or.inl e
  · obtain ⟨j, hj, rfl⟩ := nI_of e
    rw [Bool.or_eq_false_iff] at h
    have h0 : j ≠ 0 := fun q => of_decide_eq_false h.1 (by rw [q]; rfl)
    have h1 : j ≠ 1 := fun q => of_decide_eq_false h.2 (by rw [q]; rfl)
    exact Or.inr (nI_le (a := 2) (by omega) hj)
theorem mir_in {j : Nat} (hj : j < 2) : ¬ (nI j < 0 ∨ 2 ≤ nI j) := fun q => q.elim (nI_pos (by omega)) (fun z => absurd (nI_le' (a := 2) (by decide) (by omega) z) (by omega))
set_option maxHeartbeats 4000000 in
set_option maxRecDepth 100000 in
theorem M_follow (l : Launch) (s : SG) (k : KG) (hh : nh_ s ≤ 240) (hd : ∀ m, m < 2 → md_ s m ≤ nh_ s) (x n : Int32) : kw_F l yX12_follow cX12_follow 3 (Option.some Jvm.ClassFile.FieldType.int) { frames := 1, cells := 0, slots := 0, locals := 25 } [pr_ (40, 0), pi_ x, pi_ n] (hM s k) (some (pi_ (a_follow s x n).1)) (hM (a_follow s x n).2 k) := by
  refine kw_M_of RX12 "follow" [some (pr_ (40, 0)), some (pi_ x), some (pi_ n)] (by decide) rfl rfl rfl (Nat.le_of_ble_eq_true rfl) ?_
  intro D ad A
  refine kw_Kgen (fun K hK => ?_)
  refine kw_aload_n dX12_follow_0 rfl ?_
  refine kw_iload_n dX12_follow_1 rfl ?_
  refine kw_callVf (As := [pi_ x]) (n_isMir l s k x) dX12_follow_2 cl_X12_339 rfl rfl rfl rfl (Nat.le_of_ble_eq_true rfl) ⟨(Nat.le_of_ble_eq_true rfl), (Nat.le_of_ble_eq_true rfl), (Nat.le_of_ble_eq_true rfl), (Nat.le_of_ble_eq_true rfl)⟩ ?_
  refine kw_if_ne (tgt := 11) dX12_follow_5 (by decide) (fun c5 => ?_) (fun c5 => ?_)
  · skip
    obtain ⟨j, hj, rfl⟩ := mir_ok (b2_n0.mp c5)
    rw [a_follow, if_neg (mir_in hj), show cl_ (nI j) = j from nI_clamp (by omega)] at hK
    have hdj := hd j hj
    refine kw_iload_n dX12_follow_11 rfl ?_
    refine kw_i2l dX12_follow_12 ?_
    refine kw_lconst (v := 0) dX12_follow_13 (by decide) ?_
    refine kw_top (v' := pl_ ((0 : Int32).toInt64)) (by decide) ?_
    refine kw_ldc2 dX12_follow_14 kt_1058 ?_
    refine kw_top (v' := pl_ ((500 : Int32).toInt64)) (by decide) ?_
    refine kw_callSf (As := [pl_ n.toInt64, pl_ (0 : Int32).toInt64, pl_ (500 : Int32).toInt64]) (n_inI l _ n 0 500) dX12_follow_17 cl_X12_144 rfl rfl (Nat.le_of_ble_eq_true rfl) ⟨(Nat.le_of_ble_eq_true rfl), (Nat.le_of_ble_eq_true rfl), (Nat.le_of_ble_eq_true rfl), (Nat.le_of_ble_eq_true rfl)⟩ ?_
    refine kw_if_ne (tgt := 26) dX12_follow_20 (by decide) (fun c20 => ?_) (fun c20 => ?_)
    · skip
      obtain ⟨e20, e21⟩ := inB_t (b2_n0.mp c20)
      obtain ⟨y, hy31, rfl⟩ := nI_of (x := n) (Int32.not_lt.mpr e20)
      have hy5 : y ≤ 500 := nI_le' (b := 500) hy31 (by decide) e21
      rw [if_neg (fun q => q.elim (fun z => Int32.not_lt.mpr e20 z) (fun z => Int32.not_lt.mpr e21 z)), show cl_ (nI y) = y from nI_clamp hy31] at hK
      refine kw_aload_n dX12_follow_26 rfl ?_
      refine kw_get dX12_follow_27 fl_X12_76 rfl rfl ?_
      refine kw_iload_n dX12_follow_30 rfl ?_
      refine kw_aload_n dX12_follow_31 rfl ?_
      refine kw_get dX12_follow_32 fl_X12_76 rfl rfl ?_
      refine kw_iload_n dX12_follow_35 rfl ?_
      refine kw_ialdN dX12_follow_36 rfl hj (by decide) ?_
      refine kw_iload_n dX12_follow_37 rfl ?_
      refine kw_iadd dX12_follow_38 ?_
      refine kw_top (v' := pi_ (nI (md_ s j + y))) (by rw [nI_add]) ?_
      refine kw_aload_n dX12_follow_39 rfl ?_
      refine kw_get dX12_follow_40 fl_X12_137 rfl rfl ?_
      refine kw_icmp_ge (tgt := 57) dX12_follow_43 (by decide) (fun c43 => ?_) (fun c43 => ?_)
      · skip
        have e43 : nh_ s ≤ md_ s j + y := nI_le' (by omega) (by omega) c43
        have em : min (nh_ s) (md_ s j + y) = nh_ s := by omega
        rw [em] at hK
        refine kw_aload_n dX12_follow_57 rfl ?_
        refine kw_get dX12_follow_58 fl_X12_137 rfl rfl ?_
        refine kw_iastN dX12_follow_61 rfl hj (by decide) ?_
        refine kw_heq (uma_17 s k j (nh_ s)) ?_
        refine kw_aload_n dX12_follow_62 rfl ?_
        refine kw_get dX12_follow_63 fl_X12_137 rfl rfl ?_
        refine kw_aload_n dX12_follow_66 rfl ?_
        refine kw_get dX12_follow_67 fl_X12_76 rfl rfl ?_
        refine kw_iload_n dX12_follow_70 rfl ?_
        refine kw_ialdN dX12_follow_71 rfl hj (by decide) ?_
        refine kw_top (v' := pi_ (nI (nh_ s))) (congrArg (fun q => pi_ (nI q)) (va_s _ _ _)) ?_
        refine kw_isub dX12_follow_72 ?_
        refine kw_top (v' := pi_ (nI (nh_ s - nh_ s))) (congrArg pi_ (pk_sub (a := nh_ s) (by omega))) ?_
        exact kw_iret dX12_follow_73 rfl (Nat.le_of_ble_eq_true rfl) (Nat.le_of_ble_eq_true rfl) (hK _ _ _ ⟨rfl, rfl, rfl⟩)
      · skip
        have e43 : md_ s j + y < nh_ s := nI_nle' (by omega) (by omega) c43
        have em : min (nh_ s) (md_ s j + y) = md_ s j + y := by omega
        rw [em] at hK
        refine kw_aload_n dX12_follow_46 rfl ?_
        refine kw_get dX12_follow_47 fl_X12_76 rfl rfl ?_
        refine kw_iload_n dX12_follow_50 rfl ?_
        refine kw_ialdN dX12_follow_51 rfl hj (by decide) ?_
        refine kw_iload_n dX12_follow_52 rfl ?_
        refine kw_iadd dX12_follow_53 ?_
        refine kw_top (v' := pi_ (nI (md_ s j + y))) (by rw [nI_add]) ?_
        refine kw_goto (tgt := 61) dX12_follow_54 (by decide) ?_
        refine kw_iastN dX12_follow_61 rfl hj (by decide) ?_
        refine kw_heq (uma_17 s k j (md_ s j + y)) ?_
        refine kw_aload_n dX12_follow_62 rfl ?_
        refine kw_get dX12_follow_63 fl_X12_137 rfl rfl ?_
        refine kw_aload_n dX12_follow_66 rfl ?_
        refine kw_get dX12_follow_67 fl_X12_76 rfl rfl ?_
        refine kw_iload_n dX12_follow_70 rfl ?_
        refine kw_ialdN dX12_follow_71 rfl hj (by decide) ?_
        refine kw_top (v' := pi_ (nI (md_ s j + y))) (congrArg (fun q => pi_ (nI q)) (va_s _ _ _)) ?_
        refine kw_isub dX12_follow_72 ?_
        refine kw_top (v' := pi_ (nI (nh_ s - (md_ s j + y)))) (congrArg pi_ (pk_sub (a := nh_ s) (by omega))) ?_
        exact kw_iret dX12_follow_73 rfl (Nat.le_of_ble_eq_true rfl) (Nat.le_of_ble_eq_true rfl) (hK _ _ _ ⟨rfl, rfl, rfl⟩)
    · skip
      refine kw_bipush (v := (-102)) dX12_follow_23 (by decide) ?_
      exact kw_iret dX12_follow_25 rfl (Nat.le_of_ble_eq_true rfl) (Nat.le_of_ble_eq_true rfl) (hK _ _ _ ⟨rfl, by rw [if_pos (inB_f (b2_0.mp c20))], by rw [if_pos (inB_f (b2_0.mp c20))]⟩)
  · skip
    refine kw_bipush (v := (-101)) dX12_follow_8 (by decide) ?_
    exact kw_iret dX12_follow_10 rfl (Nat.le_of_ble_eq_true rfl) (Nat.le_of_ble_eq_true rfl) (hK _ _ _ ⟨rfl, by rw [a_follow, if_pos (mir_no (b2_0.mp c5))], by rw [a_follow, if_pos (mir_no (b2_0.mp c5))]⟩)
set_option maxHeartbeats 4000000 in
set_option maxRecDepth 100000 in
theorem n_mirHas0 (l : Launch) (s : SG) (k : KG) (hh : histOk s) (j : Nat) (hj : j < 2) (hd : md_ s j ≤ nh_ s) (w : Nat) (hw : w < 80) : kw_F l yX12_mirrorHas cX12_mirrorHas 6 (Option.some Jvm.ClassFile.FieldType.boolean) { frames := 0, cells := 0, slots := 0, locals := 0 } [pr_ (40, 0), pi_ (nI j), pi_ (nI 0), pi_ (nI w)] (hM s k) (some (pi_ (b2 ((mirS s j).1 w)))) (hM s k) := by
  refine kw_M_of RX12 "mirrorHas" [some (pr_ (40, 0)), some (pi_ (nI j)), some (pi_ (nI 0)), some (pi_ (nI w)), none, none] (by decide) rfl rfl rfl (Nat.le_of_ble_eq_true rfl) ?_
  intro D ad A
  refine kw_Kgen (fun K hK => ?_)
  have hn240 := hh.1
  have loop : ∀ (n_ : Nat) (i : Nat), md_ s j - i < n_ → i ≤ md_ s j → kw_G l D cX12_mirrorHas RX12 (Option.some Jvm.ClassFile.FieldType.boolean) "mirrorHas" { frames := 0, cells := 0, slots := 0, locals := 0 } A K ad (hM s k) 0 0 6 [some (pr_ (40, 0)), some (pi_ (nI j)), some (pi_ (nI 0)), some (pi_ (nI w)), some (pi_ (b2 ((mrep s i 0 (fun _ => false, fun _ => false)).1 w))), some (pi_ (nI i))] [] := by
    intro n_
    induction n_ with
    | zero =>
      intro i hm_
      exact absurd hm_ (Nat.not_lt_zero _)
    | succ n_ ih =>
      intro i hm_ hi
      refine kw_iload dX12_mirrorHas_6 rfl ?_
      refine kw_aload_n dX12_mirrorHas_8 rfl ?_
      refine kw_get dX12_mirrorHas_9 fl_X12_76 rfl rfl ?_
      refine kw_iload_n dX12_mirrorHas_12 rfl ?_
      refine kw_ialdN dX12_mirrorHas_13 rfl hj (by decide) ?_
      refine kw_icmp_ge (tgt := 76) dX12_mirrorHas_14 (by decide) (fun c14 => ?_) (fun c14 => ?_)
      · skip
        have e : i = md_ s j := Nat.le_antisymm hi (nI_le' (by omega) (by omega) c14)
        rw [e]
        refine kw_iload dX12_mirrorHas_76 rfl ?_
        exact kw_zret dX12_mirrorHas_78 rfl (b2_nar _) (Nat.le_of_ble_eq_true rfl) (Nat.le_of_ble_eq_true rfl) (hK _ _ _ ⟨rfl, rfl, rfl⟩)
      · skip
        have hlt : i < md_ s j := nI_nle' (by omega) (by omega) c14
        obtain ⟨hk3, hk1, hk2⟩ := hh.2 i (by omega)
        have hw80 : hw_ s i < 80 := by by_cases q : hk_ s i ≤ 1; exact hk1 q; have := hk2 (by omega); omega
        refine kw_aload_n dX12_mirrorHas_17 rfl ?_
        refine kw_get dX12_mirrorHas_18 fl_X12_73 rfl rfl ?_
        refine kw_iload dX12_mirrorHas_21 rfl ?_
        refine kw_ialdN dX12_mirrorHas_23 rfl (by omega) (by decide) ?_
        refine kw_iload_n dX12_mirrorHas_24 rfl ?_
        refine kw_icmp_ne (tgt := 70) dX12_mirrorHas_25 (by decide) (fun c25 => ?_) (fun c25 => ?_)
        · skip
          have e25 : hw_ s i ≠ w := nI_ne' (by omega) (by omega) c25
          have eq9 : (mrep s (i + 1) 0 (fun _ => false, fun _ => false)).1 w = (mrep s i 0 (fun _ => false, fun _ => false)).1 w := by
            rw [mrep_end]
            unfold mone
            split
            · exact va_n _ _ (fun q => e25 q.symm)
            · rfl
          refine kw_iinc dX12_mirrorHas_70 rfl (nI_i i) ?_
          refine kw_goto (tgt := 6) dX12_mirrorHas_73 (by decide) ?_
          refine kw_lvle (lv' := [some (pr_ (40, 0)), some (pi_ (nI j)), some (pi_ (nI 0)), some (pi_ (nI w)), some (pi_ (b2 ((mrep s (i + 1) 0 (fun _ => false, fun _ => false)).1 w))), some (pi_ (nI (i + 1)))]) (by rw [eq9]; exact kw_le_s (kw_le_s (kw_le_s (kw_le_s (kw_le_s (kw_le_s kw_le_0)))))) ?_
          exact ih (i + 1) (by omega) (by omega)
        · skip
          have e25 : hw_ s i = w := nI_eq' (by omega) (by omega) c25
          refine kw_aload_n dX12_mirrorHas_28 rfl ?_
          refine kw_get dX12_mirrorHas_29 fl_X12_70 rfl rfl ?_
          refine kw_iload dX12_mirrorHas_32 rfl ?_
          refine kw_ialdN dX12_mirrorHas_34 rfl (by omega) (by decide) ?_
          refine kw_iload_n dX12_mirrorHas_35 rfl ?_
          refine kw_icmp_eq (tgt := 52) dX12_mirrorHas_36 (by decide) (fun c36 => ?_) (fun c36 => ?_)
          · skip
            have e36 : hk_ s i = 0 := nI_eq' (by omega) (by omega) c36
            have eq9 : (mrep s (i + 1) 0 (fun _ => false, fun _ => false)).1 w = true := by
              rw [mrep_end]
              unfold mone
              rw [if_pos (Or.inl e36), ← e25]
              show va_up _ (hw_ s i) _ (hw_ s i) = _
              rw [va_s, e36]
              rfl
            refine kw_aload_n dX12_mirrorHas_52 rfl ?_
            refine kw_get dX12_mirrorHas_53 fl_X12_70 rfl rfl ?_
            refine kw_iload dX12_mirrorHas_56 rfl ?_
            refine kw_ialdN dX12_mirrorHas_58 rfl (by omega) (by decide) ?_
            refine kw_iload_n dX12_mirrorHas_59 rfl ?_
            refine kw_icmp_ne (tgt := 67) dX12_mirrorHas_60 (by decide) (fun c60 => ?_) (fun c60 => ?_)
            · skip
              exact absurd c36 c60
            · skip
              refine kw_iconst (v := 1) dX12_mirrorHas_63 (by decide) ?_
              refine kw_top (v' := pi_ (b2 true)) rfl ?_
              refine kw_goto (tgt := 68) dX12_mirrorHas_64 (by decide) ?_
              refine kw_istore dX12_mirrorHas_68 (Nat.le_of_ble_eq_true rfl) ?_
              refine kw_iinc dX12_mirrorHas_70 rfl (nI_i i) ?_
              refine kw_goto (tgt := 6) dX12_mirrorHas_73 (by decide) ?_
              refine kw_lvle (lv' := [some (pr_ (40, 0)), some (pi_ (nI j)), some (pi_ (nI 0)), some (pi_ (nI w)), some (pi_ (b2 ((mrep s (i + 1) 0 (fun _ => false, fun _ => false)).1 w))), some (pi_ (nI (i + 1)))]) (by rw [eq9]; exact kw_le_s (kw_le_s (kw_le_s (kw_le_s (kw_le_s (kw_le_s kw_le_0)))))) ?_
              exact ih (i + 1) (by omega) (by omega)
          · skip
            have e36 : hk_ s i ≠ 0 := nI_ne' (by omega) (by omega) c36
            refine kw_aload_n dX12_mirrorHas_39 rfl ?_
            refine kw_get dX12_mirrorHas_40 fl_X12_70 rfl rfl ?_
            refine kw_iload dX12_mirrorHas_43 rfl ?_
            refine kw_ialdN dX12_mirrorHas_45 rfl (by omega) (by decide) ?_
            refine kw_iload_n dX12_mirrorHas_46 rfl ?_
            refine kw_iconst (v := 1) dX12_mirrorHas_47 (by decide) ?_
            refine kw_iadd dX12_mirrorHas_48 ?_
            refine kw_top (v' := pi_ (nI 1)) rfl ?_
            refine kw_icmp_ne (tgt := 70) dX12_mirrorHas_49 (by decide) (fun c49 => ?_) (fun c49 => ?_)
            · skip
              have e49 : hk_ s i ≠ 1 := nI_ne' (by omega) (by omega) c49
              have eq9 : (mrep s (i + 1) 0 (fun _ => false, fun _ => false)).1 w = (mrep s i 0 (fun _ => false, fun _ => false)).1 w := by
                rw [mrep_end]
                unfold mone
                rw [if_neg (fun q => q.elim e36 e49)]
              refine kw_iinc dX12_mirrorHas_70 rfl (nI_i i) ?_
              refine kw_goto (tgt := 6) dX12_mirrorHas_73 (by decide) ?_
              refine kw_lvle (lv' := [some (pr_ (40, 0)), some (pi_ (nI j)), some (pi_ (nI 0)), some (pi_ (nI w)), some (pi_ (b2 ((mrep s (i + 1) 0 (fun _ => false, fun _ => false)).1 w))), some (pi_ (nI (i + 1)))]) (by rw [eq9]; exact kw_le_s (kw_le_s (kw_le_s (kw_le_s (kw_le_s (kw_le_s kw_le_0)))))) ?_
              exact ih (i + 1) (by omega) (by omega)
            · skip
              have e49 : hk_ s i = 1 := nI_eq' (by omega) (by omega) c49
              have eq9 : (mrep s (i + 1) 0 (fun _ => false, fun _ => false)).1 w = false := by
                rw [mrep_end]
                unfold mone
                rw [if_pos (Or.inr e49), ← e25]
                show va_up _ (hw_ s i) _ (hw_ s i) = _
                rw [va_s, e49]
                rfl
              refine kw_aload_n dX12_mirrorHas_52 rfl ?_
              refine kw_get dX12_mirrorHas_53 fl_X12_70 rfl rfl ?_
              refine kw_iload dX12_mirrorHas_56 rfl ?_
              refine kw_ialdN dX12_mirrorHas_58 rfl (by omega) (by decide) ?_
              refine kw_iload_n dX12_mirrorHas_59 rfl ?_
              refine kw_icmp_ne (tgt := 67) dX12_mirrorHas_60 (by decide) (fun c60 => ?_) (fun c60 => ?_)
              · skip
                refine kw_iconst (v := 0) dX12_mirrorHas_67 (by decide) ?_
                refine kw_top (v' := pi_ (b2 false)) rfl ?_
                refine kw_istore dX12_mirrorHas_68 (Nat.le_of_ble_eq_true rfl) ?_
                refine kw_iinc dX12_mirrorHas_70 rfl (nI_i i) ?_
                refine kw_goto (tgt := 6) dX12_mirrorHas_73 (by decide) ?_
                refine kw_lvle (lv' := [some (pr_ (40, 0)), some (pi_ (nI j)), some (pi_ (nI 0)), some (pi_ (nI w)), some (pi_ (b2 ((mrep s (i + 1) 0 (fun _ => false, fun _ => false)).1 w))), some (pi_ (nI (i + 1)))]) (by rw [eq9]; exact kw_le_s (kw_le_s (kw_le_s (kw_le_s (kw_le_s (kw_le_s kw_le_0)))))) ?_
                exact ih (i + 1) (by omega) (by omega)
              · skip
                exact absurd c60 c36
  refine kw_iconst (v := 0) dX12_mirrorHas_0 (by decide) ?_
  refine kw_istore dX12_mirrorHas_1 (Nat.le_of_ble_eq_true rfl) ?_
  refine kw_iconst (v := 0) dX12_mirrorHas_3 (by decide) ?_
  refine kw_istore dX12_mirrorHas_4 (Nat.le_of_ble_eq_true rfl) ?_
  exact loop (md_ s j + 1) 0 (by omega) (by omega)
set_option maxHeartbeats 4000000 in
set_option maxRecDepth 100000 in
theorem n_mirHas2 (l : Launch) (s : SG) (k : KG) (hh : histOk s) (j : Nat) (hj : j < 2) (hd : md_ s j ≤ nh_ s) (w : Nat) (hw : w < 80) : kw_F l yX12_mirrorHas cX12_mirrorHas 6 (Option.some Jvm.ClassFile.FieldType.boolean) { frames := 0, cells := 0, slots := 0, locals := 0 } [pr_ (40, 0), pi_ (nI j), pi_ (nI 2), pi_ (nI w)] (hM s k) (some (pi_ (b2 ((mirS s j).2 w)))) (hM s k) := by
  refine kw_M_of RX12 "mirrorHas" [some (pr_ (40, 0)), some (pi_ (nI j)), some (pi_ (nI 2)), some (pi_ (nI w)), none, none] (by decide) rfl rfl rfl (Nat.le_of_ble_eq_true rfl) ?_
  intro D ad A
  refine kw_Kgen (fun K hK => ?_)
  have hn240 := hh.1
  have loop : ∀ (n_ : Nat) (i : Nat), md_ s j - i < n_ → i ≤ md_ s j → kw_G l D cX12_mirrorHas RX12 (Option.some Jvm.ClassFile.FieldType.boolean) "mirrorHas" { frames := 0, cells := 0, slots := 0, locals := 0 } A K ad (hM s k) 0 0 6 [some (pr_ (40, 0)), some (pi_ (nI j)), some (pi_ (nI 2)), some (pi_ (nI w)), some (pi_ (b2 ((mrep s i 0 (fun _ => false, fun _ => false)).2 w))), some (pi_ (nI i))] [] := by
    intro n_
    induction n_ with
    | zero =>
      intro i hm_
      exact absurd hm_ (Nat.not_lt_zero _)
    | succ n_ ih =>
      intro i hm_ hi
      refine kw_iload dX12_mirrorHas_6 rfl ?_
      refine kw_aload_n dX12_mirrorHas_8 rfl ?_
      refine kw_get dX12_mirrorHas_9 fl_X12_76 rfl rfl ?_
      refine kw_iload_n dX12_mirrorHas_12 rfl ?_
      refine kw_ialdN dX12_mirrorHas_13 rfl hj (by decide) ?_
      refine kw_icmp_ge (tgt := 76) dX12_mirrorHas_14 (by decide) (fun c14 => ?_) (fun c14 => ?_)
      · skip
        have e : i = md_ s j := Nat.le_antisymm hi (nI_le' (by omega) (by omega) c14)
        rw [e]
        refine kw_iload dX12_mirrorHas_76 rfl ?_
        exact kw_zret dX12_mirrorHas_78 rfl (b2_nar _) (Nat.le_of_ble_eq_true rfl) (Nat.le_of_ble_eq_true rfl) (hK _ _ _ ⟨rfl, rfl, rfl⟩)
      · skip
        have hlt : i < md_ s j := nI_nle' (by omega) (by omega) c14
        obtain ⟨hk3, hk1, hk2⟩ := hh.2 i (by omega)
        have hw80 : hw_ s i < 80 := by by_cases q : hk_ s i ≤ 1; exact hk1 q; have := hk2 (by omega); omega
        refine kw_aload_n dX12_mirrorHas_17 rfl ?_
        refine kw_get dX12_mirrorHas_18 fl_X12_73 rfl rfl ?_
        refine kw_iload dX12_mirrorHas_21 rfl ?_
        refine kw_ialdN dX12_mirrorHas_23 rfl (by omega) (by decide) ?_
        refine kw_iload_n dX12_mirrorHas_24 rfl ?_
        refine kw_icmp_ne (tgt := 70) dX12_mirrorHas_25 (by decide) (fun c25 => ?_) (fun c25 => ?_)
        · skip
          have e25 : hw_ s i ≠ w := nI_ne' (by omega) (by omega) c25
          have eq9 : (mrep s (i + 1) 0 (fun _ => false, fun _ => false)).2 w = (mrep s i 0 (fun _ => false, fun _ => false)).2 w := by
            rw [mrep_end]
            unfold mone
            split
            · rfl
            · exact va_n _ _ (fun q => e25 q.symm)
          refine kw_iinc dX12_mirrorHas_70 rfl (nI_i i) ?_
          refine kw_goto (tgt := 6) dX12_mirrorHas_73 (by decide) ?_
          refine kw_lvle (lv' := [some (pr_ (40, 0)), some (pi_ (nI j)), some (pi_ (nI 2)), some (pi_ (nI w)), some (pi_ (b2 ((mrep s (i + 1) 0 (fun _ => false, fun _ => false)).2 w))), some (pi_ (nI (i + 1)))]) (by rw [eq9]; exact kw_le_s (kw_le_s (kw_le_s (kw_le_s (kw_le_s (kw_le_s kw_le_0)))))) ?_
          exact ih (i + 1) (by omega) (by omega)
        · skip
          have e25 : hw_ s i = w := nI_eq' (by omega) (by omega) c25
          refine kw_aload_n dX12_mirrorHas_28 rfl ?_
          refine kw_get dX12_mirrorHas_29 fl_X12_70 rfl rfl ?_
          refine kw_iload dX12_mirrorHas_32 rfl ?_
          refine kw_ialdN dX12_mirrorHas_34 rfl (by omega) (by decide) ?_
          refine kw_iload_n dX12_mirrorHas_35 rfl ?_
          refine kw_icmp_eq (tgt := 52) dX12_mirrorHas_36 (by decide) (fun c36 => ?_) (fun c36 => ?_)
          · skip
            have e36 : hk_ s i = 2 := nI_eq' (by omega) (by omega) c36
            have eq9 : (mrep s (i + 1) 0 (fun _ => false, fun _ => false)).2 w = true := by
              rw [mrep_end]
              unfold mone
              rw [if_neg (by omega), ← e25]
              show va_up _ (hw_ s i) _ (hw_ s i) = _
              rw [va_s, e36]
              rfl
            refine kw_aload_n dX12_mirrorHas_52 rfl ?_
            refine kw_get dX12_mirrorHas_53 fl_X12_70 rfl rfl ?_
            refine kw_iload dX12_mirrorHas_56 rfl ?_
            refine kw_ialdN dX12_mirrorHas_58 rfl (by omega) (by decide) ?_
            refine kw_iload_n dX12_mirrorHas_59 rfl ?_
            refine kw_icmp_ne (tgt := 67) dX12_mirrorHas_60 (by decide) (fun c60 => ?_) (fun c60 => ?_)
            · skip
              exact absurd c36 c60
            · skip
              refine kw_iconst (v := 1) dX12_mirrorHas_63 (by decide) ?_
              refine kw_top (v' := pi_ (b2 true)) rfl ?_
              refine kw_goto (tgt := 68) dX12_mirrorHas_64 (by decide) ?_
              refine kw_istore dX12_mirrorHas_68 (Nat.le_of_ble_eq_true rfl) ?_
              refine kw_iinc dX12_mirrorHas_70 rfl (nI_i i) ?_
              refine kw_goto (tgt := 6) dX12_mirrorHas_73 (by decide) ?_
              refine kw_lvle (lv' := [some (pr_ (40, 0)), some (pi_ (nI j)), some (pi_ (nI 2)), some (pi_ (nI w)), some (pi_ (b2 ((mrep s (i + 1) 0 (fun _ => false, fun _ => false)).2 w))), some (pi_ (nI (i + 1)))]) (by rw [eq9]; exact kw_le_s (kw_le_s (kw_le_s (kw_le_s (kw_le_s (kw_le_s kw_le_0)))))) ?_
              exact ih (i + 1) (by omega) (by omega)
          · skip
            have e36 : hk_ s i ≠ 2 := nI_ne' (by omega) (by omega) c36
            refine kw_aload_n dX12_mirrorHas_39 rfl ?_
            refine kw_get dX12_mirrorHas_40 fl_X12_70 rfl rfl ?_
            refine kw_iload dX12_mirrorHas_43 rfl ?_
            refine kw_ialdN dX12_mirrorHas_45 rfl (by omega) (by decide) ?_
            refine kw_iload_n dX12_mirrorHas_46 rfl ?_
            refine kw_iconst (v := 1) dX12_mirrorHas_47 (by decide) ?_
            refine kw_iadd dX12_mirrorHas_48 ?_
            refine kw_top (v' := pi_ (nI 3)) rfl ?_
            refine kw_icmp_ne (tgt := 70) dX12_mirrorHas_49 (by decide) (fun c49 => ?_) (fun c49 => ?_)
            · skip
              have e49 : hk_ s i ≠ 3 := nI_ne' (by omega) (by omega) c49
              have eq9 : (mrep s (i + 1) 0 (fun _ => false, fun _ => false)).2 w = (mrep s i 0 (fun _ => false, fun _ => false)).2 w := by
                rw [mrep_end]
                unfold mone
                rw [if_pos (by omega)]
              refine kw_iinc dX12_mirrorHas_70 rfl (nI_i i) ?_
              refine kw_goto (tgt := 6) dX12_mirrorHas_73 (by decide) ?_
              refine kw_lvle (lv' := [some (pr_ (40, 0)), some (pi_ (nI j)), some (pi_ (nI 2)), some (pi_ (nI w)), some (pi_ (b2 ((mrep s (i + 1) 0 (fun _ => false, fun _ => false)).2 w))), some (pi_ (nI (i + 1)))]) (by rw [eq9]; exact kw_le_s (kw_le_s (kw_le_s (kw_le_s (kw_le_s (kw_le_s kw_le_0)))))) ?_
              exact ih (i + 1) (by omega) (by omega)
            · skip
              have e49 : hk_ s i = 3 := nI_eq' (by omega) (by omega) c49
              have eq9 : (mrep s (i + 1) 0 (fun _ => false, fun _ => false)).2 w = false := by
                rw [mrep_end]
                unfold mone
                rw [if_neg (by omega), ← e25]
                show va_up _ (hw_ s i) _ (hw_ s i) = _
                rw [va_s, e49]
                rfl
              refine kw_aload_n dX12_mirrorHas_52 rfl ?_
              refine kw_get dX12_mirrorHas_53 fl_X12_70 rfl rfl ?_
              refine kw_iload dX12_mirrorHas_56 rfl ?_
              refine kw_ialdN dX12_mirrorHas_58 rfl (by omega) (by decide) ?_
              refine kw_iload_n dX12_mirrorHas_59 rfl ?_
              refine kw_icmp_ne (tgt := 67) dX12_mirrorHas_60 (by decide) (fun c60 => ?_) (fun c60 => ?_)
              · skip
                refine kw_iconst (v := 0) dX12_mirrorHas_67 (by decide) ?_
                refine kw_top (v' := pi_ (b2 false)) rfl ?_
                refine kw_istore dX12_mirrorHas_68 (Nat.le_of_ble_eq_true rfl) ?_
                refine kw_iinc dX12_mirrorHas_70 rfl (nI_i i) ?_
                refine kw_goto (tgt := 6) dX12_mirrorHas_73 (by decide) ?_
                refine kw_lvle (lv' := [some (pr_ (40, 0)), some (pi_ (nI j)), some (pi_ (nI 2)), some (pi_ (nI w)), some (pi_ (b2 ((mrep s (i + 1) 0 (fun _ => false, fun _ => false)).2 w))), some (pi_ (nI (i + 1)))]) (by rw [eq9]; exact kw_le_s (kw_le_s (kw_le_s (kw_le_s (kw_le_s (kw_le_s kw_le_0)))))) ?_
                exact ih (i + 1) (by omega) (by omega)
              · skip
                exact absurd c60 c36
  refine kw_iconst (v := 0) dX12_mirrorHas_0 (by decide) ?_
  refine kw_istore dX12_mirrorHas_1 (Nat.le_of_ble_eq_true rfl) ?_
  refine kw_iconst (v := 0) dX12_mirrorHas_3 (by decide) ?_
  refine kw_istore dX12_mirrorHas_4 (Nat.le_of_ble_eq_true rfl) ?_
  exact loop (md_ s j + 1) 0 (by omega) (by omega)
set_option maxHeartbeats 4000000 in
set_option maxRecDepth 100000 in
theorem M_has (l : Launch) (s : SG) (k : KG) (hb : nb_ s ≤ 80) (hh : histOk s) (hd : ∀ m, m < 2 → md_ s m ≤ nh_ s) (hout : ∀ m, m < 2 → ∀ q, nb_ s ≤ q → (mirS s m).1 q = false) (x b : Int32) : kw_F l yX12_has cX12_has 3 (Option.some Jvm.ClassFile.FieldType.boolean) { frames := 1, cells := 0, slots := 0, locals := 25 } [pr_ (40, 0), pi_ x, pi_ b] (hM s k) (some (pi_ (b2 (a_has s x b)))) (hM s k) := by
  refine kw_M_of RX12 "has" [some (pr_ (40, 0)), some (pi_ x), some (pi_ b)] (by decide) rfl rfl rfl (Nat.le_of_ble_eq_true rfl) ?_
  intro D ad A
  refine kw_Kgen (fun K hK => ?_)
  refine kw_aload_n dX12_has_0 rfl ?_
  refine kw_iload_n dX12_has_1 rfl ?_
  refine kw_callVf (As := [pi_ x]) (n_isMir l s k x) dX12_has_2 cl_X12_339 rfl rfl rfl rfl (Nat.le_of_ble_eq_true rfl) ⟨(Nat.le_of_ble_eq_true rfl), (Nat.le_of_ble_eq_true rfl), (Nat.le_of_ble_eq_true rfl), (Nat.le_of_ble_eq_true rfl)⟩ ?_
  refine kw_if_eq (tgt := 38) dX12_has_5 (by decide) (fun c5 => ?_) (fun c5 => ?_)
  · skip
    have ea : a_has s x b = false := by unfold a_has; exact if_pos ((mir_no (b2_0.mp c5)).elim Or.inl (fun q => Or.inr (Or.inl q)))
    refine kw_iconst (v := 0) dX12_has_38 (by decide) ?_
    exact kw_zret dX12_has_39 rfl (by decide) (Nat.le_of_ble_eq_true rfl) (Nat.le_of_ble_eq_true rfl) (hK _ _ _ ⟨rfl, by rw [ea]; rfl, rfl⟩)
  · skip
    obtain ⟨j, hj, rfl⟩ := mir_ok (b2_n0.mp c5)
    refine kw_iload_n dX12_has_8 rfl ?_
    refine kw_i2l dX12_has_9 ?_
    refine kw_lconst (v := 0) dX12_has_10 (by decide) ?_
    refine kw_top (v' := pl_ ((0 : Int32).toInt64)) (by decide) ?_
    refine kw_aload_n dX12_has_11 rfl ?_
    refine kw_get dX12_has_12 fl_X12_156 rfl rfl ?_
    refine kw_iconst (v := 1) dX12_has_15 (by decide) ?_
    refine kw_isub dX12_has_16 ?_
    refine kw_i2l dX12_has_17 ?_
    refine kw_callSf (As := [pl_ b.toInt64, pl_ (0 : Int32).toInt64, pl_ (nI (nb_ s) - 1).toInt64]) (n_inI l _ b 0 (nI (nb_ s) - 1)) dX12_has_18 cl_X12_144 rfl rfl (Nat.le_of_ble_eq_true rfl) ⟨(Nat.le_of_ble_eq_true rfl), (Nat.le_of_ble_eq_true rfl), (Nat.le_of_ble_eq_true rfl), (Nat.le_of_ble_eq_true rfl)⟩ ?_
    refine kw_if_eq (tgt := 38) dX12_has_21 (by decide) (fun c21 => ?_) (fun c21 => ?_)
    · skip
      have ea : a_has s (nI j) b = false := by
        unfold a_has
        split
        · rfl
        · rename_i q
          rcases inB_out (by omega) (b2_0.mp c21) with z | z
          · exact absurd (Or.inr (Or.inr (Or.inl z))) q
          · obtain ⟨y, hy, rfl⟩ := nI_of (x := b) (fun z => q (Or.inr (Or.inr (Or.inl z))))
            rw [show cl_ (nI j) = j from nI_clamp (by omega), show cl_ (nI y) = y from nI_clamp hy]
            exact hout j hj y (nI_le' (by omega) hy z)
      refine kw_iconst (v := 0) dX12_has_38 (by decide) ?_
      exact kw_zret dX12_has_39 rfl (by decide) (Nat.le_of_ble_eq_true rfl) (Nat.le_of_ble_eq_true rfl) (hK _ _ _ ⟨rfl, by rw [ea]; rfl, rfl⟩)
    · skip
      obtain ⟨y, hy, rfl⟩ := inB_ix (by omega) (b2_n0.mp c21)
      have ea : a_has s (nI j) (nI y) = (mirS s j).1 y := by
        unfold a_has
        rw [if_neg (fun q => q.elim (nI_pos (by omega)) (fun q => q.elim (fun z => absurd (nI_le' (a := 2) (by decide) (by omega) z) (by omega)) (fun q => q.elim (nI_pos (by omega)) (fun z => absurd (nI_le' (a := 80) (by decide) (by omega) z) (by omega))))), show cl_ (nI j) = j from nI_clamp (by omega), show cl_ (nI y) = y from nI_clamp (by omega)]
      refine kw_aload_n dX12_has_24 rfl ?_
      refine kw_iload_n dX12_has_25 rfl ?_
      refine kw_iconst (v := (nI 0)) dX12_has_26 (by decide) ?_
      refine kw_iload_n dX12_has_27 rfl ?_
      refine kw_callVf (As := [pi_ (nI j), pi_ (nI 0), pi_ (nI y)]) (n_mirHas0 l s k hh j hj (hd j hj) y (by omega)) dX12_has_28 cl_X12_342 rfl rfl rfl rfl (Nat.le_of_ble_eq_true rfl) ⟨(Nat.le_of_ble_eq_true rfl), (Nat.le_of_ble_eq_true rfl), (Nat.le_of_ble_eq_true rfl), (Nat.le_of_ble_eq_true rfl)⟩ ?_
      refine kw_if_eq (tgt := 38) dX12_has_31 (by decide) (fun c31 => ?_) (fun c31 => ?_)
      · skip
        refine kw_iconst (v := 0) dX12_has_38 (by decide) ?_
        exact kw_zret dX12_has_39 rfl (by decide) (Nat.le_of_ble_eq_true rfl) (Nat.le_of_ble_eq_true rfl) (hK _ _ _ ⟨rfl, by rw [ea, b2_0.mp c31]; rfl, rfl⟩)
      · skip
        refine kw_iconst (v := 1) dX12_has_34 (by decide) ?_
        refine kw_goto (tgt := 39) dX12_has_35 (by decide) ?_
        exact kw_zret dX12_has_39 rfl (by decide) (Nat.le_of_ble_eq_true rfl) (Nat.le_of_ble_eq_true rfl) (hK _ _ _ ⟨rfl, by rw [ea, b2_n0.mp c31]; rfl, rfl⟩)
set_option maxHeartbeats 4000000 in
set_option maxRecDepth 100000 in
theorem n_lacks (l : Launch) (s : SG) (k : KG) (hMI : MI s k) (hb : nb_ s ≤ 80) (hkd : kidsOk s) (hro : rootOk s) (hh : histOk s) (j : Nat) (hj : j < 2) (hd : md_ s j ≤ nh_ s) (w : Nat) (hw : w < ns_ s) : kw_P l yX12_lacks cX12_lacks 6 (Option.some Jvm.ClassFile.FieldType.boolean) { frames := 1, cells := 0, slots := 0, locals := 25 } [pr_ (40, 0), pi_ (nI j), pi_ (nI w)] (hM s k) (fun r h' => r = some (pi_ (b2 (lackB s j w))) ∧ ∃ R, h' = hM s (kB k 0 R)) := by
  refine kw_M_of RX12 "lacks" [some (pr_ (40, 0)), some (pi_ (nI j)), some (pi_ (nI w)), none, none, none] (by decide) rfl rfl rfl (Nat.le_of_ble_eq_true rfl) ?_
  intro D ad A
  refine kw_Kgen (fun K hK => ?_)
  have hns := hro.1
  have hrm := (hro.2 w hw).1
  have loop : ∀ (n_ : Nat) (i : Nat) (R0 : Nat → Bool), rm_ s w - i < n_ → i ≤ rm_ s w → kw_G l D cX12_lacks RX12 (Option.some Jvm.ClassFile.FieldType.boolean) "lacks" { frames := 1, cells := 0, slots := 0, locals := 25 } A K ad (hM s (kB k 0 R0)) 0 0 5 [some (pr_ (40, 0)), some (pi_ (nI j)), some (pi_ (nI w)), some (pi_ (b2 (anyN (fun i => anyN (fun q => rC s (ro_ s w i) q && !(mirS s j).1 q) (nb_ s)) i))), some (pi_ (nI i)), none] [] := by
    intro n_
    induction n_ with
    | zero =>
      intro i R0 hm_
      exact absurd hm_ (Nat.not_lt_zero _)
    | succ n_ ih =>
      intro i R0 hm_ hi
      refine kw_iload dX12_lacks_5 rfl ?_
      refine kw_aload_n dX12_lacks_7 rfl ?_
      refine kw_get dX12_lacks_8 fl_X12_64 rfl rfl ?_
      refine kw_iload_n dX12_lacks_11 rfl ?_
      refine kw_ialdN dX12_lacks_12 rfl (by omega) (by decide) ?_
      refine kw_icmp_ge (tgt := 87) dX12_lacks_13 (by decide) (fun c13 => ?_) (fun c13 => ?_)
      · skip
        have e : i = rm_ s w := Nat.le_antisymm hi (nI_le' (by omega) (by omega) c13)
        rw [e]
        refine kw_iload_n dX12_lacks_87 rfl ?_
        exact kw_zret dX12_lacks_88 rfl (b2_nar _) (Nat.le_of_ble_eq_true rfl) (Nat.le_of_ble_eq_true rfl) (hK _ _ _ ⟨rfl, rfl, R0, rfl⟩)
      · skip
        have hlti : i < rm_ s w := nI_nle' (by omega) (by omega) c13
        have hrb := (hro.2 w hw).2 i hlti
        refine kw_aload_n dX12_lacks_16 rfl ?_
        refine kw_aload_n dX12_lacks_17 rfl ?_
        refine kw_get dX12_lacks_18 fl_X12_67 rfl rfl ?_
        refine kw_bipush (v := (nI 8)) dX12_lacks_21 (by decide) ?_
        refine kw_iload_n dX12_lacks_23 rfl ?_
        refine kw_imul dX12_lacks_24 ?_
        refine kw_top (v' := pi_ (nI (8 * w))) (by rw [nI_mul]) ?_
        refine kw_iload dX12_lacks_25 rfl ?_
        refine kw_iadd dX12_lacks_27 ?_
        refine kw_top (v' := pi_ (nI (8 * w + i))) (by rw [nI_add]) ?_
        refine kw_ialdN dX12_lacks_28 rfl (by omega) (by decide) ?_
        refine kw_top (v' := pi_ (nI (ro_ s w i))) (by rw [← hMI.2.1 w hw i hlti]) ?_
        refine kw_callV (As := [pi_ (nI (ro_ s w i))]) (n_reach l s (kB k 0 R0) hb hkd (kB_MI hMI 0 R0) (ro_ s w i) hrb) dX12_lacks_29 cl_X12_208 rfl rfl rfl rfl (Nat.le_of_ble_eq_true rfl) ⟨(Nat.le_of_ble_eq_true rfl), (Nat.le_of_ble_eq_true rfl), (Nat.le_of_ble_eq_true rfl), (Nat.le_of_ble_eq_true rfl)⟩ (fun r2 h2 hp2 => ?_)
        obtain ⟨rfl, R, hR, rfl⟩ := hp2
        rw [kB2]
        have inner : ∀ (n_ : Nat) (b : Nat), nb_ s - b < n_ → b ≤ nb_ s → kw_G l D cX12_lacks RX12 (Option.some Jvm.ClassFile.FieldType.boolean) "lacks" { frames := 1, cells := 0, slots := 0, locals := 25 } A K ad (hM s (kB k 0 R)) 0 0 35 [some (pr_ (40, 0)), some (pi_ (nI j)), some (pi_ (nI w)), some (pi_ (b2 (anyN (fun i => anyN (fun q => rC s (ro_ s w i) q && !(mirS s j).1 q) (nb_ s)) i || anyN (fun q => rC s (ro_ s w i) q && !(mirS s j).1 q) b))), some (pi_ (nI i)), some (pi_ (nI b))] [] := by
          intro n_
          induction n_ with
          | zero =>
            intro b hm_
            exact absurd hm_ (Nat.not_lt_zero _)
          | succ n_ ih2 =>
            intro b hm_ hbl
            refine kw_iload dX12_lacks_35 rfl ?_
            refine kw_aload_n dX12_lacks_37 rfl ?_
            refine kw_get dX12_lacks_38 fl_X12_156 rfl rfl ?_
            refine kw_icmp_ge (tgt := 81) dX12_lacks_41 (by decide) (fun c41 => ?_) (fun c41 => ?_)
            · skip
              have e : b = nb_ s := Nat.le_antisymm hbl (nI_le' (by omega) (by omega) c41)
              rw [e]
              refine kw_iinc dX12_lacks_81 rfl (nI_i i) ?_
              refine kw_goto (tgt := 5) dX12_lacks_84 (by decide) ?_
              refine kw_lvle (lv' := [some (pr_ (40, 0)), some (pi_ (nI j)), some (pi_ (nI w)), some (pi_ (b2 (anyN (fun i => anyN (fun q => rC s (ro_ s w i) q && !(mirS s j).1 q) (nb_ s)) (i + 1)))), some (pi_ (nI (i + 1))), none]) (kw_le_s (kw_le_s (kw_le_s (kw_le_s (kw_le_s (kw_le_n kw_le_0)))))) ?_
              exact ih (i + 1) R (by omega) (by omega)
            · skip
              have hlt : b < nb_ s := nI_nle' (by omega) (by omega) c41
              refine kw_iload_n dX12_lacks_44 rfl ?_
              refine kw_if_ne (tgt := 69) dX12_lacks_45 (by decide) (fun c45 => ?_) (fun c45 => ?_)
              · skip
                have e45 := b2_n0.mp c45
                refine kw_iconst (v := 1) dX12_lacks_69 (by decide) ?_
                refine kw_top (v' := pi_ (b2 true)) rfl ?_
                refine kw_goto (tgt := 74) dX12_lacks_70 (by decide) ?_
                refine kw_istore_n dX12_lacks_74 (Nat.le_of_ble_eq_true rfl) ?_
                refine kw_iinc dX12_lacks_75 rfl (nI_i b) ?_
                refine kw_goto (tgt := 35) dX12_lacks_78 (by decide) ?_
                refine kw_lvle (lv' := [some (pr_ (40, 0)), some (pi_ (nI j)), some (pi_ (nI w)), some (pi_ (b2 (anyN (fun i => anyN (fun q => rC s (ro_ s w i) q && !(mirS s j).1 q) (nb_ s)) i || anyN (fun q => rC s (ro_ s w i) q && !(mirS s j).1 q) (b + 1)))), some (pi_ (nI i)), some (pi_ (nI (b + 1)))]) (by rw [show (anyN (fun i => anyN (fun q => rC s (ro_ s w i) q && !(mirS s j).1 q) (nb_ s)) i || anyN (fun q => rC s (ro_ s w i) q && !(mirS s j).1 q) (b + 1)) = true by rw [anyN, ← Bool.or_assoc, e45]; rfl]; exact kw_le_s (kw_le_s (kw_le_s (kw_le_s (kw_le_s (kw_le_s kw_le_0)))))) ?_
                exact ih2 (b + 1) (by omega) (by omega)
              · skip
                have e45 := b2_0.mp c45
                refine kw_aload_n dX12_lacks_48 rfl ?_
                refine kw_get dX12_lacks_49 fl_X12_109 rfl rfl ?_
                refine kw_iload dX12_lacks_52 rfl ?_
                refine kw_zaldN dX12_lacks_54 rfl (by omega) (by decide) ?_
                refine kw_top (v' := pi_ (b2 (rC s (ro_ s w i) b))) (congrArg (fun q => pi_ (b2 q)) (hR b (by omega))) ?_
                refine kw_if_eq (tgt := 73) dX12_lacks_55 (by decide) (fun c55 => ?_) (fun c55 => ?_)
                · skip
                  have e55 := b2_0.mp c55
                  refine kw_iconst (v := 0) dX12_lacks_73 (by decide) ?_
                  refine kw_top (v' := pi_ (b2 false)) rfl ?_
                  refine kw_istore_n dX12_lacks_74 (Nat.le_of_ble_eq_true rfl) ?_
                  refine kw_iinc dX12_lacks_75 rfl (nI_i b) ?_
                  refine kw_goto (tgt := 35) dX12_lacks_78 (by decide) ?_
                  refine kw_lvle (lv' := [some (pr_ (40, 0)), some (pi_ (nI j)), some (pi_ (nI w)), some (pi_ (b2 (anyN (fun i => anyN (fun q => rC s (ro_ s w i) q && !(mirS s j).1 q) (nb_ s)) i || anyN (fun q => rC s (ro_ s w i) q && !(mirS s j).1 q) (b + 1)))), some (pi_ (nI i)), some (pi_ (nI (b + 1)))]) (by rw [show (anyN (fun i => anyN (fun q => rC s (ro_ s w i) q && !(mirS s j).1 q) (nb_ s)) i || anyN (fun q => rC s (ro_ s w i) q && !(mirS s j).1 q) (b + 1)) = false by rw [anyN, ← Bool.or_assoc, e45, e55]; rfl]; exact kw_le_s (kw_le_s (kw_le_s (kw_le_s (kw_le_s (kw_le_s kw_le_0)))))) ?_
                  exact ih2 (b + 1) (by omega) (by omega)
                · skip
                  have e55 := b2_n0.mp c55
                  refine kw_aload_n dX12_lacks_58 rfl ?_
                  refine kw_iload_n dX12_lacks_59 rfl ?_
                  refine kw_iconst (v := (nI 0)) dX12_lacks_60 (by decide) ?_
                  refine kw_iload dX12_lacks_61 rfl ?_
                  refine kw_callVf (As := [pi_ (nI j), pi_ (nI 0), pi_ (nI b)]) (n_mirHas0 l s (kB k 0 R) hh j hj hd b (by omega)) dX12_lacks_63 cl_X12_342 rfl rfl rfl rfl (Nat.le_of_ble_eq_true rfl) ⟨(Nat.le_of_ble_eq_true rfl), (Nat.le_of_ble_eq_true rfl), (Nat.le_of_ble_eq_true rfl), (Nat.le_of_ble_eq_true rfl)⟩ ?_
                  refine kw_if_ne (tgt := 73) dX12_lacks_66 (by decide) (fun c66 => ?_) (fun c66 => ?_)
                  · skip
                    refine kw_iconst (v := 0) dX12_lacks_73 (by decide) ?_
                    refine kw_top (v' := pi_ (b2 false)) rfl ?_
                    refine kw_istore_n dX12_lacks_74 (Nat.le_of_ble_eq_true rfl) ?_
                    refine kw_iinc dX12_lacks_75 rfl (nI_i b) ?_
                    refine kw_goto (tgt := 35) dX12_lacks_78 (by decide) ?_
                    refine kw_lvle (lv' := [some (pr_ (40, 0)), some (pi_ (nI j)), some (pi_ (nI w)), some (pi_ (b2 (anyN (fun i => anyN (fun q => rC s (ro_ s w i) q && !(mirS s j).1 q) (nb_ s)) i || anyN (fun q => rC s (ro_ s w i) q && !(mirS s j).1 q) (b + 1)))), some (pi_ (nI i)), some (pi_ (nI (b + 1)))]) (by rw [show (anyN (fun i => anyN (fun q => rC s (ro_ s w i) q && !(mirS s j).1 q) (nb_ s)) i || anyN (fun q => rC s (ro_ s w i) q && !(mirS s j).1 q) (b + 1)) = false by rw [anyN, ← Bool.or_assoc, e45, e55, b2_n0.mp c66]; rfl]; exact kw_le_s (kw_le_s (kw_le_s (kw_le_s (kw_le_s (kw_le_s kw_le_0)))))) ?_
                    exact ih2 (b + 1) (by omega) (by omega)
                  · skip
                    refine kw_iconst (v := 1) dX12_lacks_69 (by decide) ?_
                    refine kw_top (v' := pi_ (b2 true)) rfl ?_
                    refine kw_goto (tgt := 74) dX12_lacks_70 (by decide) ?_
                    refine kw_istore_n dX12_lacks_74 (Nat.le_of_ble_eq_true rfl) ?_
                    refine kw_iinc dX12_lacks_75 rfl (nI_i b) ?_
                    refine kw_goto (tgt := 35) dX12_lacks_78 (by decide) ?_
                    refine kw_lvle (lv' := [some (pr_ (40, 0)), some (pi_ (nI j)), some (pi_ (nI w)), some (pi_ (b2 (anyN (fun i => anyN (fun q => rC s (ro_ s w i) q && !(mirS s j).1 q) (nb_ s)) i || anyN (fun q => rC s (ro_ s w i) q && !(mirS s j).1 q) (b + 1)))), some (pi_ (nI i)), some (pi_ (nI (b + 1)))]) (by rw [show (anyN (fun i => anyN (fun q => rC s (ro_ s w i) q && !(mirS s j).1 q) (nb_ s)) i || anyN (fun q => rC s (ro_ s w i) q && !(mirS s j).1 q) (b + 1)) = true by rw [anyN, ← Bool.or_assoc, e45, e55, b2_0.mp c66]; rfl]; exact kw_le_s (kw_le_s (kw_le_s (kw_le_s (kw_le_s (kw_le_s kw_le_0)))))) ?_
                    exact ih2 (b + 1) (by omega) (by omega)
        refine kw_iconst (v := 0) dX12_lacks_32 (by decide) ?_
        refine kw_istore dX12_lacks_33 (Nat.le_of_ble_eq_true rfl) ?_
        refine kw_lvle (lv' := [some (pr_ (40, 0)), some (pi_ (nI j)), some (pi_ (nI w)), some (pi_ (b2 (anyN (fun i => anyN (fun q => rC s (ro_ s w i) q && !(mirS s j).1 q) (nb_ s)) i || anyN (fun q => rC s (ro_ s w i) q && !(mirS s j).1 q) 0))), some (pi_ (nI i)), some (pi_ (nI 0))]) (by rw [show (anyN (fun i => anyN (fun q => rC s (ro_ s w i) q && !(mirS s j).1 q) (nb_ s)) i || anyN (fun q => rC s (ro_ s w i) q && !(mirS s j).1 q) 0) = anyN (fun i => anyN (fun q => rC s (ro_ s w i) q && !(mirS s j).1 q) (nb_ s)) i from Bool.or_false _]; exact kw_le_s (kw_le_s (kw_le_s (kw_le_s (kw_le_s (kw_le_s kw_le_0)))))) ?_
        exact inner (nb_ s + 1) 0 (by omega) (by omega)
  refine kw_iconst (v := 0) dX12_lacks_0 (by decide) ?_
  refine kw_top (v' := pi_ (b2 false)) rfl ?_
  refine kw_istore_n dX12_lacks_1 (Nat.le_of_ble_eq_true rfl) ?_
  refine kw_iconst (v := 0) dX12_lacks_2 (by decide) ?_
  refine kw_istore dX12_lacks_3 (Nat.le_of_ble_eq_true rfl) ?_
  refine kw_heq (h' := hM s (kB k 0 (kb_ k 0))) (by rw [kB_id]) ?_
  exact loop (rm_ s w + 1) 0 _ (by omega) (by omega)
set_option maxHeartbeats 4000000 in
set_option maxRecDepth 100000 in
theorem M_mirrored (l : Launch) (s : SG) (k : KG) (hMI : MI s k) (hb : nb_ s ≤ 80) (hkd : kidsOk s) (hro : rootOk s) (hh : histOk s) (hd : ∀ m, m < 2 → md_ s m ≤ nh_ s) (x w : Int32) : kw_P l yX12_mirrored cX12_mirrored 5 (Option.some Jvm.ClassFile.FieldType.int) { frames := 2, cells := 0, slots := 0, locals := 50 } [pr_ (40, 0), pi_ x, pi_ w] (hM s k) (fun r h' => r = some (pi_ (a_mirrored s x w)) ∧ ∃ R, h' = hM s (kB k 0 R)) := by
  refine kw_M_of RX12 "mirrored" [some (pr_ (40, 0)), some (pi_ x), some (pi_ w), none, none] (by decide) rfl rfl rfl (Nat.le_of_ble_eq_true rfl) ?_
  intro D ad A
  refine kw_Kgen (fun K hK => ?_)
  have hns := hro.1
  refine kw_aload_n dX12_mirrored_0 rfl ?_
  refine kw_iload_n dX12_mirrored_1 rfl ?_
  refine kw_callVf (As := [pi_ x]) (n_isMir l s k x) dX12_mirrored_2 cl_X12_339 rfl rfl rfl rfl (Nat.le_of_ble_eq_true rfl) ⟨(Nat.le_of_ble_eq_true rfl), (Nat.le_of_ble_eq_true rfl), (Nat.le_of_ble_eq_true rfl), (Nat.le_of_ble_eq_true rfl)⟩ ?_
  refine kw_if_ne (tgt := 11) dX12_mirrored_5 (by decide) (fun c5 => ?_) (fun c5 => ?_)
  · skip
    obtain ⟨j, hj, rfl⟩ := mir_ok (b2_n0.mp c5)
    rw [a_mirrored, if_neg (mir_in hj), show cl_ (nI j) = j from nI_clamp (by omega)] at hK
    have hdj := hd j hj
    refine kw_iload_n dX12_mirrored_11 rfl ?_
    refine kw_i2l dX12_mirrored_12 ?_
    refine kw_lconst (v := 0) dX12_mirrored_13 (by decide) ?_
    refine kw_top (v' := pl_ ((0 : Int32).toInt64)) (by decide) ?_
    refine kw_ldc2 dX12_mirrored_14 kt_1100 ?_
    refine kw_top (v' := pl_ ((3 : Int32).toInt64)) (by decide) ?_
    refine kw_callSf (As := [pl_ w.toInt64, pl_ (0 : Int32).toInt64, pl_ (3 : Int32).toInt64]) (n_inI l _ w 0 3) dX12_mirrored_17 cl_X12_144 rfl rfl (Nat.le_of_ble_eq_true rfl) ⟨(Nat.le_of_ble_eq_true rfl), (Nat.le_of_ble_eq_true rfl), (Nat.le_of_ble_eq_true rfl), (Nat.le_of_ble_eq_true rfl)⟩ ?_
    refine kw_if_ne (tgt := 26) dX12_mirrored_20 (by decide) (fun c20 => ?_) (fun c20 => ?_)
    · skip
      have e9 := inB_t (b2_n0.mp c20)
      refine kw_iload_n dX12_mirrored_26 rfl ?_
      refine kw_if_ne (tgt := 39) dX12_mirrored_27 (by decide) (fun c27 => ?_) (fun c27 => ?_)
      · skip
        rw [if_neg c27] at hK
        rcases sw_123 c27 e9.1 e9.2 with rfl | rfl | rfl
        · rw [if_pos rfl] at hK
          have loop : ∀ (n_ : Nat) (i : Nat), nb_ s - i < n_ → i ≤ nb_ s → kw_G l D cX12_mirrored RX12 (Option.some Jvm.ClassFile.FieldType.int) "mirrored" { frames := 2, cells := 0, slots := 0, locals := 50 } A K ad (hM s k) 0 0 44 [some (pr_ (40, 0)), some (pi_ (nI j)), some (pi_ 1), some (pi_ (nI (cntN (fun q => (mirS s j).1 q) i))), some (pi_ (nI i))] [] := by
            intro n_
            induction n_ with
            | zero =>
              intro i hm_
              exact absurd hm_ (Nat.not_lt_zero _)
            | succ n_ ih =>
              intro i hm_ hi
              refine kw_iload dX12_mirrored_44 rfl ?_
              refine kw_aload_n dX12_mirrored_46 rfl ?_
              refine kw_get dX12_mirrored_47 fl_X12_156 rfl rfl ?_
              refine kw_icmp_ge (tgt := 83) dX12_mirrored_50 (by decide) (fun c50 => ?_) (fun c50 => ?_)
              · skip
                have e : i = nb_ s := Nat.le_antisymm hi (nI_le' (by omega) (by omega) c50)
                rw [e]
                refine kw_iconst (v := 0) dX12_mirrored_83 (by decide) ?_
                refine kw_istore dX12_mirrored_84 (Nat.le_of_ble_eq_true rfl) ?_
                refine kw_iload dX12_mirrored_86 rfl ?_
                refine kw_aload_n dX12_mirrored_88 rfl ?_
                refine kw_get dX12_mirrored_89 fl_X12_218 rfl rfl ?_
                refine kw_icmp_ge (tgt := 140) dX12_mirrored_92 (by decide) (fun c92 => ?_) (fun c92 => ?_)
                · skip
                  refine kw_iload_n dX12_mirrored_140 rfl ?_
                  exact kw_iret dX12_mirrored_141 rfl (Nat.le_of_ble_eq_true rfl) (Nat.le_of_ble_eq_true rfl) (hK _ _ _ ⟨rfl, rfl, kb_ k 0, by rw [kB_id]⟩)
                · skip
                  refine kw_iload_n dX12_mirrored_95 rfl ?_
                  refine kw_iconst (v := 1) dX12_mirrored_96 (by decide) ?_
                  refine kw_icmp_le (tgt := 140) dX12_mirrored_97 (by decide) (fun c97 => ?_) (fun c97 => ?_)
                  · skip
                    refine kw_iload_n dX12_mirrored_140 rfl ?_
                    exact kw_iret dX12_mirrored_141 rfl (Nat.le_of_ble_eq_true rfl) (Nat.le_of_ble_eq_true rfl) (hK _ _ _ ⟨rfl, rfl, kb_ k 0, by rw [kB_id]⟩)
                  · skip
                    exact absurd (show (1 : Int32) ≤ 1 by decide) c97
              · skip
                have hlt : i < nb_ s := nI_nle' (by omega) (by omega) c50
                refine kw_iload_n dX12_mirrored_53 rfl ?_
                refine kw_iconst (v := 1) dX12_mirrored_54 (by decide) ?_
                refine kw_icmp_ne (tgt := 83) dX12_mirrored_55 (by decide) (fun c55 => ?_) (fun c55 => ?_)
                · skip
                  exact absurd rfl c55
                · skip
                  refine kw_iload_n dX12_mirrored_58 rfl ?_
                  refine kw_aload_n dX12_mirrored_59 rfl ?_
                  refine kw_iload_n dX12_mirrored_60 rfl ?_
                  refine kw_iconst (v := (nI 0)) dX12_mirrored_61 (by decide) ?_
                  refine kw_iload dX12_mirrored_62 rfl ?_
                  refine kw_callVf (As := [pi_ (nI j), pi_ (nI 0), pi_ (nI i)]) (n_mirHas0 l s k hh j hj hdj i (by omega)) dX12_mirrored_64 cl_X12_342 rfl rfl rfl rfl (Nat.le_of_ble_eq_true rfl) ⟨(Nat.le_of_ble_eq_true rfl), (Nat.le_of_ble_eq_true rfl), (Nat.le_of_ble_eq_true rfl), (Nat.le_of_ble_eq_true rfl)⟩ ?_
                  refine kw_if_eq (tgt := 74) dX12_mirrored_67 (by decide) (fun c67 => ?_) (fun c67 => ?_)
                  · skip
                    refine kw_iconst (v := 0) dX12_mirrored_74 (by decide) ?_
                    refine kw_iadd dX12_mirrored_75 ?_
                    refine kw_top (v' := pi_ (nI (cntN (fun q => (mirS s j).1 q) (i + 1)))) (cnt_f (p := (fun q => (mirS s j).1 q)) (b2_0.mp c67)) ?_
                    refine kw_istore_n dX12_mirrored_76 (Nat.le_of_ble_eq_true rfl) ?_
                    refine kw_iinc dX12_mirrored_77 rfl (nI_i i) ?_
                    refine kw_goto (tgt := 44) dX12_mirrored_80 (by decide) ?_
                    exact ih (i + 1) (by omega) (by omega)
                  · skip
                    refine kw_iconst (v := 1) dX12_mirrored_70 (by decide) ?_
                    refine kw_goto (tgt := 75) dX12_mirrored_71 (by decide) ?_
                    refine kw_iadd dX12_mirrored_75 ?_
                    refine kw_top (v' := pi_ (nI (cntN (fun q => (mirS s j).1 q) (i + 1)))) (cnt_t (p := (fun q => (mirS s j).1 q)) (b2_n0.mp c67)) ?_
                    refine kw_istore_n dX12_mirrored_76 (Nat.le_of_ble_eq_true rfl) ?_
                    refine kw_iinc dX12_mirrored_77 rfl (nI_i i) ?_
                    refine kw_goto (tgt := 44) dX12_mirrored_80 (by decide) ?_
                    exact ih (i + 1) (by omega) (by omega)
          refine kw_iconst (v := 0) dX12_mirrored_39 (by decide) ?_
          refine kw_top (v' := pi_ (nI (cntN (fun q => (mirS s j).1 q) 0))) rfl ?_
          refine kw_istore_n dX12_mirrored_40 (Nat.le_of_ble_eq_true rfl) ?_
          refine kw_iconst (v := 0) dX12_mirrored_41 (by decide) ?_
          refine kw_istore dX12_mirrored_42 (Nat.le_of_ble_eq_true rfl) ?_
          exact loop (nb_ s + 1) 0 (by omega) (by omega)
        · rw [if_neg (by decide), if_pos rfl] at hK
          have loop : ∀ (n_ : Nat) (i : Nat) (R0 : Nat → Bool), ns_ s - i < n_ → i ≤ ns_ s → kw_G l D cX12_mirrored RX12 (Option.some Jvm.ClassFile.FieldType.int) "mirrored" { frames := 2, cells := 0, slots := 0, locals := 50 } A K ad (hM s (kB k 0 R0)) 0 0 86 [some (pr_ (40, 0)), some (pi_ (nI j)), some (pi_ 2), some (pi_ (nI (cntN (fun q => (mirS s j).2 q) i))), some (pi_ (nI i))] [] := by
            intro n_
            induction n_ with
            | zero =>
              intro i R0 hm_
              exact absurd hm_ (Nat.not_lt_zero _)
            | succ n_ ih =>
              intro i R0 hm_ hi
              refine kw_iload dX12_mirrored_86 rfl ?_
              refine kw_aload_n dX12_mirrored_88 rfl ?_
              refine kw_get dX12_mirrored_89 fl_X12_218 rfl rfl ?_
              refine kw_icmp_ge (tgt := 140) dX12_mirrored_92 (by decide) (fun c92 => ?_) (fun c92 => ?_)
              · skip
                have e : i = ns_ s := Nat.le_antisymm hi (nI_le' (by omega) (by omega) c92)
                rw [e]
                refine kw_iload_n dX12_mirrored_140 rfl ?_
                exact kw_iret dX12_mirrored_141 rfl (Nat.le_of_ble_eq_true rfl) (Nat.le_of_ble_eq_true rfl) (hK _ _ _ ⟨rfl, rfl, R0, rfl⟩)
              · skip
                have hlt : i < ns_ s := nI_nle' (by omega) (by omega) c92
                refine kw_iload_n dX12_mirrored_95 rfl ?_
                refine kw_iconst (v := 1) dX12_mirrored_96 (by decide) ?_
                refine kw_icmp_le (tgt := 140) dX12_mirrored_97 (by decide) (fun c97 => ?_) (fun c97 => ?_)
                · skip
                  exact absurd c97 (by decide)
                · skip
                  refine kw_iload_n dX12_mirrored_100 rfl ?_
                  refine kw_aload_n dX12_mirrored_101 rfl ?_
                  refine kw_iload_n dX12_mirrored_102 rfl ?_
                  refine kw_iconst (v := (nI 2)) dX12_mirrored_103 (by decide) ?_
                  refine kw_iload dX12_mirrored_104 rfl ?_
                  refine kw_callVf (As := [pi_ (nI j), pi_ (nI 2), pi_ (nI i)]) (n_mirHas2 l s (kB k 0 R0) hh j hj hdj i (by omega)) dX12_mirrored_106 cl_X12_342 rfl rfl rfl rfl (Nat.le_of_ble_eq_true rfl) ⟨(Nat.le_of_ble_eq_true rfl), (Nat.le_of_ble_eq_true rfl), (Nat.le_of_ble_eq_true rfl), (Nat.le_of_ble_eq_true rfl)⟩ ?_
                  refine kw_if_eq (tgt := 131) dX12_mirrored_109 (by decide) (fun c109 => ?_) (fun c109 => ?_)
                  · skip
                    refine kw_iconst (v := 0) dX12_mirrored_131 (by decide) ?_
                    refine kw_iadd dX12_mirrored_132 ?_
                    refine kw_top (v' := pi_ (nI (cntN (fun q => (mirS s j).2 q) (i + 1)))) (cnt_f (p := (fun q => (mirS s j).2 q)) (b2_0.mp c109)) ?_
                    refine kw_istore_n dX12_mirrored_133 (Nat.le_of_ble_eq_true rfl) ?_
                    refine kw_iinc dX12_mirrored_134 rfl (nI_i i) ?_
                    refine kw_goto (tgt := 86) dX12_mirrored_137 (by decide) ?_
                    exact ih (i + 1) R0 (by omega) (by omega)
                  · skip
                    refine kw_iload_n dX12_mirrored_112 rfl ?_
                    refine kw_iconst (v := 2) dX12_mirrored_113 (by decide) ?_
                    refine kw_icmp_eq (tgt := 127) dX12_mirrored_114 (by decide) (fun c114 => ?_) (fun c114 => ?_)
                    · skip
                      refine kw_iconst (v := 1) dX12_mirrored_127 (by decide) ?_
                      refine kw_goto (tgt := 132) dX12_mirrored_128 (by decide) ?_
                      refine kw_iadd dX12_mirrored_132 ?_
                      refine kw_top (v' := pi_ (nI (cntN (fun q => (mirS s j).2 q) (i + 1)))) (cnt_t (p := (fun q => (mirS s j).2 q)) (b2_n0.mp c109)) ?_
                      refine kw_istore_n dX12_mirrored_133 (Nat.le_of_ble_eq_true rfl) ?_
                      refine kw_iinc dX12_mirrored_134 rfl (nI_i i) ?_
                      refine kw_goto (tgt := 86) dX12_mirrored_137 (by decide) ?_
                      exact ih (i + 1) R0 (by omega) (by omega)
                    · skip
                      exact absurd rfl c114
          refine kw_iconst (v := 0) dX12_mirrored_39 (by decide) ?_
          refine kw_top (v' := pi_ (nI (cntN (fun q => (mirS s j).2 q) 0))) rfl ?_
          refine kw_istore_n dX12_mirrored_40 (Nat.le_of_ble_eq_true rfl) ?_
          refine kw_iconst (v := 0) dX12_mirrored_41 (by decide) ?_
          refine kw_istore dX12_mirrored_42 (Nat.le_of_ble_eq_true rfl) ?_
          refine kw_iload dX12_mirrored_44 rfl ?_
          refine kw_aload_n dX12_mirrored_46 rfl ?_
          refine kw_get dX12_mirrored_47 fl_X12_156 rfl rfl ?_
          refine kw_icmp_ge (tgt := 83) dX12_mirrored_50 (by decide) (fun c50 => ?_) (fun c50 => ?_)
          · skip
            refine kw_iconst (v := 0) dX12_mirrored_83 (by decide) ?_
            refine kw_istore dX12_mirrored_84 (Nat.le_of_ble_eq_true rfl) ?_
            refine kw_heq (h' := hM s (kB k 0 (kb_ k 0))) (by rw [kB_id]) ?_
            exact loop (ns_ s + 1) 0 _ (by omega) (by omega)
          · skip
            refine kw_iload_n dX12_mirrored_53 rfl ?_
            refine kw_iconst (v := 1) dX12_mirrored_54 (by decide) ?_
            refine kw_icmp_ne (tgt := 83) dX12_mirrored_55 (by decide) (fun c55 => ?_) (fun c55 => ?_)
            · skip
              refine kw_iconst (v := 0) dX12_mirrored_83 (by decide) ?_
              refine kw_istore dX12_mirrored_84 (Nat.le_of_ble_eq_true rfl) ?_
              refine kw_heq (h' := hM s (kB k 0 (kb_ k 0))) (by rw [kB_id]) ?_
              exact loop (ns_ s + 1) 0 _ (by omega) (by omega)
            · skip
              exact absurd c55 (by decide)
        rw [if_neg (by decide), if_neg (by decide), if_pos rfl] at hK
        have loop : ∀ (n_ : Nat) (i : Nat) (R0 : Nat → Bool), ns_ s - i < n_ → i ≤ ns_ s → kw_G l D cX12_mirrored RX12 (Option.some Jvm.ClassFile.FieldType.int) "mirrored" { frames := 2, cells := 0, slots := 0, locals := 50 } A K ad (hM s (kB k 0 R0)) 0 0 86 [some (pr_ (40, 0)), some (pi_ (nI j)), some (pi_ 3), some (pi_ (nI (cntN (fun q => (mirS s j).2 q && lackB s j q) i))), some (pi_ (nI i))] [] := by
          intro n_
          induction n_ with
          | zero =>
            intro i R0 hm_
            exact absurd hm_ (Nat.not_lt_zero _)
          | succ n_ ih =>
            intro i R0 hm_ hi
            refine kw_iload dX12_mirrored_86 rfl ?_
            refine kw_aload_n dX12_mirrored_88 rfl ?_
            refine kw_get dX12_mirrored_89 fl_X12_218 rfl rfl ?_
            refine kw_icmp_ge (tgt := 140) dX12_mirrored_92 (by decide) (fun c92 => ?_) (fun c92 => ?_)
            · skip
              have e : i = ns_ s := Nat.le_antisymm hi (nI_le' (by omega) (by omega) c92)
              rw [e]
              refine kw_iload_n dX12_mirrored_140 rfl ?_
              exact kw_iret dX12_mirrored_141 rfl (Nat.le_of_ble_eq_true rfl) (Nat.le_of_ble_eq_true rfl) (hK _ _ _ ⟨rfl, rfl, R0, rfl⟩)
            · skip
              have hlt : i < ns_ s := nI_nle' (by omega) (by omega) c92
              refine kw_iload_n dX12_mirrored_95 rfl ?_
              refine kw_iconst (v := 1) dX12_mirrored_96 (by decide) ?_
              refine kw_icmp_le (tgt := 140) dX12_mirrored_97 (by decide) (fun c97 => ?_) (fun c97 => ?_)
              · skip
                exact absurd c97 (by decide)
              · skip
                refine kw_iload_n dX12_mirrored_100 rfl ?_
                refine kw_aload_n dX12_mirrored_101 rfl ?_
                refine kw_iload_n dX12_mirrored_102 rfl ?_
                refine kw_iconst (v := (nI 2)) dX12_mirrored_103 (by decide) ?_
                refine kw_iload dX12_mirrored_104 rfl ?_
                refine kw_callVf (As := [pi_ (nI j), pi_ (nI 2), pi_ (nI i)]) (n_mirHas2 l s (kB k 0 R0) hh j hj hdj i (by omega)) dX12_mirrored_106 cl_X12_342 rfl rfl rfl rfl (Nat.le_of_ble_eq_true rfl) ⟨(Nat.le_of_ble_eq_true rfl), (Nat.le_of_ble_eq_true rfl), (Nat.le_of_ble_eq_true rfl), (Nat.le_of_ble_eq_true rfl)⟩ ?_
                refine kw_if_eq (tgt := 131) dX12_mirrored_109 (by decide) (fun c109 => ?_) (fun c109 => ?_)
                · skip
                  refine kw_iconst (v := 0) dX12_mirrored_131 (by decide) ?_
                  refine kw_iadd dX12_mirrored_132 ?_
                  refine kw_top (v' := pi_ (nI (cntN (fun q => (mirS s j).2 q && lackB s j q) (i + 1)))) (cnt_f (p := (fun q => (mirS s j).2 q && lackB s j q)) (by show ((mirS s j).2 i && _) = false; rw [b2_0.mp c109]; rfl)) ?_
                  refine kw_istore_n dX12_mirrored_133 (Nat.le_of_ble_eq_true rfl) ?_
                  refine kw_iinc dX12_mirrored_134 rfl (nI_i i) ?_
                  refine kw_goto (tgt := 86) dX12_mirrored_137 (by decide) ?_
                  exact ih (i + 1) R0 (by omega) (by omega)
                · skip
                  have e109 := b2_n0.mp c109
                  refine kw_iload_n dX12_mirrored_112 rfl ?_
                  refine kw_iconst (v := 2) dX12_mirrored_113 (by decide) ?_
                  refine kw_icmp_eq (tgt := 127) dX12_mirrored_114 (by decide) (fun c114 => ?_) (fun c114 => ?_)
                  · skip
                    exact absurd c114 (by decide)
                  · skip
                    refine kw_aload_n dX12_mirrored_117 rfl ?_
                    refine kw_iload_n dX12_mirrored_118 rfl ?_
                    refine kw_iload dX12_mirrored_119 rfl ?_
                    refine kw_callV (As := [pi_ (nI j), pi_ (nI i)]) (n_lacks l s (kB k 0 R0) (kB_MI hMI 0 R0) hb hkd hro hh j hj hdj i hlt) dX12_mirrored_121 cl_X12_346 rfl rfl rfl rfl (Nat.le_of_ble_eq_true rfl) ⟨(Nat.le_of_ble_eq_true rfl), (Nat.le_of_ble_eq_true rfl), (Nat.le_of_ble_eq_true rfl), (Nat.le_of_ble_eq_true rfl)⟩ (fun r2 h2 hp2 => ?_)
                    obtain ⟨rfl, R, rfl⟩ := hp2
                    rw [kB2]
                    refine kw_if_eq (tgt := 131) dX12_mirrored_124 (by decide) (fun c124 => ?_) (fun c124 => ?_)
                    · skip
                      refine kw_iconst (v := 0) dX12_mirrored_131 (by decide) ?_
                      refine kw_iadd dX12_mirrored_132 ?_
                      refine kw_top (v' := pi_ (nI (cntN (fun q => (mirS s j).2 q && lackB s j q) (i + 1)))) (cnt_f (p := (fun q => (mirS s j).2 q && lackB s j q)) (by show ((mirS s j).2 i && lackB s j i) = false; rw [b2_0.mp c124, Bool.and_false])) ?_
                      refine kw_istore_n dX12_mirrored_133 (Nat.le_of_ble_eq_true rfl) ?_
                      refine kw_iinc dX12_mirrored_134 rfl (nI_i i) ?_
                      refine kw_goto (tgt := 86) dX12_mirrored_137 (by decide) ?_
                      exact ih (i + 1) R (by omega) (by omega)
                    · skip
                      refine kw_iconst (v := 1) dX12_mirrored_127 (by decide) ?_
                      refine kw_goto (tgt := 132) dX12_mirrored_128 (by decide) ?_
                      refine kw_iadd dX12_mirrored_132 ?_
                      refine kw_top (v' := pi_ (nI (cntN (fun q => (mirS s j).2 q && lackB s j q) (i + 1)))) (cnt_t (p := (fun q => (mirS s j).2 q && lackB s j q)) (by show ((mirS s j).2 i && lackB s j i) = true; rw [e109, b2_n0.mp c124]; rfl)) ?_
                      refine kw_istore_n dX12_mirrored_133 (Nat.le_of_ble_eq_true rfl) ?_
                      refine kw_iinc dX12_mirrored_134 rfl (nI_i i) ?_
                      refine kw_goto (tgt := 86) dX12_mirrored_137 (by decide) ?_
                      exact ih (i + 1) R (by omega) (by omega)
        refine kw_iconst (v := 0) dX12_mirrored_39 (by decide) ?_
        refine kw_top (v' := pi_ (nI (cntN (fun q => (mirS s j).2 q && lackB s j q) 0))) rfl ?_
        refine kw_istore_n dX12_mirrored_40 (Nat.le_of_ble_eq_true rfl) ?_
        refine kw_iconst (v := 0) dX12_mirrored_41 (by decide) ?_
        refine kw_istore dX12_mirrored_42 (Nat.le_of_ble_eq_true rfl) ?_
        refine kw_iload dX12_mirrored_44 rfl ?_
        refine kw_aload_n dX12_mirrored_46 rfl ?_
        refine kw_get dX12_mirrored_47 fl_X12_156 rfl rfl ?_
        refine kw_icmp_ge (tgt := 83) dX12_mirrored_50 (by decide) (fun c50 => ?_) (fun c50 => ?_)
        · skip
          refine kw_iconst (v := 0) dX12_mirrored_83 (by decide) ?_
          refine kw_istore dX12_mirrored_84 (Nat.le_of_ble_eq_true rfl) ?_
          refine kw_heq (h' := hM s (kB k 0 (kb_ k 0))) (by rw [kB_id]) ?_
          exact loop (ns_ s + 1) 0 _ (by omega) (by omega)
        · skip
          refine kw_iload_n dX12_mirrored_53 rfl ?_
          refine kw_iconst (v := 1) dX12_mirrored_54 (by decide) ?_
          refine kw_icmp_ne (tgt := 83) dX12_mirrored_55 (by decide) (fun c55 => ?_) (fun c55 => ?_)
          · skip
            refine kw_iconst (v := 0) dX12_mirrored_83 (by decide) ?_
            refine kw_istore dX12_mirrored_84 (Nat.le_of_ble_eq_true rfl) ?_
            refine kw_heq (h' := hM s (kB k 0 (kb_ k 0))) (by rw [kB_id]) ?_
            exact loop (ns_ s + 1) 0 _ (by omega) (by omega)
          · skip
            exact absurd c55 (by decide)
      · skip
        have e27 : w = 0 := c27
        subst e27
        rw [if_pos rfl] at hK
        refine kw_aload_n dX12_mirrored_30 rfl ?_
        refine kw_get dX12_mirrored_31 fl_X12_76 rfl rfl ?_
        refine kw_iload_n dX12_mirrored_34 rfl ?_
        refine kw_ialdN dX12_mirrored_35 rfl hj (by decide) ?_
        refine kw_goto (tgt := 40) dX12_mirrored_36 (by decide) ?_
        refine kw_istore_n dX12_mirrored_40 (Nat.le_of_ble_eq_true rfl) ?_
        refine kw_iconst (v := 0) dX12_mirrored_41 (by decide) ?_
        refine kw_istore dX12_mirrored_42 (Nat.le_of_ble_eq_true rfl) ?_
        refine kw_iload dX12_mirrored_44 rfl ?_
        refine kw_aload_n dX12_mirrored_46 rfl ?_
        refine kw_get dX12_mirrored_47 fl_X12_156 rfl rfl ?_
        refine kw_icmp_ge (tgt := 83) dX12_mirrored_50 (by decide) (fun c50 => ?_) (fun c50 => ?_)
        · skip
          refine kw_iconst (v := 0) dX12_mirrored_83 (by decide) ?_
          refine kw_istore dX12_mirrored_84 (Nat.le_of_ble_eq_true rfl) ?_
          refine kw_iload dX12_mirrored_86 rfl ?_
          refine kw_aload_n dX12_mirrored_88 rfl ?_
          refine kw_get dX12_mirrored_89 fl_X12_218 rfl rfl ?_
          refine kw_icmp_ge (tgt := 140) dX12_mirrored_92 (by decide) (fun c92 => ?_) (fun c92 => ?_)
          · skip
            refine kw_iload_n dX12_mirrored_140 rfl ?_
            exact kw_iret dX12_mirrored_141 rfl (Nat.le_of_ble_eq_true rfl) (Nat.le_of_ble_eq_true rfl) (hK _ _ _ ⟨rfl, rfl, kb_ k 0, by rw [kB_id]⟩)
          · skip
            refine kw_iload_n dX12_mirrored_95 rfl ?_
            refine kw_iconst (v := 1) dX12_mirrored_96 (by decide) ?_
            refine kw_icmp_le (tgt := 140) dX12_mirrored_97 (by decide) (fun c97 => ?_) (fun c97 => ?_)
            · skip
              refine kw_iload_n dX12_mirrored_140 rfl ?_
              exact kw_iret dX12_mirrored_141 rfl (Nat.le_of_ble_eq_true rfl) (Nat.le_of_ble_eq_true rfl) (hK _ _ _ ⟨rfl, rfl, kb_ k 0, by rw [kB_id]⟩)
            · skip
              exact absurd (show (0 : Int32) ≤ 1 by decide) c97
        · skip
          refine kw_iload_n dX12_mirrored_53 rfl ?_
          refine kw_iconst (v := 1) dX12_mirrored_54 (by decide) ?_
          refine kw_icmp_ne (tgt := 83) dX12_mirrored_55 (by decide) (fun c55 => ?_) (fun c55 => ?_)
          · skip
            refine kw_iconst (v := 0) dX12_mirrored_83 (by decide) ?_
            refine kw_istore dX12_mirrored_84 (Nat.le_of_ble_eq_true rfl) ?_
            refine kw_iload dX12_mirrored_86 rfl ?_
            refine kw_aload_n dX12_mirrored_88 rfl ?_
            refine kw_get dX12_mirrored_89 fl_X12_218 rfl rfl ?_
            refine kw_icmp_ge (tgt := 140) dX12_mirrored_92 (by decide) (fun c92 => ?_) (fun c92 => ?_)
            · skip
              refine kw_iload_n dX12_mirrored_140 rfl ?_
              exact kw_iret dX12_mirrored_141 rfl (Nat.le_of_ble_eq_true rfl) (Nat.le_of_ble_eq_true rfl) (hK _ _ _ ⟨rfl, rfl, kb_ k 0, by rw [kB_id]⟩)
            · skip
              refine kw_iload_n dX12_mirrored_95 rfl ?_
              refine kw_iconst (v := 1) dX12_mirrored_96 (by decide) ?_
              refine kw_icmp_le (tgt := 140) dX12_mirrored_97 (by decide) (fun c97 => ?_) (fun c97 => ?_)
              · skip
                refine kw_iload_n dX12_mirrored_140 rfl ?_
                exact kw_iret dX12_mirrored_141 rfl (Nat.le_of_ble_eq_true rfl) (Nat.le_of_ble_eq_true rfl) (hK _ _ _ ⟨rfl, rfl, kb_ k 0, by rw [kB_id]⟩)
              · skip
                exact absurd (show (0 : Int32) ≤ 1 by decide) c97
          · skip
            exact absurd c55 (by decide)
    · skip
      have e9 := inB_f (b2_0.mp c20)
      refine kw_bipush (v := (-102)) dX12_mirrored_23 (by decide) ?_
      exact kw_iret dX12_mirrored_25 rfl (Nat.le_of_ble_eq_true rfl) (Nat.le_of_ble_eq_true rfl) (hK _ _ _ ⟨rfl, by rw [if_neg (fun q => by subst q; revert e9; decide), if_neg (fun q => by subst q; revert e9; decide), if_neg (fun q => by subst q; revert e9; decide), if_neg (fun q => by subst q; revert e9; decide)], kb_ k 0, by rw [kB_id]⟩)
  · skip
    refine kw_bipush (v := (-101)) dX12_mirrored_8 (by decide) ?_
    exact kw_iret dX12_mirrored_10 rfl (Nat.le_of_ble_eq_true rfl) (Nat.le_of_ble_eq_true rfl) (hK _ _ _ ⟨rfl, by rw [a_mirrored, if_pos (mir_no (b2_0.mp c5))], kb_ k 0, by rw [kB_id]⟩)
set_option maxHeartbeats 4000000 in
set_option maxRecDepth 100000 in
theorem n_lost (l : Launch) (s : SG) (k : KG) (hMI : MI s k) (hb : nb_ s ≤ 80) (hkd : kidsOk s) (ht : ∀ p, p < nb_ s → th_ s p = true → ∀ i, i < cm_ s p → th_ s (ch_ s p i) = true) (b : Nat) (hbb : b < nb_ s) (hth : th_ s b = true) : kw_P l yX12_lostFrom cX12_lostFrom 4 (Option.some Jvm.ClassFile.FieldType.int) { frames := 1, cells := 0, slots := 0, locals := 23 } [pr_ (40, 0), pi_ (nI b)] (hM s k) (fun r h' => r = some (pi_ 0) ∧ ∃ R, h' = hM s (kB k 0 R)) := by
  refine kw_M_of RX12 "lostFrom" [some (pr_ (40, 0)), some (pi_ (nI b)), none, none] (by decide) rfl rfl rfl (Nat.le_of_ble_eq_true rfl) ?_
  intro D ad A
  refine kw_Kgen (fun K hK => ?_)
  refine kw_aload_n dX12_lostFrom_0 rfl ?_
  refine kw_iload_n dX12_lostFrom_1 rfl ?_
  refine kw_callV (As := [pi_ (nI b)]) (n_reach l s k hb hkd hMI b hbb) dX12_lostFrom_2 cl_X12_208 rfl rfl rfl rfl (Nat.le_of_ble_eq_true rfl) ⟨(Nat.le_of_ble_eq_true rfl), (Nat.le_of_ble_eq_true rfl), (Nat.le_of_ble_eq_true rfl), (Nat.le_of_ble_eq_true rfl)⟩ (fun r2 h2 hp2 => ?_)
  obtain ⟨rfl, R, hR, rfl⟩ := hp2
  have loop : ∀ (n_ : Nat) (i : Nat), b + 1 - i < n_ → i ≤ b + 1 → kw_G l D cX12_lostFrom RX12 (Option.some Jvm.ClassFile.FieldType.int) "lostFrom" { frames := 1, cells := 0, slots := 0, locals := 23 } A K ad (hM s (kB k 0 R)) 0 0 9 [some (pr_ (40, 0)), some (pi_ (nI b)), some (pi_ 0), some (pi_ (nI i))] [] := by
    intro n_
    induction n_ with
    | zero =>
      intro i hm_
      exact absurd hm_ (Nat.not_lt_zero _)
    | succ n_ ih =>
      intro i hm_ hi
      refine kw_iload_n dX12_lostFrom_9 rfl ?_
      refine kw_iload_n dX12_lostFrom_10 rfl ?_
      refine kw_icmp_gt (tgt := 46) dX12_lostFrom_11 (by decide) (fun c11 => ?_) (fun c11 => ?_)
      · skip
        refine kw_iload_n dX12_lostFrom_46 rfl ?_
        exact kw_iret dX12_lostFrom_47 rfl (Nat.le_of_ble_eq_true rfl) (Nat.le_of_ble_eq_true rfl) (hK _ _ _ ⟨rfl, rfl, R, rfl⟩)
      · skip
        have hlt : i ≤ b := Nat.not_lt.mp (fun q => c11 (nI_lt q (by omega)))
        refine kw_iload_n dX12_lostFrom_14 rfl ?_
        refine kw_aload_n dX12_lostFrom_15 rfl ?_
        refine kw_get dX12_lostFrom_16 fl_X12_109 rfl rfl ?_
        refine kw_iload_n dX12_lostFrom_19 rfl ?_
        refine kw_zaldN dX12_lostFrom_20 rfl (by omega) (by decide) ?_
        refine kw_top (v' := pi_ (b2 (rC s b i))) (congrArg (fun q => pi_ (b2 q)) (hR i (by omega))) ?_
        refine kw_if_eq (tgt := 37) dX12_lostFrom_21 (by decide) (fun c21 => ?_) (fun c21 => ?_)
        · skip
          refine kw_iconst (v := 0) dX12_lostFrom_37 (by decide) ?_
          refine kw_iadd dX12_lostFrom_38 ?_
          refine kw_top (v' := pi_ 0) (by decide) ?_
          refine kw_istore_n dX12_lostFrom_39 (Nat.le_of_ble_eq_true rfl) ?_
          refine kw_iinc dX12_lostFrom_40 rfl (nI_i i) ?_
          refine kw_goto (tgt := 9) dX12_lostFrom_43 (by decide) ?_
          exact ih (i + 1) (by omega) (by omega)
        · skip
          have e21 := rC_th hkd hbb ht hth i (b2_n0.mp c21)
          refine kw_aload_n dX12_lostFrom_24 rfl ?_
          refine kw_get dX12_lostFrom_25 fl_X12_33 rfl rfl ?_
          refine kw_iload_n dX12_lostFrom_28 rfl ?_
          refine kw_zaldN dX12_lostFrom_29 rfl (by omega) (by decide) ?_
          refine kw_if_ne (tgt := 37) dX12_lostFrom_30 (by decide) (fun c30 => ?_) (fun c30 => ?_)
          · skip
            refine kw_iconst (v := 0) dX12_lostFrom_37 (by decide) ?_
            refine kw_iadd dX12_lostFrom_38 ?_
            refine kw_top (v' := pi_ 0) (by decide) ?_
            refine kw_istore_n dX12_lostFrom_39 (Nat.le_of_ble_eq_true rfl) ?_
            refine kw_iinc dX12_lostFrom_40 rfl (nI_i i) ?_
            refine kw_goto (tgt := 9) dX12_lostFrom_43 (by decide) ?_
            exact ih (i + 1) (by omega) (by omega)
          · skip
            exact absurd c30 (by rw [e21]; decide)
  refine kw_iconst (v := 0) dX12_lostFrom_5 (by decide) ?_
  refine kw_istore_n dX12_lostFrom_6 (Nat.le_of_ble_eq_true rfl) ?_
  refine kw_iconst (v := 0) dX12_lostFrom_7 (by decide) ?_
  refine kw_istore_n dX12_lostFrom_8 (Nat.le_of_ble_eq_true rfl) ?_
  exact loop (b + 2) 0 (by omega) (by omega)
set_option maxHeartbeats 4000000 in
set_option maxRecDepth 100000 in
theorem n_wrong (l : Launch) (s : SG) (k : KG) (hb : nb_ s ≤ 80) (hp : np_ s ≤ 40) (hcap : cap_ s ≤ 1000) (hv : VP s) : kw_F l yX12_wrongPlaces cX12_wrongPlaces 6 (Option.some Jvm.ClassFile.FieldType.int) { frames := 1, cells := 0, slots := 0, locals := 23 } [pr_ (40, 0)] (hM s k) (some (pi_ 0)) (hM s k) := by
  refine kw_M_of RX12 "wrongPlaces" [some (pr_ (40, 0)), none, none, none, none, none] (by decide) rfl rfl rfl (Nat.le_of_ble_eq_true rfl) ?_
  intro D ad A
  refine kw_Kgen (fun K hK => ?_)
  obtain ⟨h1, h2, h3, h4⟩ := hv
  have loopP : ∀ (n_ : Nat) (i : Nat), np_ s - i < n_ → i ≤ np_ s → kw_G l D cX12_wrongPlaces RX12 (Option.some Jvm.ClassFile.FieldType.int) "wrongPlaces" { frames := 1, cells := 0, slots := 0, locals := 23 } A K ad (hM s k) 0 0 187 [some (pr_ (40, 0)), some (pi_ 0), some (pi_ (nI i)), none, none, none] [] := by
    intro n_
    induction n_ with
    | zero =>
      intro i hm_
      exact absurd hm_ (Nat.not_lt_zero _)
    | succ n_ ih =>
      intro i hm_ hi
      refine kw_iload_n dX12_wrongPlaces_187 rfl ?_
      refine kw_aload_n dX12_wrongPlaces_188 rfl ?_
      refine kw_get dX12_wrongPlaces_189 fl_X12_178 rfl rfl ?_
      refine kw_icmp_ge (tgt := 245) dX12_wrongPlaces_192 (by decide) (fun c192 => ?_) (fun c192 => ?_)
      · skip
        refine kw_iload_n dX12_wrongPlaces_245 rfl ?_
        exact kw_iret dX12_wrongPlaces_246 rfl (Nat.le_of_ble_eq_true rfl) (Nat.le_of_ble_eq_true rfl) (hK _ _ _ ⟨rfl, rfl, rfl⟩)
      · skip
        have hlt : i < np_ s := nI_nle' (by omega) (by omega) c192
        obtain ⟨ha, hby⟩ := h4 i hlt
        refine kw_iload_n dX12_wrongPlaces_195 rfl ?_
        refine kw_aload_n dX12_wrongPlaces_196 rfl ?_
        refine kw_get dX12_wrongPlaces_197 fl_X12_49 rfl rfl ?_
        refine kw_iload_n dX12_wrongPlaces_200 rfl ?_
        refine kw_ialdN dX12_wrongPlaces_201 rfl (by omega) (by decide) ?_
        refine kw_aload_n dX12_wrongPlaces_202 rfl ?_
        refine kw_get dX12_wrongPlaces_203 fl_X12_124 rfl rfl ?_
        refine kw_icmp_gt (tgt := 232) dX12_wrongPlaces_206 (by decide) (fun c206 => ?_) (fun c206 => ?_)
        · skip
          exact absurd (nI_lt' (by omega) (by omega) c206) (by omega)
        · skip
          refine kw_aload_n dX12_wrongPlaces_209 rfl ?_
          refine kw_get dX12_wrongPlaces_210 fl_X12_46 rfl rfl ?_
          refine kw_iload_n dX12_wrongPlaces_213 rfl ?_
          refine kw_zaldN dX12_wrongPlaces_214 rfl (by omega) (by decide) ?_
          refine kw_if_ne (tgt := 236) dX12_wrongPlaces_215 (by decide) (fun c215 => ?_) (fun c215 => ?_)
          · skip
            refine kw_iconst (v := 0) dX12_wrongPlaces_236 (by decide) ?_
            refine kw_iadd dX12_wrongPlaces_237 ?_
            refine kw_top (v' := pi_ 0) (by decide) ?_
            refine kw_istore_n dX12_wrongPlaces_238 (Nat.le_of_ble_eq_true rfl) ?_
            refine kw_iinc dX12_wrongPlaces_239 rfl (nI_i i) ?_
            refine kw_goto (tgt := 187) dX12_wrongPlaces_242 (by decide) ?_
            exact ih (i + 1) (by omega) (by omega)
          · skip
            refine kw_aload_n dX12_wrongPlaces_218 rfl ?_
            refine kw_iload_n dX12_wrongPlaces_219 rfl ?_
            refine kw_callVf (As := [pi_ (nI i)]) (n_bytes l s k hb (nI i)) dX12_wrongPlaces_220 cl_X12_288 rfl rfl rfl rfl (Nat.le_of_ble_eq_true rfl) ⟨(Nat.le_of_ble_eq_true rfl), (Nat.le_of_ble_eq_true rfl), (Nat.le_of_ble_eq_true rfl), (Nat.le_of_ble_eq_true rfl)⟩ ?_
            refine kw_aload_n dX12_wrongPlaces_223 rfl ?_
            refine kw_get dX12_wrongPlaces_224 fl_X12_49 rfl rfl ?_
            refine kw_iload_n dX12_wrongPlaces_227 rfl ?_
            refine kw_ialdN dX12_wrongPlaces_228 rfl (by omega) (by decide) ?_
            refine kw_icmp_le (tgt := 236) dX12_wrongPlaces_229 (by decide) (fun c229 => ?_) (fun c229 => ?_)
            · skip
              refine kw_iconst (v := 0) dX12_wrongPlaces_236 (by decide) ?_
              refine kw_iadd dX12_wrongPlaces_237 ?_
              refine kw_top (v' := pi_ 0) (by decide) ?_
              refine kw_istore_n dX12_wrongPlaces_238 (Nat.le_of_ble_eq_true rfl) ?_
              refine kw_iinc dX12_wrongPlaces_239 rfl (nI_i i) ?_
              refine kw_goto (tgt := 187) dX12_wrongPlaces_242 (by decide) ?_
              exact ih (i + 1) (by omega) (by omega)
            · skip
              exact absurd (nI_le (a := byN s i) (b := al_ s i) hby (by omega)) c229
  have loop : ∀ (n_ : Nat) (b : Nat), nb_ s - b < n_ → b ≤ nb_ s → kw_G l D cX12_wrongPlaces RX12 (Option.some Jvm.ClassFile.FieldType.int) "wrongPlaces" { frames := 1, cells := 0, slots := 0, locals := 23 } A K ad (hM s k) 0 0 4 [some (pr_ (40, 0)), some (pi_ 0), some (pi_ (nI b)), none, none, none] [] := by
    intro n_
    induction n_ with
    | zero =>
      intro b hm_
      exact absurd hm_ (Nat.not_lt_zero _)
    | succ n_ ih =>
      intro b hm_ hbl
      refine kw_iload_n dX12_wrongPlaces_4 rfl ?_
      refine kw_aload_n dX12_wrongPlaces_5 rfl ?_
      refine kw_get dX12_wrongPlaces_6 fl_X12_156 rfl rfl ?_
      refine kw_icmp_ge (tgt := 185) dX12_wrongPlaces_9 (by decide) (fun c9 => ?_) (fun c9 => ?_)
      · skip
        refine kw_iconst (v := 0) dX12_wrongPlaces_185 (by decide) ?_
        refine kw_istore_n dX12_wrongPlaces_186 (Nat.le_of_ble_eq_true rfl) ?_
        refine kw_lvle (lv' := [some (pr_ (40, 0)), some (pi_ 0), some (pi_ (nI 0)), none, none, none]) (kw_le_s (kw_le_s (kw_le_s (kw_le_n (kw_le_n (kw_le_n kw_le_0)))))) ?_
        exact loopP (np_ s + 1) 0 (by omega) (by omega)
      · skip
        have hlt : b < nb_ s := nI_nle' (by omega) (by omega) c9
        have hb1 := h1 b hlt
        refine kw_aload_n dX12_wrongPlaces_12 rfl ?_
        refine kw_get dX12_wrongPlaces_13 fl_X12_33 rfl rfl ?_
        refine kw_iload_n dX12_wrongPlaces_16 rfl ?_
        refine kw_zaldN dX12_wrongPlaces_17 rfl (by omega) (by decide) ?_
        refine kw_if_eq (tgt := 179) dX12_wrongPlaces_18 (by decide) (fun c18 => ?_) (fun c18 => ?_)
        · skip
          refine kw_iinc dX12_wrongPlaces_179 rfl (nI_i b) ?_
          refine kw_goto (tgt := 4) dX12_wrongPlaces_182 (by decide) ?_
          refine kw_lvle (lv' := [some (pr_ (40, 0)), some (pi_ 0), some (pi_ (nI (b + 1))), none, none, none]) (kw_le_s (kw_le_s (kw_le_s (kw_le_n (kw_le_n (kw_le_n kw_le_0)))))) ?_
          exact ih (b + 1) (by omega) (by omega)
        · skip
          have hth := b2_n0.mp c18
          obtain ⟨g1, g2⟩ := h2 b hlt hth
          have g3 := (h4 (pk_ s b) hb1.1).1
          have inner : ∀ (n_ : Nat) (q : Nat), b - q < n_ → q ≤ b → kw_G l D cX12_wrongPlaces RX12 (Option.some Jvm.ClassFile.FieldType.int) "wrongPlaces" { frames := 1, cells := 0, slots := 0, locals := 23 } A K ad (hM s k) 0 0 79 [some (pr_ (40, 0)), some (pi_ 0), some (pi_ (nI b)), some (pi_ (nI (pk_ s b))), some (pi_ (nI q)), none] [] := by
            intro n_
            induction n_ with
            | zero =>
              intro q hm_
              exact absurd hm_ (Nat.not_lt_zero _)
            | succ n_ ih2 =>
              intro q hm_ hq
              refine kw_iload dX12_wrongPlaces_79 rfl ?_
              refine kw_iload_n dX12_wrongPlaces_81 rfl ?_
              refine kw_icmp_ge (tgt := 179) dX12_wrongPlaces_82 (by decide) (fun c82 => ?_) (fun c82 => ?_)
              · skip
                refine kw_iinc dX12_wrongPlaces_179 rfl (nI_i b) ?_
                refine kw_goto (tgt := 4) dX12_wrongPlaces_182 (by decide) ?_
                refine kw_lvle (lv' := [some (pr_ (40, 0)), some (pi_ 0), some (pi_ (nI (b + 1))), none, none, none]) (kw_le_s (kw_le_s (kw_le_s (kw_le_n (kw_le_n (kw_le_n kw_le_0)))))) ?_
                exact ih (b + 1) (by omega) (by omega)
              · skip
                have hlq : q < b := nI_nle' (by omega) (by omega) c82
                have hq1 := h1 q (by omega)
                by_cases hbad : th_ s q = true ∧ pk_ s q = pk_ s b
                · have hdis := h3 q b hlq hlt hbad.1 hth hbad.2
                  refine kw_aload_n dX12_wrongPlaces_85 rfl ?_
                  refine kw_get dX12_wrongPlaces_86 fl_X12_40 rfl rfl ?_
                  refine kw_iload dX12_wrongPlaces_89 rfl ?_
                  refine kw_ialdN dX12_wrongPlaces_91 rfl (by omega) (by decide) ?_
                  refine kw_aload_n dX12_wrongPlaces_92 rfl ?_
                  refine kw_get dX12_wrongPlaces_93 fl_X12_40 rfl rfl ?_
                  refine kw_iload_n dX12_wrongPlaces_96 rfl ?_
                  refine kw_ialdN dX12_wrongPlaces_97 rfl (by omega) (by decide) ?_
                  refine kw_aload_n dX12_wrongPlaces_98 rfl ?_
                  refine kw_get dX12_wrongPlaces_99 fl_X12_23 rfl rfl ?_
                  refine kw_iload_n dX12_wrongPlaces_102 rfl ?_
                  refine kw_ialdN dX12_wrongPlaces_103 rfl (by omega) (by decide) ?_
                  refine kw_iadd dX12_wrongPlaces_104 ?_
                  refine kw_top (v' := pi_ (nI (pp_ s b + sz_ s b))) (by rw [nI_add]) ?_
                  refine kw_icmp_ge (tgt := 136) dX12_wrongPlaces_105 (by decide) (fun c105 => ?_) (fun c105 => ?_)
                  · skip
                    refine kw_iconst (v := 0) dX12_wrongPlaces_136 (by decide) ?_
                    refine kw_istore dX12_wrongPlaces_137 (Nat.le_of_ble_eq_true rfl) ?_
                    refine kw_iload_n dX12_wrongPlaces_139 rfl ?_
                    refine kw_aload_n dX12_wrongPlaces_140 rfl ?_
                    refine kw_get dX12_wrongPlaces_141 fl_X12_33 rfl rfl ?_
                    refine kw_iload dX12_wrongPlaces_144 rfl ?_
                    refine kw_zaldN dX12_wrongPlaces_146 rfl (by omega) (by decide) ?_
                    refine kw_if_eq (tgt := 170) dX12_wrongPlaces_147 (by decide) (fun c147 => ?_) (fun c147 => ?_)
                    · skip
                      refine kw_iconst (v := 0) dX12_wrongPlaces_170 (by decide) ?_
                      refine kw_iadd dX12_wrongPlaces_171 ?_
                      refine kw_top (v' := pi_ 0) (by decide) ?_
                      refine kw_istore_n dX12_wrongPlaces_172 (Nat.le_of_ble_eq_true rfl) ?_
                      refine kw_iinc dX12_wrongPlaces_173 rfl (nI_i q) ?_
                      refine kw_goto (tgt := 79) dX12_wrongPlaces_176 (by decide) ?_
                      refine kw_lvle (lv' := [some (pr_ (40, 0)), some (pi_ 0), some (pi_ (nI b)), some (pi_ (nI (pk_ s b))), some (pi_ (nI (q + 1))), none]) (kw_le_s (kw_le_s (kw_le_s (kw_le_s (kw_le_s (kw_le_n kw_le_0)))))) ?_
                      exact ih2 (q + 1) (by omega) (by omega)
                    · skip
                      have e147 := b2_n0.mp c147
                      refine kw_aload_n dX12_wrongPlaces_150 rfl ?_
                      refine kw_get dX12_wrongPlaces_151 fl_X12_37 rfl rfl ?_
                      refine kw_iload dX12_wrongPlaces_154 rfl ?_
                      refine kw_ialdN dX12_wrongPlaces_156 rfl (by omega) (by decide) ?_
                      refine kw_iload_n dX12_wrongPlaces_157 rfl ?_
                      refine kw_icmp_ne (tgt := 170) dX12_wrongPlaces_158 (by decide) (fun c158 => ?_) (fun c158 => ?_)
                      · skip
                        refine kw_iconst (v := 0) dX12_wrongPlaces_170 (by decide) ?_
                        refine kw_iadd dX12_wrongPlaces_171 ?_
                        refine kw_top (v' := pi_ 0) (by decide) ?_
                        refine kw_istore_n dX12_wrongPlaces_172 (Nat.le_of_ble_eq_true rfl) ?_
                        refine kw_iinc dX12_wrongPlaces_173 rfl (nI_i q) ?_
                        refine kw_goto (tgt := 79) dX12_wrongPlaces_176 (by decide) ?_
                        refine kw_lvle (lv' := [some (pr_ (40, 0)), some (pi_ 0), some (pi_ (nI b)), some (pi_ (nI (pk_ s b))), some (pi_ (nI (q + 1))), none]) (kw_le_s (kw_le_s (kw_le_s (kw_le_s (kw_le_s (kw_le_n kw_le_0)))))) ?_
                        exact ih2 (q + 1) (by omega) (by omega)
                      · skip
                        have e158 : pk_ s q = pk_ s b := nI_eq' (by omega) (by omega) c158
                        refine kw_iload dX12_wrongPlaces_161 rfl ?_
                        refine kw_if_eq (tgt := 170) dX12_wrongPlaces_163 (by decide) (fun c163 => ?_) (fun c163 => ?_)
                        · skip
                          refine kw_iconst (v := 0) dX12_wrongPlaces_170 (by decide) ?_
                          refine kw_iadd dX12_wrongPlaces_171 ?_
                          refine kw_top (v' := pi_ 0) (by decide) ?_
                          refine kw_istore_n dX12_wrongPlaces_172 (Nat.le_of_ble_eq_true rfl) ?_
                          refine kw_iinc dX12_wrongPlaces_173 rfl (nI_i q) ?_
                          refine kw_goto (tgt := 79) dX12_wrongPlaces_176 (by decide) ?_
                          refine kw_lvle (lv' := [some (pr_ (40, 0)), some (pi_ 0), some (pi_ (nI b)), some (pi_ (nI (pk_ s b))), some (pi_ (nI (q + 1))), none]) (kw_le_s (kw_le_s (kw_le_s (kw_le_s (kw_le_s (kw_le_n kw_le_0)))))) ?_
                          exact ih2 (q + 1) (by omega) (by omega)
                        · skip
                          exact absurd rfl c163
                  · skip
                    have e105 : pp_ s q < pp_ s b + sz_ s b := nI_nle' (by omega) (by omega) c105
                    refine kw_aload_n dX12_wrongPlaces_108 rfl ?_
                    refine kw_get dX12_wrongPlaces_109 fl_X12_40 rfl rfl ?_
                    refine kw_iload_n dX12_wrongPlaces_112 rfl ?_
                    refine kw_ialdN dX12_wrongPlaces_113 rfl (by omega) (by decide) ?_
                    refine kw_aload_n dX12_wrongPlaces_114 rfl ?_
                    refine kw_get dX12_wrongPlaces_115 fl_X12_40 rfl rfl ?_
                    refine kw_iload dX12_wrongPlaces_118 rfl ?_
                    refine kw_ialdN dX12_wrongPlaces_120 rfl (by omega) (by decide) ?_
                    refine kw_aload_n dX12_wrongPlaces_121 rfl ?_
                    refine kw_get dX12_wrongPlaces_122 fl_X12_23 rfl rfl ?_
                    refine kw_iload dX12_wrongPlaces_125 rfl ?_
                    refine kw_ialdN dX12_wrongPlaces_127 rfl (by omega) (by decide) ?_
                    refine kw_iadd dX12_wrongPlaces_128 ?_
                    refine kw_top (v' := pi_ (nI (pp_ s q + sz_ s q))) (by rw [nI_add]) ?_
                    refine kw_icmp_ge (tgt := 136) dX12_wrongPlaces_129 (by decide) (fun c129 => ?_) (fun c129 => ?_)
                    · skip
                      refine kw_iconst (v := 0) dX12_wrongPlaces_136 (by decide) ?_
                      refine kw_istore dX12_wrongPlaces_137 (Nat.le_of_ble_eq_true rfl) ?_
                      refine kw_iload_n dX12_wrongPlaces_139 rfl ?_
                      refine kw_aload_n dX12_wrongPlaces_140 rfl ?_
                      refine kw_get dX12_wrongPlaces_141 fl_X12_33 rfl rfl ?_
                      refine kw_iload dX12_wrongPlaces_144 rfl ?_
                      refine kw_zaldN dX12_wrongPlaces_146 rfl (by omega) (by decide) ?_
                      refine kw_if_eq (tgt := 170) dX12_wrongPlaces_147 (by decide) (fun c147 => ?_) (fun c147 => ?_)
                      · skip
                        refine kw_iconst (v := 0) dX12_wrongPlaces_170 (by decide) ?_
                        refine kw_iadd dX12_wrongPlaces_171 ?_
                        refine kw_top (v' := pi_ 0) (by decide) ?_
                        refine kw_istore_n dX12_wrongPlaces_172 (Nat.le_of_ble_eq_true rfl) ?_
                        refine kw_iinc dX12_wrongPlaces_173 rfl (nI_i q) ?_
                        refine kw_goto (tgt := 79) dX12_wrongPlaces_176 (by decide) ?_
                        refine kw_lvle (lv' := [some (pr_ (40, 0)), some (pi_ 0), some (pi_ (nI b)), some (pi_ (nI (pk_ s b))), some (pi_ (nI (q + 1))), none]) (kw_le_s (kw_le_s (kw_le_s (kw_le_s (kw_le_s (kw_le_n kw_le_0)))))) ?_
                        exact ih2 (q + 1) (by omega) (by omega)
                      · skip
                        have e147 := b2_n0.mp c147
                        refine kw_aload_n dX12_wrongPlaces_150 rfl ?_
                        refine kw_get dX12_wrongPlaces_151 fl_X12_37 rfl rfl ?_
                        refine kw_iload dX12_wrongPlaces_154 rfl ?_
                        refine kw_ialdN dX12_wrongPlaces_156 rfl (by omega) (by decide) ?_
                        refine kw_iload_n dX12_wrongPlaces_157 rfl ?_
                        refine kw_icmp_ne (tgt := 170) dX12_wrongPlaces_158 (by decide) (fun c158 => ?_) (fun c158 => ?_)
                        · skip
                          refine kw_iconst (v := 0) dX12_wrongPlaces_170 (by decide) ?_
                          refine kw_iadd dX12_wrongPlaces_171 ?_
                          refine kw_top (v' := pi_ 0) (by decide) ?_
                          refine kw_istore_n dX12_wrongPlaces_172 (Nat.le_of_ble_eq_true rfl) ?_
                          refine kw_iinc dX12_wrongPlaces_173 rfl (nI_i q) ?_
                          refine kw_goto (tgt := 79) dX12_wrongPlaces_176 (by decide) ?_
                          refine kw_lvle (lv' := [some (pr_ (40, 0)), some (pi_ 0), some (pi_ (nI b)), some (pi_ (nI (pk_ s b))), some (pi_ (nI (q + 1))), none]) (kw_le_s (kw_le_s (kw_le_s (kw_le_s (kw_le_s (kw_le_n kw_le_0)))))) ?_
                          exact ih2 (q + 1) (by omega) (by omega)
                        · skip
                          have e158 : pk_ s q = pk_ s b := nI_eq' (by omega) (by omega) c158
                          refine kw_iload dX12_wrongPlaces_161 rfl ?_
                          refine kw_if_eq (tgt := 170) dX12_wrongPlaces_163 (by decide) (fun c163 => ?_) (fun c163 => ?_)
                          · skip
                            refine kw_iconst (v := 0) dX12_wrongPlaces_170 (by decide) ?_
                            refine kw_iadd dX12_wrongPlaces_171 ?_
                            refine kw_top (v' := pi_ 0) (by decide) ?_
                            refine kw_istore_n dX12_wrongPlaces_172 (Nat.le_of_ble_eq_true rfl) ?_
                            refine kw_iinc dX12_wrongPlaces_173 rfl (nI_i q) ?_
                            refine kw_goto (tgt := 79) dX12_wrongPlaces_176 (by decide) ?_
                            refine kw_lvle (lv' := [some (pr_ (40, 0)), some (pi_ 0), some (pi_ (nI b)), some (pi_ (nI (pk_ s b))), some (pi_ (nI (q + 1))), none]) (kw_le_s (kw_le_s (kw_le_s (kw_le_s (kw_le_s (kw_le_n kw_le_0)))))) ?_
                            exact ih2 (q + 1) (by omega) (by omega)
                          · skip
                            exact absurd rfl c163
                    · skip
                      exact absurd (nI_nle' (by omega) (by omega) c129) (by omega)
                refine kw_aload_n dX12_wrongPlaces_85 rfl ?_
                refine kw_get dX12_wrongPlaces_86 fl_X12_40 rfl rfl ?_
                refine kw_iload dX12_wrongPlaces_89 rfl ?_
                refine kw_ialdN dX12_wrongPlaces_91 rfl (by omega) (by decide) ?_
                refine kw_aload_n dX12_wrongPlaces_92 rfl ?_
                refine kw_get dX12_wrongPlaces_93 fl_X12_40 rfl rfl ?_
                refine kw_iload_n dX12_wrongPlaces_96 rfl ?_
                refine kw_ialdN dX12_wrongPlaces_97 rfl (by omega) (by decide) ?_
                refine kw_aload_n dX12_wrongPlaces_98 rfl ?_
                refine kw_get dX12_wrongPlaces_99 fl_X12_23 rfl rfl ?_
                refine kw_iload_n dX12_wrongPlaces_102 rfl ?_
                refine kw_ialdN dX12_wrongPlaces_103 rfl (by omega) (by decide) ?_
                refine kw_iadd dX12_wrongPlaces_104 ?_
                refine kw_top (v' := pi_ (nI (pp_ s b + sz_ s b))) (by rw [nI_add]) ?_
                refine kw_icmp_ge (tgt := 136) dX12_wrongPlaces_105 (by decide) (fun c105 => ?_) (fun c105 => ?_)
                · skip
                  refine kw_iconst (v := 0) dX12_wrongPlaces_136 (by decide) ?_
                  refine kw_istore dX12_wrongPlaces_137 (Nat.le_of_ble_eq_true rfl) ?_
                  refine kw_iload_n dX12_wrongPlaces_139 rfl ?_
                  refine kw_aload_n dX12_wrongPlaces_140 rfl ?_
                  refine kw_get dX12_wrongPlaces_141 fl_X12_33 rfl rfl ?_
                  refine kw_iload dX12_wrongPlaces_144 rfl ?_
                  refine kw_zaldN dX12_wrongPlaces_146 rfl (by omega) (by decide) ?_
                  refine kw_if_eq (tgt := 170) dX12_wrongPlaces_147 (by decide) (fun c147 => ?_) (fun c147 => ?_)
                  · skip
                    refine kw_iconst (v := 0) dX12_wrongPlaces_170 (by decide) ?_
                    refine kw_iadd dX12_wrongPlaces_171 ?_
                    refine kw_top (v' := pi_ 0) (by decide) ?_
                    refine kw_istore_n dX12_wrongPlaces_172 (Nat.le_of_ble_eq_true rfl) ?_
                    refine kw_iinc dX12_wrongPlaces_173 rfl (nI_i q) ?_
                    refine kw_goto (tgt := 79) dX12_wrongPlaces_176 (by decide) ?_
                    refine kw_lvle (lv' := [some (pr_ (40, 0)), some (pi_ 0), some (pi_ (nI b)), some (pi_ (nI (pk_ s b))), some (pi_ (nI (q + 1))), none]) (kw_le_s (kw_le_s (kw_le_s (kw_le_s (kw_le_s (kw_le_n kw_le_0)))))) ?_
                    exact ih2 (q + 1) (by omega) (by omega)
                  · skip
                    have e147 := b2_n0.mp c147
                    refine kw_aload_n dX12_wrongPlaces_150 rfl ?_
                    refine kw_get dX12_wrongPlaces_151 fl_X12_37 rfl rfl ?_
                    refine kw_iload dX12_wrongPlaces_154 rfl ?_
                    refine kw_ialdN dX12_wrongPlaces_156 rfl (by omega) (by decide) ?_
                    refine kw_iload_n dX12_wrongPlaces_157 rfl ?_
                    refine kw_icmp_ne (tgt := 170) dX12_wrongPlaces_158 (by decide) (fun c158 => ?_) (fun c158 => ?_)
                    · skip
                      refine kw_iconst (v := 0) dX12_wrongPlaces_170 (by decide) ?_
                      refine kw_iadd dX12_wrongPlaces_171 ?_
                      refine kw_top (v' := pi_ 0) (by decide) ?_
                      refine kw_istore_n dX12_wrongPlaces_172 (Nat.le_of_ble_eq_true rfl) ?_
                      refine kw_iinc dX12_wrongPlaces_173 rfl (nI_i q) ?_
                      refine kw_goto (tgt := 79) dX12_wrongPlaces_176 (by decide) ?_
                      refine kw_lvle (lv' := [some (pr_ (40, 0)), some (pi_ 0), some (pi_ (nI b)), some (pi_ (nI (pk_ s b))), some (pi_ (nI (q + 1))), none]) (kw_le_s (kw_le_s (kw_le_s (kw_le_s (kw_le_s (kw_le_n kw_le_0)))))) ?_
                      exact ih2 (q + 1) (by omega) (by omega)
                    · skip
                      exact absurd ⟨e147, nI_eq' (by omega) (by omega) c158⟩ hbad
                · skip
                  refine kw_aload_n dX12_wrongPlaces_108 rfl ?_
                  refine kw_get dX12_wrongPlaces_109 fl_X12_40 rfl rfl ?_
                  refine kw_iload_n dX12_wrongPlaces_112 rfl ?_
                  refine kw_ialdN dX12_wrongPlaces_113 rfl (by omega) (by decide) ?_
                  refine kw_aload_n dX12_wrongPlaces_114 rfl ?_
                  refine kw_get dX12_wrongPlaces_115 fl_X12_40 rfl rfl ?_
                  refine kw_iload dX12_wrongPlaces_118 rfl ?_
                  refine kw_ialdN dX12_wrongPlaces_120 rfl (by omega) (by decide) ?_
                  refine kw_aload_n dX12_wrongPlaces_121 rfl ?_
                  refine kw_get dX12_wrongPlaces_122 fl_X12_23 rfl rfl ?_
                  refine kw_iload dX12_wrongPlaces_125 rfl ?_
                  refine kw_ialdN dX12_wrongPlaces_127 rfl (by omega) (by decide) ?_
                  refine kw_iadd dX12_wrongPlaces_128 ?_
                  refine kw_top (v' := pi_ (nI (pp_ s q + sz_ s q))) (by rw [nI_add]) ?_
                  refine kw_icmp_ge (tgt := 136) dX12_wrongPlaces_129 (by decide) (fun c129 => ?_) (fun c129 => ?_)
                  · skip
                    refine kw_iconst (v := 0) dX12_wrongPlaces_136 (by decide) ?_
                    refine kw_istore dX12_wrongPlaces_137 (Nat.le_of_ble_eq_true rfl) ?_
                    refine kw_iload_n dX12_wrongPlaces_139 rfl ?_
                    refine kw_aload_n dX12_wrongPlaces_140 rfl ?_
                    refine kw_get dX12_wrongPlaces_141 fl_X12_33 rfl rfl ?_
                    refine kw_iload dX12_wrongPlaces_144 rfl ?_
                    refine kw_zaldN dX12_wrongPlaces_146 rfl (by omega) (by decide) ?_
                    refine kw_if_eq (tgt := 170) dX12_wrongPlaces_147 (by decide) (fun c147 => ?_) (fun c147 => ?_)
                    · skip
                      refine kw_iconst (v := 0) dX12_wrongPlaces_170 (by decide) ?_
                      refine kw_iadd dX12_wrongPlaces_171 ?_
                      refine kw_top (v' := pi_ 0) (by decide) ?_
                      refine kw_istore_n dX12_wrongPlaces_172 (Nat.le_of_ble_eq_true rfl) ?_
                      refine kw_iinc dX12_wrongPlaces_173 rfl (nI_i q) ?_
                      refine kw_goto (tgt := 79) dX12_wrongPlaces_176 (by decide) ?_
                      refine kw_lvle (lv' := [some (pr_ (40, 0)), some (pi_ 0), some (pi_ (nI b)), some (pi_ (nI (pk_ s b))), some (pi_ (nI (q + 1))), none]) (kw_le_s (kw_le_s (kw_le_s (kw_le_s (kw_le_s (kw_le_n kw_le_0)))))) ?_
                      exact ih2 (q + 1) (by omega) (by omega)
                    · skip
                      have e147 := b2_n0.mp c147
                      refine kw_aload_n dX12_wrongPlaces_150 rfl ?_
                      refine kw_get dX12_wrongPlaces_151 fl_X12_37 rfl rfl ?_
                      refine kw_iload dX12_wrongPlaces_154 rfl ?_
                      refine kw_ialdN dX12_wrongPlaces_156 rfl (by omega) (by decide) ?_
                      refine kw_iload_n dX12_wrongPlaces_157 rfl ?_
                      refine kw_icmp_ne (tgt := 170) dX12_wrongPlaces_158 (by decide) (fun c158 => ?_) (fun c158 => ?_)
                      · skip
                        refine kw_iconst (v := 0) dX12_wrongPlaces_170 (by decide) ?_
                        refine kw_iadd dX12_wrongPlaces_171 ?_
                        refine kw_top (v' := pi_ 0) (by decide) ?_
                        refine kw_istore_n dX12_wrongPlaces_172 (Nat.le_of_ble_eq_true rfl) ?_
                        refine kw_iinc dX12_wrongPlaces_173 rfl (nI_i q) ?_
                        refine kw_goto (tgt := 79) dX12_wrongPlaces_176 (by decide) ?_
                        refine kw_lvle (lv' := [some (pr_ (40, 0)), some (pi_ 0), some (pi_ (nI b)), some (pi_ (nI (pk_ s b))), some (pi_ (nI (q + 1))), none]) (kw_le_s (kw_le_s (kw_le_s (kw_le_s (kw_le_s (kw_le_n kw_le_0)))))) ?_
                        exact ih2 (q + 1) (by omega) (by omega)
                      · skip
                        exact absurd ⟨e147, nI_eq' (by omega) (by omega) c158⟩ hbad
                  · skip
                    refine kw_iconst (v := 1) dX12_wrongPlaces_132 (by decide) ?_
                    refine kw_goto (tgt := 137) dX12_wrongPlaces_133 (by decide) ?_
                    refine kw_istore dX12_wrongPlaces_137 (Nat.le_of_ble_eq_true rfl) ?_
                    refine kw_iload_n dX12_wrongPlaces_139 rfl ?_
                    refine kw_aload_n dX12_wrongPlaces_140 rfl ?_
                    refine kw_get dX12_wrongPlaces_141 fl_X12_33 rfl rfl ?_
                    refine kw_iload dX12_wrongPlaces_144 rfl ?_
                    refine kw_zaldN dX12_wrongPlaces_146 rfl (by omega) (by decide) ?_
                    refine kw_if_eq (tgt := 170) dX12_wrongPlaces_147 (by decide) (fun c147 => ?_) (fun c147 => ?_)
                    · skip
                      refine kw_iconst (v := 0) dX12_wrongPlaces_170 (by decide) ?_
                      refine kw_iadd dX12_wrongPlaces_171 ?_
                      refine kw_top (v' := pi_ 0) (by decide) ?_
                      refine kw_istore_n dX12_wrongPlaces_172 (Nat.le_of_ble_eq_true rfl) ?_
                      refine kw_iinc dX12_wrongPlaces_173 rfl (nI_i q) ?_
                      refine kw_goto (tgt := 79) dX12_wrongPlaces_176 (by decide) ?_
                      refine kw_lvle (lv' := [some (pr_ (40, 0)), some (pi_ 0), some (pi_ (nI b)), some (pi_ (nI (pk_ s b))), some (pi_ (nI (q + 1))), none]) (kw_le_s (kw_le_s (kw_le_s (kw_le_s (kw_le_s (kw_le_n kw_le_0)))))) ?_
                      exact ih2 (q + 1) (by omega) (by omega)
                    · skip
                      have e147 := b2_n0.mp c147
                      refine kw_aload_n dX12_wrongPlaces_150 rfl ?_
                      refine kw_get dX12_wrongPlaces_151 fl_X12_37 rfl rfl ?_
                      refine kw_iload dX12_wrongPlaces_154 rfl ?_
                      refine kw_ialdN dX12_wrongPlaces_156 rfl (by omega) (by decide) ?_
                      refine kw_iload_n dX12_wrongPlaces_157 rfl ?_
                      refine kw_icmp_ne (tgt := 170) dX12_wrongPlaces_158 (by decide) (fun c158 => ?_) (fun c158 => ?_)
                      · skip
                        refine kw_iconst (v := 0) dX12_wrongPlaces_170 (by decide) ?_
                        refine kw_iadd dX12_wrongPlaces_171 ?_
                        refine kw_top (v' := pi_ 0) (by decide) ?_
                        refine kw_istore_n dX12_wrongPlaces_172 (Nat.le_of_ble_eq_true rfl) ?_
                        refine kw_iinc dX12_wrongPlaces_173 rfl (nI_i q) ?_
                        refine kw_goto (tgt := 79) dX12_wrongPlaces_176 (by decide) ?_
                        refine kw_lvle (lv' := [some (pr_ (40, 0)), some (pi_ 0), some (pi_ (nI b)), some (pi_ (nI (pk_ s b))), some (pi_ (nI (q + 1))), none]) (kw_le_s (kw_le_s (kw_le_s (kw_le_s (kw_le_s (kw_le_n kw_le_0)))))) ?_
                        exact ih2 (q + 1) (by omega) (by omega)
                      · skip
                        exact absurd ⟨e147, nI_eq' (by omega) (by omega) c158⟩ hbad
          refine kw_aload_n dX12_wrongPlaces_21 rfl ?_
          refine kw_get dX12_wrongPlaces_22 fl_X12_37 rfl rfl ?_
          refine kw_iload_n dX12_wrongPlaces_25 rfl ?_
          refine kw_ialdN dX12_wrongPlaces_26 rfl (by omega) (by decide) ?_
          refine kw_istore_n dX12_wrongPlaces_27 (Nat.le_of_ble_eq_true rfl) ?_
          refine kw_iload_n dX12_wrongPlaces_28 rfl ?_
          refine kw_aload_n dX12_wrongPlaces_29 rfl ?_
          refine kw_get dX12_wrongPlaces_30 fl_X12_46 rfl rfl ?_
          refine kw_iload_n dX12_wrongPlaces_33 rfl ?_
          refine kw_zaldN dX12_wrongPlaces_34 rfl (by omega) (by decide) ?_
          refine kw_if_ne (tgt := 69) dX12_wrongPlaces_35 (by decide) (fun c35 => ?_) (fun c35 => ?_)
          · skip
            exact absurd (by rw [g1]; rfl) c35
          · skip
            refine kw_aload_n dX12_wrongPlaces_38 rfl ?_
            refine kw_get dX12_wrongPlaces_39 fl_X12_40 rfl rfl ?_
            refine kw_iload_n dX12_wrongPlaces_42 rfl ?_
            refine kw_ialdN dX12_wrongPlaces_43 rfl (by omega) (by decide) ?_
            refine kw_if_lt (tgt := 69) dX12_wrongPlaces_44 (by decide) (fun c44 => ?_) (fun c44 => ?_)
            · skip
              exact absurd c44 (nI_pos (by omega))
            · skip
              refine kw_aload_n dX12_wrongPlaces_47 rfl ?_
              refine kw_get dX12_wrongPlaces_48 fl_X12_40 rfl rfl ?_
              refine kw_iload_n dX12_wrongPlaces_51 rfl ?_
              refine kw_ialdN dX12_wrongPlaces_52 rfl (by omega) (by decide) ?_
              refine kw_aload_n dX12_wrongPlaces_53 rfl ?_
              refine kw_get dX12_wrongPlaces_54 fl_X12_23 rfl rfl ?_
              refine kw_iload_n dX12_wrongPlaces_57 rfl ?_
              refine kw_ialdN dX12_wrongPlaces_58 rfl (by omega) (by decide) ?_
              refine kw_iadd dX12_wrongPlaces_59 ?_
              refine kw_top (v' := pi_ (nI (pp_ s b + sz_ s b))) (by rw [nI_add]) ?_
              refine kw_aload_n dX12_wrongPlaces_60 rfl ?_
              refine kw_get dX12_wrongPlaces_61 fl_X12_49 rfl rfl ?_
              refine kw_iload_n dX12_wrongPlaces_64 rfl ?_
              refine kw_ialdN dX12_wrongPlaces_65 rfl (by omega) (by decide) ?_
              refine kw_icmp_le (tgt := 73) dX12_wrongPlaces_66 (by decide) (fun c66 => ?_) (fun c66 => ?_)
              · skip
                refine kw_iconst (v := 0) dX12_wrongPlaces_73 (by decide) ?_
                refine kw_iadd dX12_wrongPlaces_74 ?_
                refine kw_top (v' := pi_ 0) (by decide) ?_
                refine kw_istore_n dX12_wrongPlaces_75 (Nat.le_of_ble_eq_true rfl) ?_
                refine kw_iconst (v := 0) dX12_wrongPlaces_76 (by decide) ?_
                refine kw_istore dX12_wrongPlaces_77 (Nat.le_of_ble_eq_true rfl) ?_
                exact inner (b + 1) 0 (by omega) (by omega)
              · skip
                exact absurd (nI_le g2 (by omega)) c66
  refine kw_iconst (v := 0) dX12_wrongPlaces_0 (by decide) ?_
  refine kw_istore_n dX12_wrongPlaces_1 (Nat.le_of_ble_eq_true rfl) ?_
  refine kw_iconst (v := 0) dX12_wrongPlaces_2 (by decide) ?_
  refine kw_istore_n dX12_wrongPlaces_3 (Nat.le_of_ble_eq_true rfl) ?_
  exact loop (nb_ s + 1) 0 (by omega) (by omega)
set_option maxHeartbeats 4000000 in
set_option maxRecDepth 100000 in
theorem M_audit (l : Launch) (s : SG) (k : KG) (hMI : MI s k) (hb : nb_ s ≤ 80) (hkd : kidsOk s) (hp : np_ s ≤ 40) (hcap : cap_ s ≤ 1000) (hv : VP s) (hro : rootOk s) (hu : ∀ i, i < 4 → um_ s i ≤ 8 ∧ ∀ q, q < um_ s i → us_ s i q < nb_ s) (hcl : (∀ p, p < nb_ s → th_ s p = true → ∀ i, i < cm_ s p → th_ s (ch_ s p i) = true) ∧ (∀ j, j < ns_ s → kp_ s j = true → ∀ i, i < rm_ s j → th_ s (ro_ s j i) = true) ∧ ∀ j, j < 4 → sv_ s j = true → ∀ i, i < um_ s j → th_ s (us_ s j i) = true) : kw_P l yX12_audit cX12_audit 4 (Option.some Jvm.ClassFile.FieldType.int) { frames := 2, cells := 0, slots := 0, locals := 48 } [pr_ (40, 0)] (hM s k) (fun r h' => r = some (pi_ 0) ∧ ∃ R, h' = hM s (kB k 0 R)) := by
  refine kw_M_of RX12 "audit" [some (pr_ (40, 0)), none, none, none] (by decide) rfl rfl rfl (Nat.le_of_ble_eq_true rfl) ?_
  intro D ad A
  refine kw_Kgen (fun K hK => ?_)
  have hns := hro.1
  have loopC : ∀ (n_ : Nat) (i : Nat) (R : Nat → Bool), nb_ s - i < n_ → i ≤ nb_ s → kw_G l D cX12_audit RX12 (Option.some Jvm.ClassFile.FieldType.int) "audit" { frames := 2, cells := 0, slots := 0, locals := 48 } A K ad (hM s (kB k 0 R)) 0 0 126 [some (pr_ (40, 0)), some (pi_ 0), some (pi_ (nI i)), none] [] := by
    intro n_
    induction n_ with
    | zero =>
      intro i R hm_
      exact absurd hm_ (Nat.not_lt_zero _)
    | succ n_ ih =>
      intro i R hm_ hi
      refine kw_iload_n dX12_audit_126 rfl ?_
      refine kw_aload_n dX12_audit_127 rfl ?_
      refine kw_get dX12_audit_128 fl_X12_156 rfl rfl ?_
      refine kw_icmp_ge (tgt := 161) dX12_audit_131 (by decide) (fun c131 => ?_) (fun c131 => ?_)
      · skip
        refine kw_iload_n dX12_audit_161 rfl ?_
        exact kw_iret dX12_audit_162 rfl (Nat.le_of_ble_eq_true rfl) (Nat.le_of_ble_eq_true rfl) (hK _ _ _ ⟨rfl, rfl, R, rfl⟩)
      · skip
        have hlt : i < nb_ s := nI_nle' (by omega) (by omega) c131
        refine kw_iload_n dX12_audit_134 rfl ?_
        refine kw_aload_n dX12_audit_135 rfl ?_
        refine kw_get dX12_audit_136 fl_X12_33 rfl rfl ?_
        refine kw_iload_n dX12_audit_139 rfl ?_
        refine kw_zaldN dX12_audit_140 rfl (by omega) (by decide) ?_
        refine kw_if_eq (tgt := 152) dX12_audit_141 (by decide) (fun c141 => ?_) (fun c141 => ?_)
        · skip
          refine kw_iconst (v := 0) dX12_audit_152 (by decide) ?_
          refine kw_iadd dX12_audit_153 ?_
          refine kw_top (v' := pi_ 0) (by decide) ?_
          refine kw_istore_n dX12_audit_154 (Nat.le_of_ble_eq_true rfl) ?_
          refine kw_iinc dX12_audit_155 rfl (nI_i i) ?_
          refine kw_goto (tgt := 126) dX12_audit_158 (by decide) ?_
          exact ih (i + 1) R (by omega) (by omega)
        · skip
          have e141 := b2_n0.mp c141
          refine kw_aload_n dX12_audit_144 rfl ?_
          refine kw_iload_n dX12_audit_145 rfl ?_
          refine kw_callV (As := [pi_ (nI i)]) (n_lost l s (kB k 0 R) (kB_MI hMI 0 R) hb hkd hcl.1 i hlt e141) dX12_audit_146 cl_X12_352 rfl rfl rfl rfl (Nat.le_of_ble_eq_true rfl) ⟨(Nat.le_of_ble_eq_true rfl), (Nat.le_of_ble_eq_true rfl), (Nat.le_of_ble_eq_true rfl), (Nat.le_of_ble_eq_true rfl)⟩ (fun r2 h2 hp2 => ?_)
          obtain ⟨rfl, R2, rfl⟩ := hp2
          rw [kB2]
          refine kw_goto (tgt := 153) dX12_audit_149 (by decide) ?_
          refine kw_iadd dX12_audit_153 ?_
          refine kw_top (v' := pi_ 0) (by decide) ?_
          refine kw_istore_n dX12_audit_154 (Nat.le_of_ble_eq_true rfl) ?_
          refine kw_iinc dX12_audit_155 rfl (nI_i i) ?_
          refine kw_goto (tgt := 126) dX12_audit_158 (by decide) ?_
          exact ih (i + 1) R2 (by omega) (by omega)
  have loopB : ∀ (n_ : Nat) (j : Nat) (R : Nat → Bool), 4 - j < n_ → j ≤ 4 → kw_G l D cX12_audit RX12 (Option.some Jvm.ClassFile.FieldType.int) "audit" { frames := 2, cells := 0, slots := 0, locals := 48 } A K ad (hM s (kB k 0 R)) 0 0 68 [some (pr_ (40, 0)), some (pi_ 0), some (pi_ (nI j)), none] [] := by
    intro n_
    induction n_ with
    | zero =>
      intro j R hm_
      exact absurd hm_ (Nat.not_lt_zero _)
    | succ n_ ih =>
      intro j R hm_ hj
      refine kw_iload_n dX12_audit_68 rfl ?_
      refine kw_iconst (v := 4) dX12_audit_69 (by decide) ?_
      refine kw_icmp_ge (tgt := 124) dX12_audit_70 (by decide) (fun c70 => ?_) (fun c70 => ?_)
      · skip
        refine kw_iconst (v := 0) dX12_audit_124 (by decide) ?_
        refine kw_istore_n dX12_audit_125 (Nat.le_of_ble_eq_true rfl) ?_
        refine kw_lvle (lv' := [some (pr_ (40, 0)), some (pi_ 0), some (pi_ (nI 0)), none]) (kw_le_s (kw_le_s (kw_le_s (kw_le_n kw_le_0)))) ?_
        exact loopC (nb_ s + 1) 0 R (by omega) (by omega)
      · skip
        have hlt : j < 4 := nI_nle' (a := 4) (by decide) (by omega) c70
        have h8 := (hu j hlt).1
        have inner : ∀ (n_ : Nat) (i : Nat) (R : Nat → Bool), um_ s j - i < n_ → i ≤ um_ s j → kw_G l D cX12_audit RX12 (Option.some Jvm.ClassFile.FieldType.int) "audit" { frames := 2, cells := 0, slots := 0, locals := 48 } A K ad (hM s (kB k 0 R)) 0 0 75 [some (pr_ (40, 0)), some (pi_ 0), some (pi_ (nI j)), some (pi_ (nI i))] [] := by
          intro n_
          induction n_ with
          | zero =>
            intro i R hm_
            exact absurd hm_ (Nat.not_lt_zero _)
          | succ n_ ih2 =>
            intro i R hm_ hi
            refine kw_iload_n dX12_audit_75 rfl ?_
            refine kw_aload_n dX12_audit_76 rfl ?_
            refine kw_get dX12_audit_77 fl_X12_88 rfl rfl ?_
            refine kw_iload_n dX12_audit_80 rfl ?_
            refine kw_ialdN dX12_audit_81 rfl (by omega) (by decide) ?_
            refine kw_icmp_ge (tgt := 118) dX12_audit_82 (by decide) (fun c82 => ?_) (fun c82 => ?_)
            · skip
              refine kw_iinc dX12_audit_118 rfl (nI_i j) ?_
              refine kw_goto (tgt := 68) dX12_audit_121 (by decide) ?_
              refine kw_lvle (lv' := [some (pr_ (40, 0)), some (pi_ 0), some (pi_ (nI (j + 1))), none]) (kw_le_s (kw_le_s (kw_le_s (kw_le_n kw_le_0)))) ?_
              exact ih (j + 1) R (by omega) (by omega)
            · skip
              have hlti : i < um_ s j := nI_nle' (by omega) (by omega) c82
              refine kw_aload_n dX12_audit_85 rfl ?_
              refine kw_get dX12_audit_86 fl_X12_79 rfl rfl ?_
              refine kw_iload_n dX12_audit_89 rfl ?_
              refine kw_zaldN dX12_audit_90 rfl (by omega) (by decide) ?_
              refine kw_if_eq (tgt := 118) dX12_audit_91 (by decide) (fun c91 => ?_) (fun c91 => ?_)
              · skip
                refine kw_iinc dX12_audit_118 rfl (nI_i j) ?_
                refine kw_goto (tgt := 68) dX12_audit_121 (by decide) ?_
                refine kw_lvle (lv' := [some (pr_ (40, 0)), some (pi_ 0), some (pi_ (nI (j + 1))), none]) (kw_le_s (kw_le_s (kw_le_s (kw_le_n kw_le_0)))) ?_
                exact ih (j + 1) R (by omega) (by omega)
              · skip
                have e91 := b2_n0.mp c91
                refine kw_iload_n dX12_audit_94 rfl ?_
                refine kw_aload_n dX12_audit_95 rfl ?_
                refine kw_aload_n dX12_audit_96 rfl ?_
                refine kw_get dX12_audit_97 fl_X12_91 rfl rfl ?_
                refine kw_bipush (v := (nI 8)) dX12_audit_100 (by decide) ?_
                refine kw_iload_n dX12_audit_102 rfl ?_
                refine kw_imul dX12_audit_103 ?_
                refine kw_top (v' := pi_ (nI (8 * j))) (by rw [nI_mul]) ?_
                refine kw_iload_n dX12_audit_104 rfl ?_
                refine kw_iadd dX12_audit_105 ?_
                refine kw_top (v' := pi_ (nI (8 * j + i))) (by rw [nI_add]) ?_
                refine kw_ialdN dX12_audit_106 rfl (by omega) (by decide) ?_
                refine kw_top (v' := pi_ (nI (us_ s j i))) (by rw [← hMI.2.2.1 j hlt i hlti]) ?_
                refine kw_callV (As := [pi_ (nI (us_ s j i))]) (n_lost l s (kB k 0 R) (kB_MI hMI 0 R) hb hkd hcl.1 (us_ s j i) ((hu j hlt).2 i hlti) (hcl.2.2 j hlt e91 i hlti)) dX12_audit_107 cl_X12_352 rfl rfl rfl rfl (Nat.le_of_ble_eq_true rfl) ⟨(Nat.le_of_ble_eq_true rfl), (Nat.le_of_ble_eq_true rfl), (Nat.le_of_ble_eq_true rfl), (Nat.le_of_ble_eq_true rfl)⟩ (fun r2 h2 hp2 => ?_)
                obtain ⟨rfl, R2, rfl⟩ := hp2
                rw [kB2]
                refine kw_iadd dX12_audit_110 ?_
                refine kw_top (v' := pi_ 0) (by decide) ?_
                refine kw_istore_n dX12_audit_111 (Nat.le_of_ble_eq_true rfl) ?_
                refine kw_iinc dX12_audit_112 rfl (nI_i i) ?_
                refine kw_goto (tgt := 75) dX12_audit_115 (by decide) ?_
                exact ih2 (i + 1) R2 (by omega) (by omega)
        refine kw_iconst (v := 0) dX12_audit_73 (by decide) ?_
        refine kw_istore_n dX12_audit_74 (Nat.le_of_ble_eq_true rfl) ?_
        exact inner (um_ s j + 1) 0 R (by omega) (by omega)
  have loopA : ∀ (n_ : Nat) (j : Nat) (R : Nat → Bool), ns_ s - j < n_ → j ≤ ns_ s → kw_G l D cX12_audit RX12 (Option.some Jvm.ClassFile.FieldType.int) "audit" { frames := 2, cells := 0, slots := 0, locals := 48 } A K ad (hM s (kB k 0 R)) 0 0 7 [some (pr_ (40, 0)), some (pi_ 0), some (pi_ (nI j)), none] [] := by
    intro n_
    induction n_ with
    | zero =>
      intro j R hm_
      exact absurd hm_ (Nat.not_lt_zero _)
    | succ n_ ih =>
      intro j R hm_ hj
      refine kw_iload_n dX12_audit_7 rfl ?_
      refine kw_aload_n dX12_audit_8 rfl ?_
      refine kw_get dX12_audit_9 fl_X12_218 rfl rfl ?_
      refine kw_icmp_ge (tgt := 66) dX12_audit_12 (by decide) (fun c12 => ?_) (fun c12 => ?_)
      · skip
        refine kw_iconst (v := 0) dX12_audit_66 (by decide) ?_
        refine kw_istore_n dX12_audit_67 (Nat.le_of_ble_eq_true rfl) ?_
        refine kw_lvle (lv' := [some (pr_ (40, 0)), some (pi_ 0), some (pi_ (nI 0)), none]) (kw_le_s (kw_le_s (kw_le_s (kw_le_n kw_le_0)))) ?_
        exact loopB 5 0 R (by omega) (by omega)
      · skip
        have hlt : j < ns_ s := nI_nle' (by omega) (by omega) c12
        have h8 := (hro.2 j hlt).1
        have inner : ∀ (n_ : Nat) (i : Nat) (R : Nat → Bool), rm_ s j - i < n_ → i ≤ rm_ s j → kw_G l D cX12_audit RX12 (Option.some Jvm.ClassFile.FieldType.int) "audit" { frames := 2, cells := 0, slots := 0, locals := 48 } A K ad (hM s (kB k 0 R)) 0 0 17 [some (pr_ (40, 0)), some (pi_ 0), some (pi_ (nI j)), some (pi_ (nI i))] [] := by
          intro n_
          induction n_ with
          | zero =>
            intro i R hm_
            exact absurd hm_ (Nat.not_lt_zero _)
          | succ n_ ih2 =>
            intro i R hm_ hi
            refine kw_iload_n dX12_audit_17 rfl ?_
            refine kw_aload_n dX12_audit_18 rfl ?_
            refine kw_get dX12_audit_19 fl_X12_64 rfl rfl ?_
            refine kw_iload_n dX12_audit_22 rfl ?_
            refine kw_ialdN dX12_audit_23 rfl (by omega) (by decide) ?_
            refine kw_icmp_ge (tgt := 60) dX12_audit_24 (by decide) (fun c24 => ?_) (fun c24 => ?_)
            · skip
              refine kw_iinc dX12_audit_60 rfl (nI_i j) ?_
              refine kw_goto (tgt := 7) dX12_audit_63 (by decide) ?_
              refine kw_lvle (lv' := [some (pr_ (40, 0)), some (pi_ 0), some (pi_ (nI (j + 1))), none]) (kw_le_s (kw_le_s (kw_le_s (kw_le_n kw_le_0)))) ?_
              exact ih (j + 1) R (by omega) (by omega)
            · skip
              have hlti : i < rm_ s j := nI_nle' (by omega) (by omega) c24
              refine kw_aload_n dX12_audit_27 rfl ?_
              refine kw_get dX12_audit_28 fl_X12_55 rfl rfl ?_
              refine kw_iload_n dX12_audit_31 rfl ?_
              refine kw_zaldN dX12_audit_32 rfl (by omega) (by decide) ?_
              refine kw_if_eq (tgt := 60) dX12_audit_33 (by decide) (fun c33 => ?_) (fun c33 => ?_)
              · skip
                refine kw_iinc dX12_audit_60 rfl (nI_i j) ?_
                refine kw_goto (tgt := 7) dX12_audit_63 (by decide) ?_
                refine kw_lvle (lv' := [some (pr_ (40, 0)), some (pi_ 0), some (pi_ (nI (j + 1))), none]) (kw_le_s (kw_le_s (kw_le_s (kw_le_n kw_le_0)))) ?_
                exact ih (j + 1) R (by omega) (by omega)
              · skip
                have e33 := b2_n0.mp c33
                refine kw_iload_n dX12_audit_36 rfl ?_
                refine kw_aload_n dX12_audit_37 rfl ?_
                refine kw_aload_n dX12_audit_38 rfl ?_
                refine kw_get dX12_audit_39 fl_X12_67 rfl rfl ?_
                refine kw_bipush (v := (nI 8)) dX12_audit_42 (by decide) ?_
                refine kw_iload_n dX12_audit_44 rfl ?_
                refine kw_imul dX12_audit_45 ?_
                refine kw_top (v' := pi_ (nI (8 * j))) (by rw [nI_mul]) ?_
                refine kw_iload_n dX12_audit_46 rfl ?_
                refine kw_iadd dX12_audit_47 ?_
                refine kw_top (v' := pi_ (nI (8 * j + i))) (by rw [nI_add]) ?_
                refine kw_ialdN dX12_audit_48 rfl (by omega) (by decide) ?_
                refine kw_top (v' := pi_ (nI (ro_ s j i))) (by rw [← hMI.2.1 j hlt i hlti]) ?_
                refine kw_callV (As := [pi_ (nI (ro_ s j i))]) (n_lost l s (kB k 0 R) (kB_MI hMI 0 R) hb hkd hcl.1 (ro_ s j i) ((hro.2 j hlt).2 i hlti) (hcl.2.1 j hlt e33 i hlti)) dX12_audit_49 cl_X12_352 rfl rfl rfl rfl (Nat.le_of_ble_eq_true rfl) ⟨(Nat.le_of_ble_eq_true rfl), (Nat.le_of_ble_eq_true rfl), (Nat.le_of_ble_eq_true rfl), (Nat.le_of_ble_eq_true rfl)⟩ (fun r2 h2 hp2 => ?_)
                obtain ⟨rfl, R2, rfl⟩ := hp2
                rw [kB2]
                refine kw_iadd dX12_audit_52 ?_
                refine kw_top (v' := pi_ 0) (by decide) ?_
                refine kw_istore_n dX12_audit_53 (Nat.le_of_ble_eq_true rfl) ?_
                refine kw_iinc dX12_audit_54 rfl (nI_i i) ?_
                refine kw_goto (tgt := 17) dX12_audit_57 (by decide) ?_
                exact ih2 (i + 1) R2 (by omega) (by omega)
        refine kw_iconst (v := 0) dX12_audit_15 (by decide) ?_
        refine kw_istore_n dX12_audit_16 (Nat.le_of_ble_eq_true rfl) ?_
        exact inner (rm_ s j + 1) 0 R (by omega) (by omega)
  refine kw_aload_n dX12_audit_0 rfl ?_
  refine kw_callVf (As := []) (n_wrong l s k hb hp hcap hv) dX12_audit_1 cl_X12_349 rfl rfl rfl rfl (Nat.le_of_ble_eq_true rfl) ⟨(Nat.le_of_ble_eq_true rfl), (Nat.le_of_ble_eq_true rfl), (Nat.le_of_ble_eq_true rfl), (Nat.le_of_ble_eq_true rfl)⟩ ?_
  refine kw_istore_n dX12_audit_4 (Nat.le_of_ble_eq_true rfl) ?_
  refine kw_iconst (v := 0) dX12_audit_5 (by decide) ?_
  refine kw_istore_n dX12_audit_6 (Nat.le_of_ble_eq_true rfl) ?_
  refine kw_heq (h' := hM s (kB k 0 (kb_ k 0))) (by rw [kB_id]) ?_
  exact loopA (ns_ s + 1) 0 _ (by omega) (by omega)
