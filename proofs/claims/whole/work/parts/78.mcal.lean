/-! THE MODEL'S CALENDAR -/
theorem nI_div {a b : Nat} (ha : a < 2 ^ 31) (hb : b < 2 ^ 31) : nI a / nI b = nI (a / b) := by
  apply Int32.toInt_inj.mp
  have h : a / b < 2 ^ 31 := Nat.lt_of_le_of_lt (Nat.div_le_self a b) ha
  rw [Int32.toInt_div, nI_toInt ha, nI_toInt hb, nI_toInt h, ← Int.ofNat_tdiv]
  obtain ⟨q, hq⟩ : ∃ q, q = a / b := ⟨_, rfl⟩
  rw [← hq] at h ⊢
  exact Int.bmod_eq_of_le (by omega) (by omega)
theorem nI_irem {a b : Nat} (ha : a < 2 ^ 31) (hb : b < 2 ^ 31) : nI a - nI a / nI b * nI b = nI (a % b) := by
  rw [nI_div ha hb, show nI (a / b) * nI b = nI (a / b * b) from (Int32.ofNat_mul _ _).symm, pk_sub (Nat.div_mul_le_self a b)]
  congr 1
  have := Nat.div_add_mod a b
  rw [Nat.mul_comm] at this
  omega
theorem fd_le {a b : Int} (hb : 0 < b) (h : a.tdiv b * b ≤ a) : a.tdiv b = a / b := by
  by_cases e : 0 ≤ a
  · exact fd_pos e
  · by_cases e2 : a.tdiv b * b = a
    · exact fd_eq e2
    · have h1 := fd_ne hb (by omega) e2
      have h2 := Int.emod_nonneg a (show b ≠ 0 by omega)
      have h3 := Int.emod_lt_of_pos a hb
      have h4 := Int.mul_ediv_add_emod a b
      rw [← h1, Int.mul_comm, Int.sub_mul] at h4
      omega
theorem fd_gt {a b : Int} (hb : 0 < b) (h : a < a.tdiv b * b) : a.tdiv b - 1 = a / b := by
  refine fd_ne hb ?_ (by omega)
  apply Int.not_le.mp
  intro e
  rw [fd_pos e] at h
  have := Int.ediv_mul_le a (show b ≠ 0 by omega)
  omega
set_option maxHeartbeats 4000000 in
set_option maxRecDepth 100000 in
theorem n_floor (l : Launch) (h : PH) (a b : Int) (h1 : -2000000000000 ≤ a) (h2 : a ≤ 2000000000000) (h3 : 0 < b) (h4 : b ≤ 1000000) : kw_F l yX12_floor cX12_floor 6 (Option.some Jvm.ClassFile.FieldType.long) { frames := 0, cells := 0, slots := 0, locals := 0 } [pl_ (lI a), pl_ (lI b)] h (some (pl_ (lI (a / b)))) h := by
  refine kw_M_of RX12 "floor" [some (pl_ (lI a)), none, some (pl_ (lI b)), none, none, none] (by decide) rfl rfl rfl (Nat.le_of_ble_eq_true rfl) ?_
  intro D ad A
  refine kw_Kgen (fun K hK => ?_)
  have td := Int.natAbs_tdiv_le_natAbs a b
  have t2 := tdm a b
  refine kw_lload_n dX12_floor_0 rfl ?_
  refine kw_lload_n dX12_floor_1 rfl ?_
  refine kw_ldiv dX12_floor_2 (lI_ne h3 (by omega)) ?_
  refine kw_top (v' := pl_ (lI (a.tdiv b))) (by rw [lI_div (by omega) (by omega) h3 (by omega)]) ?_
  refine kw_lstore dX12_floor_3 (Nat.le_of_ble_eq_true rfl) ?_
  refine kw_lload dX12_floor_5 rfl ?_
  refine kw_lload_n dX12_floor_7 rfl ?_
  refine kw_lmul dX12_floor_8 ?_
  refine kw_top (v' := pl_ (lI (a.tdiv b * b))) (by rw [lI_mul]) ?_
  refine kw_lload_n dX12_floor_9 rfl ?_
  refine kw_lcmp dX12_floor_10 ?_
  refine kw_if_le (tgt := 21) dX12_floor_11 (by decide) (fun c11 => ?_) (fun c11 => ?_)
  · skip
    have e11 : a.tdiv b * b ≤ a := by
      apply Int.not_lt.mp
      intro q
      have z : lI a < lI (a.tdiv b * b) := (lI_lt (by omega) (by omega) (by omega) (by omega)).mpr q
      exact absurd ((lg_cmp_gt _ _).mpr z) (Int32.not_lt.mpr c11)
    refine kw_lload dX12_floor_21 rfl ?_
    exact kw_lret dX12_floor_23 rfl (Nat.le_of_ble_eq_true rfl) (Nat.le_of_ble_eq_true rfl) (hK _ _ _ ⟨rfl, by rw [fd_le h3 e11], rfl⟩)
  · skip
    have e11 : a < a.tdiv b * b := (lI_lt (by omega) (by omega) (by omega) (by omega)).mp ((lg_cmp_gt _ _).mp (Int32.not_le.mp c11))
    refine kw_lload dX12_floor_14 rfl ?_
    refine kw_lconst (v := 1) dX12_floor_16 (by decide) ?_
    refine kw_lsub dX12_floor_17 ?_
    refine kw_top (v' := pl_ (lI (a.tdiv b - 1))) (congrArg pl_ (lI_sub _ 1)) ?_
    refine kw_goto (tgt := 23) dX12_floor_18 (by decide) ?_
    exact kw_lret dX12_floor_23 rfl (Nat.le_of_ble_eq_true rfl) (Nat.le_of_ble_eq_true rfl) (hK _ _ _ ⟨rfl, by rw [fd_gt h3 e11], rfl⟩)
set_option maxHeartbeats 4000000 in
set_option maxRecDepth 100000 in
theorem n_days (l : Launch) (h : PH) (y mo : Nat) (hy : y < 2 ^ 31) (hm : mo < 2 ^ 31) : kw_F l yX12_daysOf cX12_daysOf 3 (Option.some Jvm.ClassFile.FieldType.int) { frames := 0, cells := 0, slots := 0, locals := 0 } [pi_ (nI y), pi_ (nI mo)] h (some (pi_ (nI (dimN y mo)))) h := by
  refine kw_M_of RX12 "daysOf" [some (pi_ (nI y)), some (pi_ (nI mo)), none] (by decide) rfl rfl rfl (Nat.le_of_ble_eq_true rfl) ?_
  intro D ad A
  refine kw_Kgen (fun K hK => ?_)
  refine kw_iload_n dX12_daysOf_0 rfl ?_
  refine kw_iconst (v := (nI 4)) dX12_daysOf_1 (by decide) ?_
  refine kw_irem dX12_daysOf_2 (by decide) ?_
  refine kw_top (v' := pi_ (nI (y % 4))) (by rw [nI_irem hy (by decide)]) ?_
  refine kw_if_ne (tgt := 25) dX12_daysOf_3 (by decide) (fun c3 => ?_) (fun c3 => ?_)
  · skip
    have e3 : ¬ y % 4 = 0 := fun q => c3 (by rw [q]; rfl)
    have hl : leapB y = false := by unfold leapB; rw [decide_eq_false e3]; rfl
    refine kw_iconst (v := 0) dX12_daysOf_25 (by decide) ?_
    refine kw_istore_n dX12_daysOf_26 (Nat.le_of_ble_eq_true rfl) ?_
    refine kw_iload_n dX12_daysOf_27 rfl ?_
    refine kw_iconst (v := 2) dX12_daysOf_28 (by decide) ?_
    refine kw_icmp_ne (tgt := 44) dX12_daysOf_29 (by decide) (fun c29 => ?_) (fun c29 => ?_)
    · skip
      have e29 : ¬ mo = 2 := fun q => c29 (by rw [q]; rfl)
      refine kw_iload_n dX12_daysOf_44 rfl ?_
      refine kw_iconst (v := 4) dX12_daysOf_45 (by decide) ?_
      refine kw_icmp_eq (tgt := 67) dX12_daysOf_46 (by decide) (fun c46 => ?_) (fun c46 => ?_)
      · skip
        have ho : mo = 4 ∨ mo = 6 ∨ mo = 9 ∨ mo = 11 := Or.inl (nI_eq' (b := 4) hm (by decide) c46)
        refine kw_bipush (v := 30) dX12_daysOf_67 (by decide) ?_
        refine kw_goto (tgt := 74) dX12_daysOf_69 (by decide) ?_
        exact kw_iret dX12_daysOf_74 rfl (Nat.le_of_ble_eq_true rfl) (Nat.le_of_ble_eq_true rfl) (hK _ _ _ ⟨rfl, congrArg (fun z => some (pi_ z)) (show nI 30 = nI (dimN y mo) by unfold dimN; rw [if_neg e29, if_pos ho]), rfl⟩)
      · skip
        have e46 : ¬ mo = 4 := fun q => c46 (by rw [q]; rfl)
        refine kw_iload_n dX12_daysOf_49 rfl ?_
        refine kw_bipush (v := 6) dX12_daysOf_50 (by decide) ?_
        refine kw_icmp_eq (tgt := 67) dX12_daysOf_52 (by decide) (fun c52 => ?_) (fun c52 => ?_)
        · skip
          have ho : mo = 4 ∨ mo = 6 ∨ mo = 9 ∨ mo = 11 := Or.inr (Or.inl (nI_eq' (b := 6) hm (by decide) c52))
          refine kw_bipush (v := 30) dX12_daysOf_67 (by decide) ?_
          refine kw_goto (tgt := 74) dX12_daysOf_69 (by decide) ?_
          exact kw_iret dX12_daysOf_74 rfl (Nat.le_of_ble_eq_true rfl) (Nat.le_of_ble_eq_true rfl) (hK _ _ _ ⟨rfl, congrArg (fun z => some (pi_ z)) (show nI 30 = nI (dimN y mo) by unfold dimN; rw [if_neg e29, if_pos ho]), rfl⟩)
        · skip
          have e52 : ¬ mo = 6 := fun q => c52 (by rw [q]; rfl)
          refine kw_iload_n dX12_daysOf_55 rfl ?_
          refine kw_bipush (v := 9) dX12_daysOf_56 (by decide) ?_
          refine kw_icmp_eq (tgt := 67) dX12_daysOf_58 (by decide) (fun c58 => ?_) (fun c58 => ?_)
          · skip
            have ho : mo = 4 ∨ mo = 6 ∨ mo = 9 ∨ mo = 11 := Or.inr (Or.inr (Or.inl (nI_eq' (b := 9) hm (by decide) c58)))
            refine kw_bipush (v := 30) dX12_daysOf_67 (by decide) ?_
            refine kw_goto (tgt := 74) dX12_daysOf_69 (by decide) ?_
            exact kw_iret dX12_daysOf_74 rfl (Nat.le_of_ble_eq_true rfl) (Nat.le_of_ble_eq_true rfl) (hK _ _ _ ⟨rfl, congrArg (fun z => some (pi_ z)) (show nI 30 = nI (dimN y mo) by unfold dimN; rw [if_neg e29, if_pos ho]), rfl⟩)
          · skip
            have e58 : ¬ mo = 9 := fun q => c58 (by rw [q]; rfl)
            refine kw_iload_n dX12_daysOf_61 rfl ?_
            refine kw_bipush (v := 11) dX12_daysOf_62 (by decide) ?_
            refine kw_icmp_ne (tgt := 72) dX12_daysOf_64 (by decide) (fun c64 => ?_) (fun c64 => ?_)
            · skip
              have e64 : ¬ mo = 11 := fun q => c64 (by rw [q]; rfl)
              refine kw_bipush (v := 31) dX12_daysOf_72 (by decide) ?_
              exact kw_iret dX12_daysOf_74 rfl (Nat.le_of_ble_eq_true rfl) (Nat.le_of_ble_eq_true rfl) (hK _ _ _ ⟨rfl, congrArg (fun z => some (pi_ z)) (show nI 31 = nI (dimN y mo) by unfold dimN; rw [if_neg e29, if_neg (by omega)]), rfl⟩)
            · skip
              have ho : mo = 4 ∨ mo = 6 ∨ mo = 9 ∨ mo = 11 := Or.inr (Or.inr (Or.inr (nI_eq' (b := 11) hm (by decide) c64)))
              refine kw_bipush (v := 30) dX12_daysOf_67 (by decide) ?_
              refine kw_goto (tgt := 74) dX12_daysOf_69 (by decide) ?_
              exact kw_iret dX12_daysOf_74 rfl (Nat.le_of_ble_eq_true rfl) (Nat.le_of_ble_eq_true rfl) (hK _ _ _ ⟨rfl, congrArg (fun z => some (pi_ z)) (show nI 30 = nI (dimN y mo) by unfold dimN; rw [if_neg e29, if_pos ho]), rfl⟩)
    · skip
      have e29 : mo = 2 := nI_eq' (b := 2) hm (by decide) c29
      refine kw_iload_n dX12_daysOf_32 rfl ?_
      refine kw_if_eq (tgt := 41) dX12_daysOf_33 (by decide) (fun c33 => ?_) (fun c33 => ?_)
      · skip
        refine kw_bipush (v := 28) dX12_daysOf_41 (by decide) ?_
        exact kw_iret dX12_daysOf_43 rfl (Nat.le_of_ble_eq_true rfl) (Nat.le_of_ble_eq_true rfl) (hK _ _ _ ⟨rfl, congrArg (fun z => some (pi_ z)) (show nI 28 = nI (dimN y mo) by unfold dimN; rw [if_pos e29, hl]; rfl), rfl⟩)
      · skip
        exact absurd rfl c33
  · skip
    have e3 : y % 4 = 0 := nI_eq' (b := 0) (by omega) (by decide) c3
    refine kw_iload_n dX12_daysOf_6 rfl ?_
    refine kw_bipush (v := (nI 100)) dX12_daysOf_7 (by decide) ?_
    refine kw_irem dX12_daysOf_9 (by decide) ?_
    refine kw_top (v' := pi_ (nI (y % 100))) (by rw [nI_irem hy (by decide)]) ?_
    refine kw_if_ne (tgt := 21) dX12_daysOf_10 (by decide) (fun c10 => ?_) (fun c10 => ?_)
    · skip
      have e10 : ¬ y % 100 = 0 := fun q => c10 (by rw [q]; rfl)
      have hl : leapB y = true := by unfold leapB; rw [decide_eq_true e3, decide_eq_false e10]; rfl
      refine kw_iconst (v := 1) dX12_daysOf_21 (by decide) ?_
      refine kw_goto (tgt := 26) dX12_daysOf_22 (by decide) ?_
      refine kw_istore_n dX12_daysOf_26 (Nat.le_of_ble_eq_true rfl) ?_
      refine kw_iload_n dX12_daysOf_27 rfl ?_
      refine kw_iconst (v := 2) dX12_daysOf_28 (by decide) ?_
      refine kw_icmp_ne (tgt := 44) dX12_daysOf_29 (by decide) (fun c29 => ?_) (fun c29 => ?_)
      · skip
        have e29 : ¬ mo = 2 := fun q => c29 (by rw [q]; rfl)
        refine kw_iload_n dX12_daysOf_44 rfl ?_
        refine kw_iconst (v := 4) dX12_daysOf_45 (by decide) ?_
        refine kw_icmp_eq (tgt := 67) dX12_daysOf_46 (by decide) (fun c46 => ?_) (fun c46 => ?_)
        · skip
          have ho : mo = 4 ∨ mo = 6 ∨ mo = 9 ∨ mo = 11 := Or.inl (nI_eq' (b := 4) hm (by decide) c46)
          refine kw_bipush (v := 30) dX12_daysOf_67 (by decide) ?_
          refine kw_goto (tgt := 74) dX12_daysOf_69 (by decide) ?_
          exact kw_iret dX12_daysOf_74 rfl (Nat.le_of_ble_eq_true rfl) (Nat.le_of_ble_eq_true rfl) (hK _ _ _ ⟨rfl, congrArg (fun z => some (pi_ z)) (show nI 30 = nI (dimN y mo) by unfold dimN; rw [if_neg e29, if_pos ho]), rfl⟩)
        · skip
          have e46 : ¬ mo = 4 := fun q => c46 (by rw [q]; rfl)
          refine kw_iload_n dX12_daysOf_49 rfl ?_
          refine kw_bipush (v := 6) dX12_daysOf_50 (by decide) ?_
          refine kw_icmp_eq (tgt := 67) dX12_daysOf_52 (by decide) (fun c52 => ?_) (fun c52 => ?_)
          · skip
            have ho : mo = 4 ∨ mo = 6 ∨ mo = 9 ∨ mo = 11 := Or.inr (Or.inl (nI_eq' (b := 6) hm (by decide) c52))
            refine kw_bipush (v := 30) dX12_daysOf_67 (by decide) ?_
            refine kw_goto (tgt := 74) dX12_daysOf_69 (by decide) ?_
            exact kw_iret dX12_daysOf_74 rfl (Nat.le_of_ble_eq_true rfl) (Nat.le_of_ble_eq_true rfl) (hK _ _ _ ⟨rfl, congrArg (fun z => some (pi_ z)) (show nI 30 = nI (dimN y mo) by unfold dimN; rw [if_neg e29, if_pos ho]), rfl⟩)
          · skip
            have e52 : ¬ mo = 6 := fun q => c52 (by rw [q]; rfl)
            refine kw_iload_n dX12_daysOf_55 rfl ?_
            refine kw_bipush (v := 9) dX12_daysOf_56 (by decide) ?_
            refine kw_icmp_eq (tgt := 67) dX12_daysOf_58 (by decide) (fun c58 => ?_) (fun c58 => ?_)
            · skip
              have ho : mo = 4 ∨ mo = 6 ∨ mo = 9 ∨ mo = 11 := Or.inr (Or.inr (Or.inl (nI_eq' (b := 9) hm (by decide) c58)))
              refine kw_bipush (v := 30) dX12_daysOf_67 (by decide) ?_
              refine kw_goto (tgt := 74) dX12_daysOf_69 (by decide) ?_
              exact kw_iret dX12_daysOf_74 rfl (Nat.le_of_ble_eq_true rfl) (Nat.le_of_ble_eq_true rfl) (hK _ _ _ ⟨rfl, congrArg (fun z => some (pi_ z)) (show nI 30 = nI (dimN y mo) by unfold dimN; rw [if_neg e29, if_pos ho]), rfl⟩)
            · skip
              have e58 : ¬ mo = 9 := fun q => c58 (by rw [q]; rfl)
              refine kw_iload_n dX12_daysOf_61 rfl ?_
              refine kw_bipush (v := 11) dX12_daysOf_62 (by decide) ?_
              refine kw_icmp_ne (tgt := 72) dX12_daysOf_64 (by decide) (fun c64 => ?_) (fun c64 => ?_)
              · skip
                have e64 : ¬ mo = 11 := fun q => c64 (by rw [q]; rfl)
                refine kw_bipush (v := 31) dX12_daysOf_72 (by decide) ?_
                exact kw_iret dX12_daysOf_74 rfl (Nat.le_of_ble_eq_true rfl) (Nat.le_of_ble_eq_true rfl) (hK _ _ _ ⟨rfl, congrArg (fun z => some (pi_ z)) (show nI 31 = nI (dimN y mo) by unfold dimN; rw [if_neg e29, if_neg (by omega)]), rfl⟩)
              · skip
                have ho : mo = 4 ∨ mo = 6 ∨ mo = 9 ∨ mo = 11 := Or.inr (Or.inr (Or.inr (nI_eq' (b := 11) hm (by decide) c64)))
                refine kw_bipush (v := 30) dX12_daysOf_67 (by decide) ?_
                refine kw_goto (tgt := 74) dX12_daysOf_69 (by decide) ?_
                exact kw_iret dX12_daysOf_74 rfl (Nat.le_of_ble_eq_true rfl) (Nat.le_of_ble_eq_true rfl) (hK _ _ _ ⟨rfl, congrArg (fun z => some (pi_ z)) (show nI 30 = nI (dimN y mo) by unfold dimN; rw [if_neg e29, if_pos ho]), rfl⟩)
      · skip
        have e29 : mo = 2 := nI_eq' (b := 2) hm (by decide) c29
        refine kw_iload_n dX12_daysOf_32 rfl ?_
        refine kw_if_eq (tgt := 41) dX12_daysOf_33 (by decide) (fun c33 => ?_) (fun c33 => ?_)
        · skip
          exact absurd c33 (by decide)
        · skip
          refine kw_bipush (v := 29) dX12_daysOf_36 (by decide) ?_
          refine kw_goto (tgt := 43) dX12_daysOf_38 (by decide) ?_
          exact kw_iret dX12_daysOf_43 rfl (Nat.le_of_ble_eq_true rfl) (Nat.le_of_ble_eq_true rfl) (hK _ _ _ ⟨rfl, congrArg (fun z => some (pi_ z)) (show nI 29 = nI (dimN y mo) by unfold dimN; rw [if_pos e29, hl]; rfl), rfl⟩)
    · skip
      have e10 : y % 100 = 0 := nI_eq' (b := 0) (by omega) (by decide) c10
      refine kw_iload_n dX12_daysOf_13 rfl ?_
      refine kw_sipush (v := (nI 400)) dX12_daysOf_14 (by decide) ?_
      refine kw_irem dX12_daysOf_17 (by decide) ?_
      refine kw_top (v' := pi_ (nI (y % 400))) (by rw [nI_irem hy (by decide)]) ?_
      refine kw_if_ne (tgt := 25) dX12_daysOf_18 (by decide) (fun c18 => ?_) (fun c18 => ?_)
      · skip
        have e18 : ¬ y % 400 = 0 := fun q => c18 (by rw [q]; rfl)
        have hl : leapB y = false := by unfold leapB; rw [decide_eq_true e3, decide_eq_true e10, decide_eq_false e18]; rfl
        refine kw_iconst (v := 0) dX12_daysOf_25 (by decide) ?_
        refine kw_istore_n dX12_daysOf_26 (Nat.le_of_ble_eq_true rfl) ?_
        refine kw_iload_n dX12_daysOf_27 rfl ?_
        refine kw_iconst (v := 2) dX12_daysOf_28 (by decide) ?_
        refine kw_icmp_ne (tgt := 44) dX12_daysOf_29 (by decide) (fun c29 => ?_) (fun c29 => ?_)
        · skip
          have e29 : ¬ mo = 2 := fun q => c29 (by rw [q]; rfl)
          refine kw_iload_n dX12_daysOf_44 rfl ?_
          refine kw_iconst (v := 4) dX12_daysOf_45 (by decide) ?_
          refine kw_icmp_eq (tgt := 67) dX12_daysOf_46 (by decide) (fun c46 => ?_) (fun c46 => ?_)
          · skip
            have ho : mo = 4 ∨ mo = 6 ∨ mo = 9 ∨ mo = 11 := Or.inl (nI_eq' (b := 4) hm (by decide) c46)
            refine kw_bipush (v := 30) dX12_daysOf_67 (by decide) ?_
            refine kw_goto (tgt := 74) dX12_daysOf_69 (by decide) ?_
            exact kw_iret dX12_daysOf_74 rfl (Nat.le_of_ble_eq_true rfl) (Nat.le_of_ble_eq_true rfl) (hK _ _ _ ⟨rfl, congrArg (fun z => some (pi_ z)) (show nI 30 = nI (dimN y mo) by unfold dimN; rw [if_neg e29, if_pos ho]), rfl⟩)
          · skip
            have e46 : ¬ mo = 4 := fun q => c46 (by rw [q]; rfl)
            refine kw_iload_n dX12_daysOf_49 rfl ?_
            refine kw_bipush (v := 6) dX12_daysOf_50 (by decide) ?_
            refine kw_icmp_eq (tgt := 67) dX12_daysOf_52 (by decide) (fun c52 => ?_) (fun c52 => ?_)
            · skip
              have ho : mo = 4 ∨ mo = 6 ∨ mo = 9 ∨ mo = 11 := Or.inr (Or.inl (nI_eq' (b := 6) hm (by decide) c52))
              refine kw_bipush (v := 30) dX12_daysOf_67 (by decide) ?_
              refine kw_goto (tgt := 74) dX12_daysOf_69 (by decide) ?_
              exact kw_iret dX12_daysOf_74 rfl (Nat.le_of_ble_eq_true rfl) (Nat.le_of_ble_eq_true rfl) (hK _ _ _ ⟨rfl, congrArg (fun z => some (pi_ z)) (show nI 30 = nI (dimN y mo) by unfold dimN; rw [if_neg e29, if_pos ho]), rfl⟩)
            · skip
              have e52 : ¬ mo = 6 := fun q => c52 (by rw [q]; rfl)
              refine kw_iload_n dX12_daysOf_55 rfl ?_
              refine kw_bipush (v := 9) dX12_daysOf_56 (by decide) ?_
              refine kw_icmp_eq (tgt := 67) dX12_daysOf_58 (by decide) (fun c58 => ?_) (fun c58 => ?_)
              · skip
                have ho : mo = 4 ∨ mo = 6 ∨ mo = 9 ∨ mo = 11 := Or.inr (Or.inr (Or.inl (nI_eq' (b := 9) hm (by decide) c58)))
                refine kw_bipush (v := 30) dX12_daysOf_67 (by decide) ?_
                refine kw_goto (tgt := 74) dX12_daysOf_69 (by decide) ?_
                exact kw_iret dX12_daysOf_74 rfl (Nat.le_of_ble_eq_true rfl) (Nat.le_of_ble_eq_true rfl) (hK _ _ _ ⟨rfl, congrArg (fun z => some (pi_ z)) (show nI 30 = nI (dimN y mo) by unfold dimN; rw [if_neg e29, if_pos ho]), rfl⟩)
              · skip
                have e58 : ¬ mo = 9 := fun q => c58 (by rw [q]; rfl)
                refine kw_iload_n dX12_daysOf_61 rfl ?_
                refine kw_bipush (v := 11) dX12_daysOf_62 (by decide) ?_
                refine kw_icmp_ne (tgt := 72) dX12_daysOf_64 (by decide) (fun c64 => ?_) (fun c64 => ?_)
                · skip
                  have e64 : ¬ mo = 11 := fun q => c64 (by rw [q]; rfl)
                  refine kw_bipush (v := 31) dX12_daysOf_72 (by decide) ?_
                  exact kw_iret dX12_daysOf_74 rfl (Nat.le_of_ble_eq_true rfl) (Nat.le_of_ble_eq_true rfl) (hK _ _ _ ⟨rfl, congrArg (fun z => some (pi_ z)) (show nI 31 = nI (dimN y mo) by unfold dimN; rw [if_neg e29, if_neg (by omega)]), rfl⟩)
                · skip
                  have ho : mo = 4 ∨ mo = 6 ∨ mo = 9 ∨ mo = 11 := Or.inr (Or.inr (Or.inr (nI_eq' (b := 11) hm (by decide) c64)))
                  refine kw_bipush (v := 30) dX12_daysOf_67 (by decide) ?_
                  refine kw_goto (tgt := 74) dX12_daysOf_69 (by decide) ?_
                  exact kw_iret dX12_daysOf_74 rfl (Nat.le_of_ble_eq_true rfl) (Nat.le_of_ble_eq_true rfl) (hK _ _ _ ⟨rfl, congrArg (fun z => some (pi_ z)) (show nI 30 = nI (dimN y mo) by unfold dimN; rw [if_neg e29, if_pos ho]), rfl⟩)
        · skip
          have e29 : mo = 2 := nI_eq' (b := 2) hm (by decide) c29
          refine kw_iload_n dX12_daysOf_32 rfl ?_
          refine kw_if_eq (tgt := 41) dX12_daysOf_33 (by decide) (fun c33 => ?_) (fun c33 => ?_)
          · skip
            refine kw_bipush (v := 28) dX12_daysOf_41 (by decide) ?_
            exact kw_iret dX12_daysOf_43 rfl (Nat.le_of_ble_eq_true rfl) (Nat.le_of_ble_eq_true rfl) (hK _ _ _ ⟨rfl, congrArg (fun z => some (pi_ z)) (show nI 28 = nI (dimN y mo) by unfold dimN; rw [if_pos e29, hl]; rfl), rfl⟩)
          · skip
            exact absurd rfl c33
      · skip
        have e18 : y % 400 = 0 := nI_eq' (b := 0) (by omega) (by decide) c18
        have hl : leapB y = true := by unfold leapB; rw [decide_eq_true e3, decide_eq_true e18, Bool.or_true]; rfl
        refine kw_iconst (v := 1) dX12_daysOf_21 (by decide) ?_
        refine kw_goto (tgt := 26) dX12_daysOf_22 (by decide) ?_
        refine kw_istore_n dX12_daysOf_26 (Nat.le_of_ble_eq_true rfl) ?_
        refine kw_iload_n dX12_daysOf_27 rfl ?_
        refine kw_iconst (v := 2) dX12_daysOf_28 (by decide) ?_
        refine kw_icmp_ne (tgt := 44) dX12_daysOf_29 (by decide) (fun c29 => ?_) (fun c29 => ?_)
        · skip
          have e29 : ¬ mo = 2 := fun q => c29 (by rw [q]; rfl)
          refine kw_iload_n dX12_daysOf_44 rfl ?_
          refine kw_iconst (v := 4) dX12_daysOf_45 (by decide) ?_
          refine kw_icmp_eq (tgt := 67) dX12_daysOf_46 (by decide) (fun c46 => ?_) (fun c46 => ?_)
          · skip
            have ho : mo = 4 ∨ mo = 6 ∨ mo = 9 ∨ mo = 11 := Or.inl (nI_eq' (b := 4) hm (by decide) c46)
            refine kw_bipush (v := 30) dX12_daysOf_67 (by decide) ?_
            refine kw_goto (tgt := 74) dX12_daysOf_69 (by decide) ?_
            exact kw_iret dX12_daysOf_74 rfl (Nat.le_of_ble_eq_true rfl) (Nat.le_of_ble_eq_true rfl) (hK _ _ _ ⟨rfl, congrArg (fun z => some (pi_ z)) (show nI 30 = nI (dimN y mo) by unfold dimN; rw [if_neg e29, if_pos ho]), rfl⟩)
          · skip
            have e46 : ¬ mo = 4 := fun q => c46 (by rw [q]; rfl)
            refine kw_iload_n dX12_daysOf_49 rfl ?_
            refine kw_bipush (v := 6) dX12_daysOf_50 (by decide) ?_
            refine kw_icmp_eq (tgt := 67) dX12_daysOf_52 (by decide) (fun c52 => ?_) (fun c52 => ?_)
            · skip
              have ho : mo = 4 ∨ mo = 6 ∨ mo = 9 ∨ mo = 11 := Or.inr (Or.inl (nI_eq' (b := 6) hm (by decide) c52))
              refine kw_bipush (v := 30) dX12_daysOf_67 (by decide) ?_
              refine kw_goto (tgt := 74) dX12_daysOf_69 (by decide) ?_
              exact kw_iret dX12_daysOf_74 rfl (Nat.le_of_ble_eq_true rfl) (Nat.le_of_ble_eq_true rfl) (hK _ _ _ ⟨rfl, congrArg (fun z => some (pi_ z)) (show nI 30 = nI (dimN y mo) by unfold dimN; rw [if_neg e29, if_pos ho]), rfl⟩)
            · skip
              have e52 : ¬ mo = 6 := fun q => c52 (by rw [q]; rfl)
              refine kw_iload_n dX12_daysOf_55 rfl ?_
              refine kw_bipush (v := 9) dX12_daysOf_56 (by decide) ?_
              refine kw_icmp_eq (tgt := 67) dX12_daysOf_58 (by decide) (fun c58 => ?_) (fun c58 => ?_)
              · skip
                have ho : mo = 4 ∨ mo = 6 ∨ mo = 9 ∨ mo = 11 := Or.inr (Or.inr (Or.inl (nI_eq' (b := 9) hm (by decide) c58)))
                refine kw_bipush (v := 30) dX12_daysOf_67 (by decide) ?_
                refine kw_goto (tgt := 74) dX12_daysOf_69 (by decide) ?_
                exact kw_iret dX12_daysOf_74 rfl (Nat.le_of_ble_eq_true rfl) (Nat.le_of_ble_eq_true rfl) (hK _ _ _ ⟨rfl, congrArg (fun z => some (pi_ z)) (show nI 30 = nI (dimN y mo) by unfold dimN; rw [if_neg e29, if_pos ho]), rfl⟩)
              · skip
                have e58 : ¬ mo = 9 := fun q => c58 (by rw [q]; rfl)
                refine kw_iload_n dX12_daysOf_61 rfl ?_
                refine kw_bipush (v := 11) dX12_daysOf_62 (by decide) ?_
                refine kw_icmp_ne (tgt := 72) dX12_daysOf_64 (by decide) (fun c64 => ?_) (fun c64 => ?_)
                · skip
                  have e64 : ¬ mo = 11 := fun q => c64 (by rw [q]; rfl)
                  refine kw_bipush (v := 31) dX12_daysOf_72 (by decide) ?_
                  exact kw_iret dX12_daysOf_74 rfl (Nat.le_of_ble_eq_true rfl) (Nat.le_of_ble_eq_true rfl) (hK _ _ _ ⟨rfl, congrArg (fun z => some (pi_ z)) (show nI 31 = nI (dimN y mo) by unfold dimN; rw [if_neg e29, if_neg (by omega)]), rfl⟩)
                · skip
                  have ho : mo = 4 ∨ mo = 6 ∨ mo = 9 ∨ mo = 11 := Or.inr (Or.inr (Or.inr (nI_eq' (b := 11) hm (by decide) c64)))
                  refine kw_bipush (v := 30) dX12_daysOf_67 (by decide) ?_
                  refine kw_goto (tgt := 74) dX12_daysOf_69 (by decide) ?_
                  exact kw_iret dX12_daysOf_74 rfl (Nat.le_of_ble_eq_true rfl) (Nat.le_of_ble_eq_true rfl) (hK _ _ _ ⟨rfl, congrArg (fun z => some (pi_ z)) (show nI 30 = nI (dimN y mo) by unfold dimN; rw [if_neg e29, if_pos ho]), rfl⟩)
        · skip
          have e29 : mo = 2 := nI_eq' (b := 2) hm (by decide) c29
          refine kw_iload_n dX12_daysOf_32 rfl ?_
          refine kw_if_eq (tgt := 41) dX12_daysOf_33 (by decide) (fun c33 => ?_) (fun c33 => ?_)
          · skip
            exact absurd c33 (by decide)
          · skip
            refine kw_bipush (v := 29) dX12_daysOf_36 (by decide) ?_
            refine kw_goto (tgt := 43) dX12_daysOf_38 (by decide) ?_
            exact kw_iret dX12_daysOf_43 rfl (Nat.le_of_ble_eq_true rfl) (Nat.le_of_ble_eq_true rfl) (hK _ _ _ ⟨rfl, congrArg (fun z => some (pi_ z)) (show nI 29 = nI (dimN y mo) by unfold dimN; rw [if_pos e29, hl]; rfl), rfl⟩)
theorem w_012 {w : Int32} (h0 : 0 ≤ w) (h4 : w ≤ 4) (n4 : ¬ w = 4) (n3 : ¬ w = 3) : w = 0 ∨ w = 1 ∨ w = 2 := by
  obtain ⟨y, hy, rfl⟩ := nI_of (x := w) (Int32.not_lt.mpr h0)
  have h5 : y ≤ 4 := nI_le' (b := 4) hy (by decide) h4
  have h6 : y ≠ 4 := fun q => n4 (by rw [q]; rfl)
  have h7 : y ≠ 3 := fun q => n3 (by rw [q]; rfl)
  have : y = 0 ∨ y = 1 ∨ y = 2 := by omega
  rcases this with rfl | rfl | rfl
  · exact Or.inl rfl
  · exact Or.inr (Or.inl rfl)
  · exact Or.inr (Or.inr rfl)
theorem cum_400 : ∀ m, m < 12 → 146097 ≤ cumN (12 * 400 + m) := by decide
theorem nI_lI {y : Nat} (h : y < 2 ^ 31) : pl_ (nI y).toInt64 = pl_ (lI (y : Int)) := by
  congr 2
  apply Int64.toInt_inj.mp
  rw [Int32.toInt_toInt64, nI_toInt h, lI_toInt (by omega) (by omega)]
set_option maxHeartbeats 4000000 in
set_option maxRecDepth 100000 in
theorem M_calendar (l : Launch) (s : SG) (k : KG) (t : Int64) (w : Int32) : kw_F l yX12_calendar cX12_calendar 13 (Option.some Jvm.ClassFile.FieldType.int) { frames := 1, cells := 0, slots := 0, locals := 25 } [pr_ (40, 0), pl_ t, pi_ w] (hM s k) (some (pi_ (a_calendar t w))) (hM s k) := by
  refine kw_M_of RX12 "calendar" [some (pr_ (40, 0)), some (pl_ t), none, some (pi_ w), none, none, none, none, none, none, none, none, none] (by decide) rfl rfl rfl (Nat.le_of_ble_eq_true rfl) ?_
  intro D ad A
  refine kw_Kgen (fun K hK => ?_)
  refine kw_iload_n dX12_calendar_0 rfl ?_
  refine kw_i2l dX12_calendar_1 ?_
  refine kw_lconst (v := 0) dX12_calendar_2 (by decide) ?_
  refine kw_top (v' := pl_ ((0 : Int32).toInt64)) (by decide) ?_
  refine kw_ldc2 dX12_calendar_3 kt_1214 ?_
  refine kw_top (v' := pl_ ((4 : Int32).toInt64)) (by decide) ?_
  refine kw_callSf (As := [pl_ w.toInt64, pl_ (0 : Int32).toInt64, pl_ (4 : Int32).toInt64]) (n_inI l _ w 0 4) dX12_calendar_6 cl_X12_144 rfl rfl (Nat.le_of_ble_eq_true rfl) ⟨(Nat.le_of_ble_eq_true rfl), (Nat.le_of_ble_eq_true rfl), (Nat.le_of_ble_eq_true rfl), (Nat.le_of_ble_eq_true rfl)⟩ ?_
  refine kw_if_eq (tgt := 25) dX12_calendar_9 (by decide) (fun c9 => ?_) (fun c9 => ?_)
  · skip
    have e9 := inB_f (b2_0.mp c9)
    have ho : a_calendar t w = -102 := by
      unfold a_calendar
      split
      · rfl
      · rw [if_neg (fun q => by subst q; revert e9; decide), if_neg (fun q => by subst q; revert e9; decide), if_neg (fun q => by subst q; revert e9; decide), if_neg (fun q => by subst q; revert e9; decide), if_neg (fun q => by subst q; revert e9; decide)]
    refine kw_bipush (v := (-102)) dX12_calendar_25 (by decide) ?_
    exact kw_iret dX12_calendar_27 rfl (Nat.le_of_ble_eq_true rfl) (Nat.le_of_ble_eq_true rfl) (hK _ _ _ ⟨rfl, by rw [ho], rfl⟩)
  · skip
    have e9 := inB_t (b2_n0.mp c9)
    refine kw_lload_n dX12_calendar_12 rfl ?_
    refine kw_ldc2 dX12_calendar_13 kt_1215 ?_
    refine kw_ldc2 dX12_calendar_16 kt_1086 ?_
    refine kw_callSf (As := [pl_ t, pl_ (-1000000000000), pl_ 1000000000000]) (n_in l _ t (-1000000000000) 1000000000000) dX12_calendar_19 cl_X12_144 rfl rfl (Nat.le_of_ble_eq_true rfl) ⟨(Nat.le_of_ble_eq_true rfl), (Nat.le_of_ble_eq_true rfl), (Nat.le_of_ble_eq_true rfl), (Nat.le_of_ble_eq_true rfl)⟩ ?_
    refine kw_if_ne (tgt := 28) dX12_calendar_22 (by decide) (fun c22 => ?_) (fun c22 => ?_)
    · skip
      obtain ⟨e22, e23⟩ := in64_t (b2_n0.mp c22)
      rw [a_calendar, if_neg (fun q => q.elim (fun z => Int64.not_lt.mpr e22 z) (fun z => Int64.not_lt.mpr e23 z))] at hK
      rw [Int64.le_iff_toInt_le] at e22 e23
      have e22 : -1000000000000 ≤ t.toInt := e22
      have e23 : t.toInt ≤ 1000000000000 := e23
      have hd : dOk (dayI t) := by unfold dOk dayI; omega
      obtain ⟨d, hdd⟩ : ∃ d, d = dayI t := ⟨_, rfl⟩
      rw [← hdd] at hd hK
      obtain ⟨d1, d2⟩ := hd
      have ed : t.toInt / 86400 = d := hdd.symm
      refine kw_lload_n dX12_calendar_28 rfl ?_
      refine kw_top (v' := pl_ (lI t.toInt)) (by rw [nm_lI]) ?_
      refine kw_ldc2 dX12_calendar_29 kt_1204 ?_
      refine kw_top (v' := pl_ (lI 86400)) (by rfl) ?_
      refine kw_callSf (As := [pl_ (lI t.toInt), pl_ (lI 86400)]) (n_floor l _ t.toInt 86400 (by omega) (by omega) (by decide) (by decide)) dX12_calendar_32 cl_X12_239 rfl rfl (Nat.le_of_ble_eq_true rfl) ⟨(Nat.le_of_ble_eq_true rfl), (Nat.le_of_ble_eq_true rfl), (Nat.le_of_ble_eq_true rfl), (Nat.le_of_ble_eq_true rfl)⟩ ?_
      refine kw_top (v' := pl_ (lI d)) (by rw [ed]) ?_
      refine kw_lstore dX12_calendar_35 (Nat.le_of_ble_eq_true rfl) ?_
      refine kw_iload_n dX12_calendar_37 rfl ?_
      refine kw_iconst (v := 4) dX12_calendar_38 (by decide) ?_
      refine kw_icmp_ne (tgt := 46) dX12_calendar_39 (by decide) (fun c39 => ?_) (fun c39 => ?_)
      · skip
        refine kw_iload_n dX12_calendar_46 rfl ?_
        refine kw_iconst (v := 3) dX12_calendar_47 (by decide) ?_
        refine kw_icmp_ne (tgt := 76) dX12_calendar_48 (by decide) (fun c48 => ?_) (fun c48 => ?_)
        · skip
          have hw3 : w = 0 ∨ w = 1 ∨ w = 2 := w_012 e9.1 e9.2 c39 c48
          refine kw_lload dX12_calendar_76 rfl ?_
          refine kw_ldc2 dX12_calendar_78 kt_1216 ?_
          refine kw_top (v' := pl_ (lI 719528)) (by rfl) ?_
          refine kw_ladd dX12_calendar_81 ?_
          refine kw_top (v' := pl_ (lI (d + 719528))) (congrArg pl_ (lI_add _ _)) ?_
          refine kw_lstore dX12_calendar_82 (Nat.le_of_ble_eq_true rfl) ?_
          refine kw_lload dX12_calendar_84 rfl ?_
          refine kw_ldc2 dX12_calendar_86 kt_1217 ?_
          refine kw_top (v' := pl_ (lI 146097)) (by rfl) ?_
          refine kw_callSf (As := [pl_ (lI (d + 719528)), pl_ (lI 146097)]) (n_floor l _ (d + 719528) 146097 (by omega) (by omega) (by decide) (by decide)) dX12_calendar_89 cl_X12_239 rfl rfl (Nat.le_of_ble_eq_true rfl) ⟨(Nat.le_of_ble_eq_true rfl), (Nat.le_of_ble_eq_true rfl), (Nat.le_of_ble_eq_true rfl), (Nat.le_of_ble_eq_true rfl)⟩ ?_
          obtain ⟨ag, hag⟩ : ∃ ag, ag = (d + 719528) / 146097 := ⟨_, rfl⟩
          rw [← hag]
          obtain ⟨e, he⟩ : ∃ e : Nat, (e : Int) = (d + 719528) % 146097 := ⟨((d + 719528) % 146097).toNat, by omega⟩
          have he2 : e < 146097 := by omega
          have hagb : -200 ≤ ag ∧ ag ≤ 200 := by omega
          have loop : ∀ (n_ : Nat) (y : Nat) (mo : Nat), 4800 - (12 * y + mo) < n_ → y ≤ 400 → mo < 12 → cumN (12 * y + mo) ≤ e → kw_G l D cX12_calendar RX12 (Option.some Jvm.ClassFile.FieldType.int) "calendar" { frames := 1, cells := 0, slots := 0, locals := 25 } A K ad (hM s k) 0 0 112 [some (pr_ (40, 0)), some (pl_ t), none, some (pi_ w), none, none, none, none, some (pl_ (lI ag)), none, some (pi_ (nI (e - cumN (12 * y + mo)))), some (pi_ (nI y)), some (pi_ (nI (mo + 1)))] [] := by
            intro n_
            induction n_ with
            | zero =>
              intro y mo hm_
              exact absurd hm_ (Nat.not_lt_zero _)
            | succ n_ ih =>
              intro y mo hm_ hy hmo hcu
              have h48 : 12 * y + mo < 4800 := by
                apply Nat.lt_of_not_le
                intro q
                have hym : 12 * y + mo = 4800 ∨ 4800 < 12 * y + mo := by omega
                rcases hym with z | z
                · rw [z, cum_4800] at hcu; omega
                · have : y = 400 := by omega
                  subst this
                  have := cum_400 mo hmo
                  omega
              have hy4 : y < 400 := by omega
              have hcs := cum_s hy4 hmo
              have hdb := dim_b y (mo + 1)
              refine kw_iload dX12_calendar_112 rfl ?_
              refine kw_iload dX12_calendar_114 rfl ?_
              refine kw_iload dX12_calendar_116 rfl ?_
              refine kw_callSf (As := [pi_ (nI y), pi_ (nI (mo + 1))]) (n_days l _ y (mo + 1) (by omega) (by omega)) dX12_calendar_118 cl_X12_334 rfl rfl (Nat.le_of_ble_eq_true rfl) ⟨(Nat.le_of_ble_eq_true rfl), (Nat.le_of_ble_eq_true rfl), (Nat.le_of_ble_eq_true rfl), (Nat.le_of_ble_eq_true rfl)⟩ ?_
              refine kw_icmp_lt (tgt := 174) dX12_calendar_121 (by decide) (fun c121 => ?_) (fun c121 => ?_)
              · skip
                have e121 : e - cumN (12 * y + mo) < dimN y (mo + 1) := nI_lt' (by omega) (by omega) c121
                obtain ⟨q1, q2⟩ := cal_eq (d := d) (μ := 12 * y + mo) h48 he hcu (by omega)
                rw [← hag] at q1
                refine kw_iload_n dX12_calendar_174 rfl ?_
                refine kw_if_ne (tgt := 192) dX12_calendar_175 (by decide) (fun c175 => ?_) (fun c175 => ?_)
                · skip
                  rw [if_neg c175] at hK
                  refine kw_iload_n dX12_calendar_192 rfl ?_
                  refine kw_iconst (v := 1) dX12_calendar_193 (by decide) ?_
                  refine kw_icmp_ne (tgt := 202) dX12_calendar_194 (by decide) (fun c194 => ?_) (fun c194 => ?_)
                  · skip
                    have e194 : w = 2 := (hw3.resolve_left c175).resolve_left c194
                    subst e194
                    rw [if_neg (by decide), if_pos rfl] at hK
                    refine kw_iload dX12_calendar_202 rfl ?_
                    refine kw_iconst (v := 1) dX12_calendar_204 (by decide) ?_
                    refine kw_iadd dX12_calendar_205 ?_
                    refine kw_top (v' := pi_ (iI (domI d))) (by rw [nI_1]; exact congrArg pi_ (show iI ((e - cumN (12 * y + mo) + 1 : Nat) : Int) = iI (domI d) by rw [q2, show ((e - cumN (12 * y + mo) + 1 : Nat) : Int) = (e : Int) - cumN (12 * y + mo) + 1 by omega])) ?_
                    exact kw_iret dX12_calendar_206 rfl (Nat.le_of_ble_eq_true rfl) (Nat.le_of_ble_eq_true rfl) (hK _ _ _ ⟨rfl, rfl, rfl⟩)
                  · skip
                    have e194 : w = 1 := c194
                    subst e194
                    rw [if_pos rfl] at hK
                    refine kw_iload dX12_calendar_197 rfl ?_
                    refine kw_top (v' := pi_ (iI (monI d % 12 + 1))) (congrArg pi_ (show iI ((mo + 1 : Nat) : Int) = iI (monI d % 12 + 1) by rw [show monI d % 12 + 1 = ((mo + 1 : Nat) : Int) by omega])) ?_
                    refine kw_goto (tgt := 206) dX12_calendar_199 (by decide) ?_
                    exact kw_iret dX12_calendar_206 rfl (Nat.le_of_ble_eq_true rfl) (Nat.le_of_ble_eq_true rfl) (hK _ _ _ ⟨rfl, rfl, rfl⟩)
                · skip
                  have e175 : w = 0 := c175
                  subst e175
                  rw [if_pos rfl] at hK
                  refine kw_ldc2 dX12_calendar_178 kt_1221 ?_
                  refine kw_top (v' := pl_ (lI 400)) (by rfl) ?_
                  refine kw_lload dX12_calendar_181 rfl ?_
                  refine kw_lmul dX12_calendar_183 ?_
                  refine kw_top (v' := pl_ (lI (400 * ag))) (congrArg pl_ (lI_mul _ _)) ?_
                  refine kw_iload dX12_calendar_184 rfl ?_
                  refine kw_i2l dX12_calendar_186 ?_
                  refine kw_top (v' := pl_ (lI (y : Int))) (nI_lI (by omega)) ?_
                  refine kw_ladd dX12_calendar_187 ?_
                  refine kw_top (v' := pl_ (lI (400 * ag + y))) (congrArg pl_ (lI_add _ _)) ?_
                  refine kw_l2i dX12_calendar_188 ?_
                  refine kw_top (v' := pi_ (iI (monI d / 12))) (by rw [lI_i, show 400 * ag + (y : Int) = monI d / 12 by omega]) ?_
                  refine kw_goto (tgt := 206) dX12_calendar_189 (by decide) ?_
                  exact kw_iret dX12_calendar_206 rfl (Nat.le_of_ble_eq_true rfl) (Nat.le_of_ble_eq_true rfl) (hK _ _ _ ⟨rfl, rfl, rfl⟩)
              · skip
                have e121 : dimN y (mo + 1) ≤ e - cumN (12 * y + mo) := nI_nlt' (by omega) (by omega) c121
                refine kw_iload dX12_calendar_124 rfl ?_
                refine kw_iload dX12_calendar_126 rfl ?_
                refine kw_iload dX12_calendar_128 rfl ?_
                refine kw_callSf (As := [pi_ (nI y), pi_ (nI (mo + 1))]) (n_days l _ y (mo + 1) (by omega) (by omega)) dX12_calendar_130 cl_X12_334 rfl rfl (Nat.le_of_ble_eq_true rfl) ⟨(Nat.le_of_ble_eq_true rfl), (Nat.le_of_ble_eq_true rfl), (Nat.le_of_ble_eq_true rfl), (Nat.le_of_ble_eq_true rfl)⟩ ?_
                refine kw_isub dX12_calendar_133 ?_
                refine kw_top (v' := pi_ (nI (e - cumN (12 * y + mo + 1)))) (by rw [pk_sub e121, show e - cumN (12 * y + mo) - dimN y (mo + 1) = e - cumN (12 * y + mo + 1) by omega]) ?_
                refine kw_istore dX12_calendar_134 (Nat.le_of_ble_eq_true rfl) ?_
                refine kw_iload dX12_calendar_136 rfl ?_
                refine kw_bipush (v := 12) dX12_calendar_138 (by decide) ?_
                refine kw_icmp_ne (tgt := 150) dX12_calendar_140 (by decide) (fun c140 => ?_) (fun c140 => ?_)
                · skip
                  have e140 : mo + 1 ≠ 12 := fun q => c140 (by rw [q]; rfl)
                  refine kw_iload dX12_calendar_150 rfl ?_
                  refine kw_istore dX12_calendar_152 (Nat.le_of_ble_eq_true rfl) ?_
                  refine kw_iload dX12_calendar_154 rfl ?_
                  refine kw_bipush (v := 12) dX12_calendar_156 (by decide) ?_
                  refine kw_icmp_ne (tgt := 165) dX12_calendar_158 (by decide) (fun c158 => ?_) (fun c158 => ?_)
                  · skip
                    refine kw_iload dX12_calendar_165 rfl ?_
                    refine kw_iconst (v := 1) dX12_calendar_167 (by decide) ?_
                    refine kw_iadd dX12_calendar_168 ?_
                    refine kw_top (v' := pi_ (nI (mo + 1 + 1))) (by rw [nI_1]) ?_
                    refine kw_istore dX12_calendar_169 (Nat.le_of_ble_eq_true rfl) ?_
                    refine kw_goto (tgt := 112) dX12_calendar_171 (by decide) ?_
                    exact ih y (mo + 1) (by omega) hy (by omega) (by rw [← Nat.add_assoc]; omega)
                  · skip
                    exact absurd c158 c140
                · skip
                  have e140 : mo + 1 = 12 := nI_eq' (b := 12) (by omega) (by decide) c140
                  refine kw_iload dX12_calendar_143 rfl ?_
                  refine kw_iconst (v := 1) dX12_calendar_145 (by decide) ?_
                  refine kw_iadd dX12_calendar_146 ?_
                  refine kw_top (v' := pi_ (nI (y + 1))) (by rw [← nI_1]) ?_
                  refine kw_goto (tgt := 152) dX12_calendar_147 (by decide) ?_
                  refine kw_istore dX12_calendar_152 (Nat.le_of_ble_eq_true rfl) ?_
                  refine kw_iload dX12_calendar_154 rfl ?_
                  refine kw_bipush (v := 12) dX12_calendar_156 (by decide) ?_
                  refine kw_icmp_ne (tgt := 165) dX12_calendar_158 (by decide) (fun c158 => ?_) (fun c158 => ?_)
                  · skip
                    exact absurd c140 c158
                  · skip
                    refine kw_iconst (v := (nI 1)) dX12_calendar_161 (by decide) ?_
                    refine kw_goto (tgt := 169) dX12_calendar_162 (by decide) ?_
                    refine kw_istore dX12_calendar_169 (Nat.le_of_ble_eq_true rfl) ?_
                    refine kw_goto (tgt := 112) dX12_calendar_171 (by decide) ?_
                    refine kw_lvle (lv' := [some (pr_ (40, 0)), some (pl_ t), none, some (pi_ w), none, none, none, none, some (pl_ (lI ag)), none, some (pi_ (nI (e - cumN (12 * (y + 1) + 0)))), some (pi_ (nI (y + 1))), some (pi_ (nI (0 + 1)))]) (by rw [show 12 * (y + 1) + 0 = 12 * y + mo + 1 by omega]; exact kw_le_s (kw_le_s (kw_le_n (kw_le_s (kw_le_n (kw_le_n (kw_le_n (kw_le_n (kw_le_s (kw_le_n (kw_le_s (kw_le_s (kw_le_s kw_le_0))))))))))))) ?_
                    exact ih (y + 1) 0 (by omega) (by omega) (by omega) (by rw [show 12 * (y + 1) + 0 = 12 * y + mo + 1 by omega]; omega)
          refine kw_lstore dX12_calendar_92 (Nat.le_of_ble_eq_true rfl) ?_
          refine kw_lload dX12_calendar_94 rfl ?_
          refine kw_ldc2 dX12_calendar_96 kt_1217 ?_
          refine kw_top (v' := pl_ (lI 146097)) (by rfl) ?_
          refine kw_lload dX12_calendar_99 rfl ?_
          refine kw_lmul dX12_calendar_101 ?_
          refine kw_top (v' := pl_ (lI (146097 * ag))) (congrArg pl_ (lI_mul _ _)) ?_
          refine kw_lsub dX12_calendar_102 ?_
          refine kw_top (v' := pl_ (lI (d + 719528 - 146097 * ag))) (congrArg pl_ (lI_sub _ _)) ?_
          refine kw_l2i dX12_calendar_103 ?_
          refine kw_top (v' := pi_ (nI e)) (by rw [lI_i, show d + 719528 - 146097 * ag = (e : Int) by omega]; rfl) ?_
          refine kw_istore dX12_calendar_104 (Nat.le_of_ble_eq_true rfl) ?_
          refine kw_iconst (v := (nI 0)) dX12_calendar_106 (by decide) ?_
          refine kw_istore dX12_calendar_107 (Nat.le_of_ble_eq_true rfl) ?_
          refine kw_iconst (v := (nI 1)) dX12_calendar_109 (by decide) ?_
          refine kw_istore dX12_calendar_110 (Nat.le_of_ble_eq_true rfl) ?_
          refine kw_lvle (lv' := [some (pr_ (40, 0)), some (pl_ t), none, some (pi_ w), none, none, none, none, some (pl_ (lI ag)), none, some (pi_ (nI (e - cumN (12 * 0 + 0)))), some (pi_ (nI 0)), some (pi_ (nI (0 + 1)))]) (kw_le_s (kw_le_s (kw_le_n (kw_le_s (kw_le_n (kw_le_n (kw_le_n (kw_le_n (kw_le_s (kw_le_n (kw_le_s (kw_le_s (kw_le_s kw_le_0))))))))))))) ?_
          exact loop 4801 0 0 (by omega) (by omega) (by omega) (Nat.zero_le _)
        · skip
          have e48 : w = 3 := c48
          subst e48
          rw [if_neg (by decide), if_neg (by decide), if_neg (by decide), if_pos rfl] at hK
          refine kw_lload dX12_calendar_51 rfl ?_
          refine kw_ldc2 dX12_calendar_53 kt_1100 ?_
          refine kw_top (v' := pl_ (lI 3)) (by rfl) ?_
          refine kw_ladd dX12_calendar_56 ?_
          refine kw_top (v' := pl_ (lI (d + 3))) (congrArg pl_ (lI_add _ _)) ?_
          refine kw_ldc2 dX12_calendar_57 kt_1208 ?_
          refine kw_top (v' := pl_ (lI 7)) (by rfl) ?_
          refine kw_lload dX12_calendar_60 rfl ?_
          refine kw_ldc2 dX12_calendar_62 kt_1100 ?_
          refine kw_top (v' := pl_ (lI 3)) (by rfl) ?_
          refine kw_ladd dX12_calendar_65 ?_
          refine kw_top (v' := pl_ (lI (d + 3))) (congrArg pl_ (lI_add _ _)) ?_
          refine kw_ldc2 dX12_calendar_66 kt_1208 ?_
          refine kw_top (v' := pl_ (lI 7)) (by rfl) ?_
          refine kw_callSf (As := [pl_ (lI (d + 3)), pl_ (lI 7)]) (n_floor l _ (d + 3) 7 (by omega) (by omega) (by decide) (by decide)) dX12_calendar_69 cl_X12_239 rfl rfl (Nat.le_of_ble_eq_true rfl) ⟨(Nat.le_of_ble_eq_true rfl), (Nat.le_of_ble_eq_true rfl), (Nat.le_of_ble_eq_true rfl), (Nat.le_of_ble_eq_true rfl)⟩ ?_
          refine kw_lmul dX12_calendar_72 ?_
          refine kw_top (v' := pl_ (lI (7 * ((d + 3) / 7)))) (congrArg pl_ (lI_mul _ _)) ?_
          refine kw_lsub dX12_calendar_73 ?_
          refine kw_top (v' := pl_ (lI (d + 3 - 7 * ((d + 3) / 7)))) (congrArg pl_ (lI_sub _ _)) ?_
          refine kw_l2i dX12_calendar_74 ?_
          refine kw_top (v' := pi_ (iI ((d + 3) % 7))) (by rw [lI_i, show d + 3 - 7 * ((d + 3) / 7) = (d + 3) % 7 by omega]) ?_
          exact kw_iret dX12_calendar_75 rfl (Nat.le_of_ble_eq_true rfl) (Nat.le_of_ble_eq_true rfl) (hK _ _ _ ⟨rfl, rfl, rfl⟩)
      · skip
        have e39 : w = 4 := c39
        subst e39
        rw [if_neg (by decide), if_neg (by decide), if_neg (by decide), if_neg (by decide), if_pos rfl] at hK
        refine kw_lload dX12_calendar_42 rfl ?_
        refine kw_l2i dX12_calendar_44 ?_
        refine kw_top (v' := pi_ (iI d)) (by rw [lI_i]) ?_
        exact kw_iret dX12_calendar_45 rfl (Nat.le_of_ble_eq_true rfl) (Nat.le_of_ble_eq_true rfl) (hK _ _ _ ⟨rfl, rfl, rfl⟩)
    · skip
      refine kw_bipush (v := (-102)) dX12_calendar_25 (by decide) ?_
      exact kw_iret dX12_calendar_27 rfl (Nat.le_of_ble_eq_true rfl) (Nat.le_of_ble_eq_true rfl) (hK _ _ _ ⟨rfl, by rw [a_calendar, if_pos (in64_f (b2_0.mp c22))], rfl⟩)
